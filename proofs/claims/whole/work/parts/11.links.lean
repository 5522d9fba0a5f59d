theorem fl_X3_9 : Cond.fieldLink RX3 9 RX3 "sizes" "[I" ∈ gw := gwm (i := 119) (by decide +kernel) (by decide +kernel)
theorem ml_X3_42 : Cond.methodLinkNest RX3 42 yX5_entry RX5 ∈ nestW := List.mem_filter.mpr ⟨List.mem_of_getElem? (i := 276) (by decide +kernel), rfl⟩
theorem kc_X5_entry : Cond.code yX5_entry cX5_entry 2 (some .int) ∈ gw := gwm (i := 302) (by decide +kernel) (by decide +kernel)
theorem ki_StickPairs : Cond.initialized RX5 ∈ gw := gwm (i := 80) (by decide +kernel) (by decide +kernel)
theorem st_X5_entry : Cond.static yX5_entry ∈ gw := gwm (i := 301) (by decide +kernel) (by decide +kernel)
theorem fl_X5_19 : Cond.fieldLink RX5 19 RX5 "saved" "[LStickPairs$State;" ∈ gw := gwm (i := 262) (by decide +kernel) (by decide +kernel)
theorem fl_X3_15 : Cond.fieldLink RX3 15 RX3 "ranks" "[I" ∈ gw := gwm (i := 120) (by decide +kernel) (by decide +kernel)
theorem fl_X3_18 : Cond.fieldLink RX3 18 RX3 "delays" "[I" ∈ gw := gwm (i := 121) (by decide +kernel) (by decide +kernel)
theorem fl_X3_21 : Cond.fieldLink RX3 21 RX3 "reads" "[I" ∈ gw := gwm (i := 122) (by decide +kernel) (by decide +kernel)
theorem fl_X3_24 : Cond.fieldLink RX3 24 RX3 "failed" "[Z" ∈ gw := gwm (i := 123) (by decide +kernel) (by decide +kernel)
theorem fl_X3_28 : Cond.fieldLink RX3 28 RX3 "mapped" "[Z" ∈ gw := gwm (i := 124) (by decide +kernel) (by decide +kernel)
theorem fl_X1_9 : Cond.fieldLink RX1 9 RX1 "kind" "I" ∈ gw := gwm (i := 146) (by decide +kernel) (by decide +kernel)
theorem fl_X1_15 : Cond.fieldLink RX1 15 RX1 "sizes" "[I" ∈ gw := gwm (i := 147) (by decide +kernel) (by decide +kernel)
theorem ml_X1_19 : Cond.methodLink RX1 19 arraycopyName ∈ gw := gwm (i := 327) (by decide +kernel) (by decide +kernel)
theorem fl_X1_25 : Cond.fieldLink RX1 25 RX1 "room0" "I" ∈ gw := gwm (i := 148) (by decide +kernel) (by decide +kernel)
theorem fl_X1_28 : Cond.fieldLink RX1 28 RX1 "room1" "I" ∈ gw := gwm (i := 149) (by decide +kernel) (by decide +kernel)
theorem fl_X1_31 : Cond.fieldLink RX1 31 RX1 "lesserRoom" "I" ∈ gw := gwm (i := 150) (by decide +kernel) (by decide +kernel)
theorem fl_X1_34 : Cond.fieldLink RX1 34 RX1 "blocks" "I" ∈ gw := gwm (i := 151) (by decide +kernel) (by decide +kernel)
theorem fl_X1_37 : Cond.fieldLink RX1 37 RX1 "wide" "I" ∈ gw := gwm (i := 154) (by decide +kernel) (by decide +kernel)
theorem fl_X0_9 : Cond.fieldLink RX0 9 RX0 "free" "[I" ∈ gw := gwm (i := 177) (by decide +kernel) (by decide +kernel)
theorem ml_X0_15 : Cond.methodLink RX0 15 arraycopyName ∈ gw := gwm (i := 334) (by decide +kernel) (by decide +kernel)
theorem fl_X0_21 : Cond.fieldLink RX0 21 RX0 "tick" "I" ∈ gw := gwm (i := 178) (by decide +kernel) (by decide +kernel)
theorem fl_X0_25 : Cond.fieldLink RX0 25 RX0 "waited" "I" ∈ gw := gwm (i := 180) (by decide +kernel) (by decide +kernel)
theorem fl_X2_12 : Cond.fieldLink RX2 12 RX2 "sticks" "LStickPairs$Sticks;" ∈ gw := gwm (i := 189) (by decide +kernel) (by decide +kernel)
theorem ml_X2_43 : Cond.methodLink RX2 43 yX3_copyFrom ∈ gw := gwm (i := 319) (by decide +kernel) (by decide +kernel)
theorem kc_X3_copyFrom : Cond.code yX3_copyFrom cX3_copyFrom 3 none ∈ gw := gwm (i := 322) (by decide +kernel) (by decide +kernel)
theorem ki_StickPairs_Sticks : Cond.initialized RX3 ∈ gw := gwm (i := 82) (by decide +kernel) (by decide +kernel)
theorem ii_X3_copyFrom : Cond.instanceMethod yX3_copyFrom ∈ gw := gwm (i := 320) (by decide +kernel) (by decide +kernel)
theorem is_X3_copyFrom : Cond.selects RX3 yX3_copyFrom yX3_copyFrom ∈ gw := gwm (i := 321) (by decide +kernel) (by decide +kernel)
theorem fl_X2_21 : Cond.fieldLink RX2 21 RX2 "layout" "LStickPairs$Layout;" ∈ gw := gwm (i := 191) (by decide +kernel) (by decide +kernel)
theorem ml_X2_47 : Cond.methodLink RX2 47 yX1_copyFrom ∈ gw := gwm (i := 323) (by decide +kernel) (by decide +kernel)
theorem kc_X1_copyFrom : Cond.code yX1_copyFrom cX1_copyFrom 2 none ∈ gw := gwm (i := 326) (by decide +kernel) (by decide +kernel)
theorem ki_StickPairs_Layout : Cond.initialized RX1 ∈ gw := gwm (i := 83) (by decide +kernel) (by decide +kernel)
theorem ii_X1_copyFrom : Cond.instanceMethod yX1_copyFrom ∈ gw := gwm (i := 324) (by decide +kernel) (by decide +kernel)
theorem is_X1_copyFrom : Cond.selects RX1 yX1_copyFrom yX1_copyFrom ∈ gw := gwm (i := 325) (by decide +kernel) (by decide +kernel)
theorem fl_X2_28 : Cond.fieldLink RX2 28 RX2 "clock" "LStickPairs$Clock;" ∈ gw := gwm (i := 193) (by decide +kernel) (by decide +kernel)
theorem ml_X2_50 : Cond.methodLink RX2 50 yX0_copyFrom ∈ gw := gwm (i := 330) (by decide +kernel) (by decide +kernel)
theorem kc_X0_copyFrom : Cond.code yX0_copyFrom cX0_copyFrom 2 none ∈ gw := gwm (i := 333) (by decide +kernel) (by decide +kernel)
theorem ki_StickPairs_Clock : Cond.initialized RX0 ∈ gw := gwm (i := 84) (by decide +kernel) (by decide +kernel)
theorem ii_X0_copyFrom : Cond.instanceMethod yX0_copyFrom ∈ gw := gwm (i := 331) (by decide +kernel) (by decide +kernel)
theorem is_X0_copyFrom : Cond.selects RX0 yX0_copyFrom yX0_copyFrom ∈ gw := gwm (i := 332) (by decide +kernel) (by decide +kernel)
theorem fl_X2_32 : Cond.fieldLink RX2 32 RX2 "values" "[I" ∈ gw := gwm (i := 195) (by decide +kernel) (by decide +kernel)
theorem ml_X2_53 : Cond.methodLink RX2 53 arraycopyName ∈ gw := gwm (i := 335) (by decide +kernel) (by decide +kernel)
theorem fl_X2_36 : Cond.fieldLink RX2 36 RX2 "mapSetting" "I" ∈ gw := gwm (i := 196) (by decide +kernel) (by decide +kernel)
theorem fl_X2_40 : Cond.fieldLink RX2 40 RX2 "pairSetting" "I" ∈ gw := gwm (i := 198) (by decide +kernel) (by decide +kernel)
theorem fl_X2_59 : Cond.fieldLink RX2 59 RX2 "blocksRead" "I" ∈ gw := gwm (i := 199) (by decide +kernel) (by decide +kernel)
theorem fl_X2_62 : Cond.fieldLink RX2 62 RX2 "pairsRead" "I" ∈ gw := gwm (i := 201) (by decide +kernel) (by decide +kernel)
theorem fl_X2_65 : Cond.fieldLink RX2 65 RX2 "starts" "I" ∈ gw := gwm (i := 203) (by decide +kernel) (by decide +kernel)
theorem fl_X5_212 : Cond.fieldLink RX5 212 RX5 "savedCount" "I" ∈ gw := gwm (i := 263) (by decide +kernel) (by decide +kernel)
theorem ml_X5_292 : Cond.methodLink RX5 292 yX5_moveOldestToEnd ∈ gw := gwm (i := 739) (by decide +kernel) (by decide +kernel)
theorem kc_X5_moveOldestToEnd : Cond.code yX5_moveOldestToEnd cX5_moveOldestToEnd 3 none ∈ gw := gwm (i := 742) (by decide +kernel) (by decide +kernel)
theorem ii_X5_moveOldestToEnd : Cond.instanceMethod yX5_moveOldestToEnd ∈ gw := gwm (i := 741) (by decide +kernel) (by decide +kernel)
theorem is_X5_moveOldestToEnd : Cond.selects RX5 yX5_moveOldestToEnd yX5_moveOldestToEnd ∈ gw := gwm (i := 20) (by decide +kernel) (by decide +kernel)
theorem fl_X5_12 : Cond.fieldLink RX5 12 RX5 "now" "LStickPairs$State;" ∈ gw := gwm (i := 259) (by decide +kernel) (by decide +kernel)
theorem ml_X5_202 : Cond.methodLink RX5 202 yX2_copyFrom ∈ gw := gwm (i := 315) (by decide +kernel) (by decide +kernel)
theorem kc_X2_copyFrom : Cond.code yX2_copyFrom cX2_copyFrom 2 none ∈ gw := gwm (i := 318) (by decide +kernel) (by decide +kernel)
theorem ki_StickPairs_State : Cond.initialized RX2 ∈ gw := gwm (i := 81) (by decide +kernel) (by decide +kernel)
theorem ii_X2_copyFrom : Cond.instanceMethod yX2_copyFrom ∈ gw := gwm (i := 316) (by decide +kernel) (by decide +kernel)
theorem is_X2_copyFrom : Cond.selects RX2 yX2_copyFrom yX2_copyFrom ∈ gw := gwm (i := 317) (by decide +kernel) (by decide +kernel)
theorem ml_X3_31 : Cond.methodLinkNest RX3 31 yX5_isSlot RX5 ∈ nestW := List.mem_filter.mpr ⟨List.mem_of_getElem? (i := 273) (by decide +kernel), rfl⟩
theorem kc_X5_isSlot : Cond.code yX5_isSlot cX5_isSlot 1 (some .boolean) ∈ gw := gwm (i := 354) (by decide +kernel) (by decide +kernel)
theorem st_X5_isSlot : Cond.static yX5_isSlot ∈ gw := gwm (i := 353) (by decide +kernel) (by decide +kernel)
theorem ml_X0_34 : Cond.methodLinkNest RX0 34 yX5_isSlot RX5 ∈ nestW := List.mem_filter.mpr ⟨List.mem_of_getElem? (i := 672) (by decide +kernel), rfl⟩
theorem ml_X3_46 : Cond.methodLink RX3 46 yX3_isPlugged ∈ gw := gwm (i := 389) (by decide +kernel) (by decide +kernel)
theorem kc_X3_isPlugged : Cond.code yX3_isPlugged cX3_isPlugged 2 (some .boolean) ∈ gw := gwm (i := 392) (by decide +kernel) (by decide +kernel)
theorem ii_X3_isPlugged : Cond.instanceMethod yX3_isPlugged ∈ gw := gwm (i := 390) (by decide +kernel) (by decide +kernel)
theorem is_X3_isPlugged : Cond.selects RX3 yX3_isPlugged yX3_isPlugged ∈ gw := gwm (i := 391) (by decide +kernel) (by decide +kernel)
theorem ml_X5_44 : Cond.methodLink RX5 44 yX5_isSlot ∈ gw := gwm (i := 630) (by decide +kernel) (by decide +kernel)
theorem ml_X1_78 : Cond.methodLinkNest RX1 78 yX5_entry RX5 ∈ nestW := List.mem_filter.mpr ⟨List.mem_of_getElem? (i := 418) (by decide +kernel), rfl⟩
theorem ml_X1_62 : Cond.methodLink RX1 62 yX1_isMirrored ∈ gw := gwm (i := 425) (by decide +kernel) (by decide +kernel)
theorem kc_X1_isMirrored : Cond.code yX1_isMirrored cX1_isMirrored 1 (some .boolean) ∈ gw := gwm (i := 428) (by decide +kernel) (by decide +kernel)
theorem ii_X1_isMirrored : Cond.instanceMethod yX1_isMirrored ∈ gw := gwm (i := 426) (by decide +kernel) (by decide +kernel)
theorem is_X1_isMirrored : Cond.selects RX1 yX1_isMirrored yX1_isMirrored ∈ gw := gwm (i := 427) (by decide +kernel) (by decide +kernel)
theorem ml_X1_82 : Cond.methodLink RX1 82 yX1_blockAt ∈ gw := gwm (i := 768) (by decide +kernel) (by decide +kernel)
theorem kc_X1_blockAt : Cond.code yX1_blockAt cX1_blockAt 5 (some .int) ∈ gw := gwm (i := 496) (by decide +kernel) (by decide +kernel)
theorem ii_X1_blockAt : Cond.instanceMethod yX1_blockAt ∈ gw := gwm (i := 494) (by decide +kernel) (by decide +kernel)
theorem is_X1_blockAt : Cond.selects RX1 yX1_blockAt yX1_blockAt ∈ gw := gwm (i := 495) (by decide +kernel) (by decide +kernel)
theorem ml_X2_94 : Cond.methodLink RX2 94 yX3_isLeft ∈ gw := gwm (i := 437) (by decide +kernel) (by decide +kernel)
theorem kc_X3_isLeft : Cond.code yX3_isLeft cX3_isLeft 2 (some .boolean) ∈ gw := gwm (i := 440) (by decide +kernel) (by decide +kernel)
theorem ii_X3_isLeft : Cond.instanceMethod yX3_isLeft ∈ gw := gwm (i := 438) (by decide +kernel) (by decide +kernel)
theorem is_X3_isLeft : Cond.selects RX3 yX3_isLeft yX3_isLeft ∈ gw := gwm (i := 439) (by decide +kernel) (by decide +kernel)
theorem ml_X2_98 : Cond.methodLink RX2 98 yX1_usedIn ∈ gw := gwm (i := 764) (by decide +kernel) (by decide +kernel)
theorem kc_X1_usedIn : Cond.code yX1_usedIn cX1_usedIn 4 (some .int) ∈ gw := gwm (i := 767) (by decide +kernel) (by decide +kernel)
theorem ii_X1_usedIn : Cond.instanceMethod yX1_usedIn ∈ gw := gwm (i := 765) (by decide +kernel) (by decide +kernel)
theorem is_X1_usedIn : Cond.selects RX1 yX1_usedIn yX1_usedIn ∈ gw := gwm (i := 766) (by decide +kernel) (by decide +kernel)
theorem ml_X3_35 : Cond.methodLink RX3 35 yX3_put ∈ gw := gwm (i := 773) (by decide +kernel) (by decide +kernel)
theorem kc_X3_put : Cond.code yX3_put cX3_put 5 none ∈ gw := gwm (i := 746) (by decide +kernel) (by decide +kernel)
theorem ii_X3_put : Cond.instanceMethod yX3_put ∈ gw := gwm (i := 744) (by decide +kernel) (by decide +kernel)
theorem is_X3_put : Cond.selects RX3 yX3_put yX3_put ∈ gw := gwm (i := 745) (by decide +kernel) (by decide +kernel)
theorem ml_X3_39 : Cond.methodLink RX3 39 yX3_isGood ∈ gw := gwm (i := 348) (by decide +kernel) (by decide +kernel)
theorem kc_X3_isGood : Cond.code yX3_isGood cX3_isGood 2 (some .boolean) ∈ gw := gwm (i := 351) (by decide +kernel) (by decide +kernel)
theorem ii_X3_isGood : Cond.instanceMethod yX3_isGood ∈ gw := gwm (i := 349) (by decide +kernel) (by decide +kernel)
theorem is_X3_isGood : Cond.selects RX3 yX3_isGood yX3_isGood ∈ gw := gwm (i := 350) (by decide +kernel) (by decide +kernel)
theorem ml_X3_56 : Cond.methodLink RX3 56 yX3_goodSizeIn ∈ gw := gwm (i := 344) (by decide +kernel) (by decide +kernel)
theorem kc_X3_goodSizeIn : Cond.code yX3_goodSizeIn cX3_goodSizeIn 2 (some .int) ∈ gw := gwm (i := 347) (by decide +kernel) (by decide +kernel)
theorem ii_X3_goodSizeIn : Cond.instanceMethod yX3_goodSizeIn ∈ gw := gwm (i := 345) (by decide +kernel) (by decide +kernel)
theorem is_X3_goodSizeIn : Cond.selects RX3 yX3_goodSizeIn yX3_goodSizeIn ∈ gw := gwm (i := 346) (by decide +kernel) (by decide +kernel)
theorem ml_X1_40 : Cond.methodLink RX1 40 yX3_goodSizeIn ∈ gw := gwm (i := 546) (by decide +kernel) (by decide +kernel)
theorem ml_X1_46 : Cond.methodLink RX1 46 yJ9_min_7cf53 ∈ gw := gwm (i := 547) (by decide +kernel) (by decide +kernel)
theorem kc_J9_min_7cf53 : Cond.code yJ9_min_7cf53 cJ9_min_7cf53 2 (some .int) ∈ gw := gwm (i := 366) (by decide +kernel) (by decide +kernel)
theorem ki_java_lang_Math : Cond.initialized RJ9 ∈ gw := gwm (i := 94) (by decide +kernel) (by decide +kernel)
theorem st_J9_min_7cf53 : Cond.static yJ9_min_7cf53 ∈ gw := gwm (i := 365) (by decide +kernel) (by decide +kernel)
theorem ml_X0_28 : Cond.methodLink RX0 28 yJ7_fill_53178 ∈ gw := gwm (i := 552) (by decide +kernel) (by decide +kernel)
theorem ml_X2_68 : Cond.methodLink RX2 68 yX1_lay ∈ gw := gwm (i := 799) (by decide +kernel) (by decide +kernel)
theorem kc_X1_lay : Cond.code yX1_lay cX1_lay 4 none ∈ gw := gwm (i := 545) (by decide +kernel) (by decide +kernel)
theorem ii_X1_lay : Cond.instanceMethod yX1_lay ∈ gw := gwm (i := 543) (by decide +kernel) (by decide +kernel)
theorem is_X1_lay : Cond.selects RX1 yX1_lay yX1_lay ∈ gw := gwm (i := 544) (by decide +kernel) (by decide +kernel)
theorem ml_X2_72 : Cond.methodLink RX2 72 yX3_mapGoodOnes ∈ gw := gwm (i := 800) (by decide +kernel) (by decide +kernel)
theorem kc_X3_mapGoodOnes : Cond.code yX3_mapGoodOnes cX3_mapGoodOnes 2 none ∈ gw := gwm (i := 803) (by decide +kernel) (by decide +kernel)
theorem ii_X3_mapGoodOnes : Cond.instanceMethod yX3_mapGoodOnes ∈ gw := gwm (i := 801) (by decide +kernel) (by decide +kernel)
theorem is_X3_mapGoodOnes : Cond.selects RX3 yX3_mapGoodOnes yX3_mapGoodOnes ∈ gw := gwm (i := 802) (by decide +kernel) (by decide +kernel)
theorem ml_X2_75 : Cond.methodLink RX2 75 yX0_freeAllNow ∈ gw := gwm (i := 804) (by decide +kernel) (by decide +kernel)
theorem kc_X0_freeAllNow : Cond.code yX0_freeAllNow cX0_freeAllNow 1 none ∈ gw := gwm (i := 807) (by decide +kernel) (by decide +kernel)
theorem ii_X0_freeAllNow : Cond.instanceMethod yX0_freeAllNow ∈ gw := gwm (i := 805) (by decide +kernel) (by decide +kernel)
theorem is_X0_freeAllNow : Cond.selects RX0 yX0_freeAllNow yX0_freeAllNow ∈ gw := gwm (i := 806) (by decide +kernel) (by decide +kernel)
theorem ml_X2_78 : Cond.methodLink RX2 78 yJ7_fill_53178 ∈ gw := gwm (i := 808) (by decide +kernel) (by decide +kernel)
theorem fl_X5_64 : Cond.fieldLinkNest RX5 64 RX2 "sticks" "LStickPairs$Sticks;" RX5 ∈ nestW := List.mem_filter.mpr ⟨List.mem_of_getElem? (i := 111) (by decide +kernel), rfl⟩
theorem fl_X5_113 : Cond.fieldLinkNest RX5 113 RX2 "mapSetting" "I" RX5 ∈ nestW := List.mem_filter.mpr ⟨List.mem_of_getElem? (i := 118) (by decide +kernel), rfl⟩
theorem ml_X5_117 : Cond.methodLink RX5 117 yX3_hindrance ∈ gw := gwm (i := 340) (by decide +kernel) (by decide +kernel)
theorem kc_X3_hindrance : Cond.code yX3_hindrance cX3_hindrance 4 (some .int) ∈ gw := gwm (i := 343) (by decide +kernel) (by decide +kernel)
theorem ii_X3_hindrance : Cond.instanceMethod yX3_hindrance ∈ gw := gwm (i := 341) (by decide +kernel) (by decide +kernel)
theorem is_X3_hindrance : Cond.selects RX3 yX3_hindrance yX3_hindrance ∈ gw := gwm (i := 342) (by decide +kernel) (by decide +kernel)
theorem ml_X5_78 : Cond.methodLink RX5 78 yX5_saveState ∈ gw := gwm (i := 735) (by decide +kernel) (by decide +kernel)
theorem kc_X5_saveState : Cond.code yX5_saveState cX5_saveState 2 none ∈ gw := gwm (i := 738) (by decide +kernel) (by decide +kernel)
theorem ii_X5_saveState : Cond.instanceMethod yX5_saveState ∈ gw := gwm (i := 737) (by decide +kernel) (by decide +kernel)
theorem is_X5_saveState : Cond.selects RX5 yX5_saveState yX5_saveState ∈ gw := gwm (i := 19) (by decide +kernel) (by decide +kernel)
theorem ml_X5_122 : Cond.methodLink RX5 122 yX2_begin ∈ gw := gwm (i := 795) (by decide +kernel) (by decide +kernel)
theorem kc_X2_begin : Cond.code yX2_begin cX2_begin 1 none ∈ gw := gwm (i := 798) (by decide +kernel) (by decide +kernel)
theorem ii_X2_begin : Cond.instanceMethod yX2_begin ∈ gw := gwm (i := 796) (by decide +kernel) (by decide +kernel)
theorem is_X2_begin : Cond.selects RX2 yX2_begin yX2_begin ∈ gw := gwm (i := 797) (by decide +kernel) (by decide +kernel)
theorem fl_X5_125 : Cond.fieldLinkNest RX5 125 RX2 "layout" "LStickPairs$Layout;" RX5 ∈ nestW := List.mem_filter.mpr ⟨List.mem_of_getElem? (i := 113) (by decide +kernel), rfl⟩
theorem fl_X5_128 : Cond.fieldLinkNest RX5 128 RX1 "blocks" "I" RX5 ∈ nestW := List.mem_filter.mpr ⟨List.mem_of_getElem? (i := 73) (by decide +kernel), rfl⟩
theorem ml_X1_52 : Cond.methodLink RX1 52 yJ7_fill_53178 ∈ gw := gwm (i := 829) (by decide +kernel) (by decide +kernel)
theorem ml_X2_84 : Cond.methodLink RX2 84 yX1_clear ∈ gw := gwm (i := 825) (by decide +kernel) (by decide +kernel)
theorem kc_X1_clear : Cond.code yX1_clear cX1_clear 1 none ∈ gw := gwm (i := 828) (by decide +kernel) (by decide +kernel)
theorem ii_X1_clear : Cond.instanceMethod yX1_clear ∈ gw := gwm (i := 826) (by decide +kernel) (by decide +kernel)
theorem is_X1_clear : Cond.selects RX1 yX1_clear yX1_clear ∈ gw := gwm (i := 827) (by decide +kernel) (by decide +kernel)
theorem ml_X2_87 : Cond.methodLink RX2 87 yX3_unmapAll ∈ gw := gwm (i := 830) (by decide +kernel) (by decide +kernel)
theorem kc_X3_unmapAll : Cond.code yX3_unmapAll cX3_unmapAll 2 none ∈ gw := gwm (i := 833) (by decide +kernel) (by decide +kernel)
theorem ii_X3_unmapAll : Cond.instanceMethod yX3_unmapAll ∈ gw := gwm (i := 831) (by decide +kernel) (by decide +kernel)
theorem is_X3_unmapAll : Cond.selects RX3 yX3_unmapAll yX3_unmapAll ∈ gw := gwm (i := 832) (by decide +kernel) (by decide +kernel)
theorem ml_X5_131 : Cond.methodLink RX5 131 yX1_isLaid ∈ gw := gwm (i := 816) (by decide +kernel) (by decide +kernel)
theorem kc_X1_isLaid : Cond.code yX1_isLaid cX1_isLaid 1 (some .boolean) ∈ gw := gwm (i := 819) (by decide +kernel) (by decide +kernel)
theorem ii_X1_isLaid : Cond.instanceMethod yX1_isLaid ∈ gw := gwm (i := 817) (by decide +kernel) (by decide +kernel)
theorem is_X1_isLaid : Cond.selects RX1 yX1_isLaid yX1_isLaid ∈ gw := gwm (i := 818) (by decide +kernel) (by decide +kernel)
theorem fl_X2_101 : Cond.fieldLinkNest RX2 101 RX1 "blocks" "I" RX5 ∈ nestW := List.mem_filter.mpr ⟨List.mem_of_getElem? (i := 74) (by decide +kernel), rfl⟩
theorem ml_X1_66 : Cond.methodLink RX1 66 yX1_channelOf ∈ gw := gwm (i := 421) (by decide +kernel) (by decide +kernel)
theorem kc_X1_channelOf : Cond.code yX1_channelOf cX1_channelOf 2 (some .int) ∈ gw := gwm (i := 424) (by decide +kernel) (by decide +kernel)
theorem ii_X1_channelOf : Cond.instanceMethod yX1_channelOf ∈ gw := gwm (i := 423) (by decide +kernel) (by decide +kernel)
theorem is_X1_channelOf : Cond.selects RX1 yX1_channelOf yX1_channelOf ∈ gw := gwm (i := 4) (by decide +kernel) (by decide +kernel)
theorem ml_X1_69 : Cond.methodLink RX1 69 yX1_indexOf ∈ gw := gwm (i := 429) (by decide +kernel) (by decide +kernel)
theorem kc_X1_indexOf : Cond.code yX1_indexOf cX1_indexOf 2 (some .int) ∈ gw := gwm (i := 432) (by decide +kernel) (by decide +kernel)
theorem ii_X1_indexOf : Cond.instanceMethod yX1_indexOf ∈ gw := gwm (i := 431) (by decide +kernel) (by decide +kernel)
theorem is_X1_indexOf : Cond.selects RX1 yX1_indexOf yX1_indexOf ∈ gw := gwm (i := 5) (by decide +kernel) (by decide +kernel)
theorem ml_X1_72 : Cond.methodLink RX1 72 yX1_slotAt ∈ gw := gwm (i := 433) (by decide +kernel) (by decide +kernel)
theorem kc_X1_slotAt : Cond.code yX1_slotAt cX1_slotAt 3 (some .int) ∈ gw := gwm (i := 436) (by decide +kernel) (by decide +kernel)
theorem ii_X1_slotAt : Cond.instanceMethod yX1_slotAt ∈ gw := gwm (i := 435) (by decide +kernel) (by decide +kernel)
theorem is_X1_slotAt : Cond.selects RX1 yX1_slotAt yX1_slotAt ∈ gw := gwm (i := 6) (by decide +kernel) (by decide +kernel)
theorem ml_X2_117 : Cond.methodLink RX2 117 yX1_slotOf ∈ gw := gwm (i := 417) (by decide +kernel) (by decide +kernel)
theorem kc_X1_slotOf : Cond.code yX1_slotOf cX1_slotOf 2 (some .int) ∈ gw := gwm (i := 420) (by decide +kernel) (by decide +kernel)
theorem ii_X1_slotOf : Cond.instanceMethod yX1_slotOf ∈ gw := gwm (i := 418) (by decide +kernel) (by decide +kernel)
theorem is_X1_slotOf : Cond.selects RX1 yX1_slotOf yX1_slotOf ∈ gw := gwm (i := 419) (by decide +kernel) (by decide +kernel)
theorem ml_X2_120 : Cond.methodLink RX2 120 yX1_slotAgainOf ∈ gw := gwm (i := 441) (by decide +kernel) (by decide +kernel)
theorem kc_X1_slotAgainOf : Cond.code yX1_slotAgainOf cX1_slotAgainOf 2 (some .int) ∈ gw := gwm (i := 444) (by decide +kernel) (by decide +kernel)
theorem ii_X1_slotAgainOf : Cond.instanceMethod yX1_slotAgainOf ∈ gw := gwm (i := 442) (by decide +kernel) (by decide +kernel)
theorem is_X1_slotAgainOf : Cond.selects RX1 yX1_slotAgainOf yX1_slotAgainOf ∈ gw := gwm (i := 443) (by decide +kernel) (by decide +kernel)
theorem ml_X2_104 : Cond.methodLink RX2 104 yX2_hasBlock ∈ gw := gwm (i := 409) (by decide +kernel) (by decide +kernel)
theorem kc_X2_hasBlock : Cond.code yX2_hasBlock cX2_hasBlock 2 (some .boolean) ∈ gw := gwm (i := 412) (by decide +kernel) (by decide +kernel)
theorem ii_X2_hasBlock : Cond.instanceMethod yX2_hasBlock ∈ gw := gwm (i := 410) (by decide +kernel) (by decide +kernel)
theorem is_X2_hasBlock : Cond.selects RX2 yX2_hasBlock yX2_hasBlock ∈ gw := gwm (i := 411) (by decide +kernel) (by decide +kernel)
theorem ml_X2_107 : Cond.methodLink RX2 107 yX2_readSlotOf ∈ gw := gwm (i := 413) (by decide +kernel) (by decide +kernel)
theorem kc_X2_readSlotOf : Cond.code yX2_readSlotOf cX2_readSlotOf 4 (some .int) ∈ gw := gwm (i := 416) (by decide +kernel) (by decide +kernel)
theorem ii_X2_readSlotOf : Cond.instanceMethod yX2_readSlotOf ∈ gw := gwm (i := 415) (by decide +kernel) (by decide +kernel)
theorem is_X2_readSlotOf : Cond.selects RX2 yX2_readSlotOf yX2_readSlotOf ∈ gw := gwm (i := 3) (by decide +kernel) (by decide +kernel)
theorem ml_X2_110 : Cond.methodLinkNest RX2 110 yX5_entry RX5 ∈ nestW := List.mem_filter.mpr ⟨List.mem_of_getElem? (i := 374) (by decide +kernel), rfl⟩
theorem ml_X2_114 : Cond.methodLink RX2 114 yX2_heldBy ∈ gw := gwm (i := 449) (by decide +kernel) (by decide +kernel)
theorem kc_X2_heldBy : Cond.code yX2_heldBy cX2_heldBy 2 (some .int) ∈ gw := gwm (i := 452) (by decide +kernel) (by decide +kernel)
theorem ii_X2_heldBy : Cond.instanceMethod yX2_heldBy ∈ gw := gwm (i := 450) (by decide +kernel) (by decide +kernel)
theorem is_X2_heldBy : Cond.selects RX2 yX2_heldBy yX2_heldBy ∈ gw := gwm (i := 451) (by decide +kernel) (by decide +kernel)
theorem ml_X5_140 : Cond.methodLink RX5 140 yX2_hasBlock ∈ gw := gwm (i := 841) (by decide +kernel) (by decide +kernel)
theorem ml_X1_75 : Cond.methodLink RX1 75 yX1_numberAt ∈ gw := gwm (i := 510) (by decide +kernel) (by decide +kernel)
theorem kc_X1_numberAt : Cond.code yX1_numberAt cX1_numberAt 4 (some .int) ∈ gw := gwm (i := 513) (by decide +kernel) (by decide +kernel)
theorem ii_X1_numberAt : Cond.instanceMethod yX1_numberAt ∈ gw := gwm (i := 512) (by decide +kernel) (by decide +kernel)
theorem is_X1_numberAt : Cond.selects RX1 yX1_numberAt yX1_numberAt ∈ gw := gwm (i := 9) (by decide +kernel) (by decide +kernel)
theorem ml_X3_52 : Cond.methodLink RX3 52 yX3_rankOf ∈ gw := gwm (i := 565) (by decide +kernel) (by decide +kernel)
theorem kc_X3_rankOf : Cond.code yX3_rankOf cX3_rankOf 3 (some .int) ∈ gw := gwm (i := 521) (by decide +kernel) (by decide +kernel)
theorem ii_X3_rankOf : Cond.instanceMethod yX3_rankOf ∈ gw := gwm (i := 519) (by decide +kernel) (by decide +kernel)
theorem is_X3_rankOf : Cond.selects RX3 yX3_rankOf yX3_rankOf ∈ gw := gwm (i := 520) (by decide +kernel) (by decide +kernel)
theorem ml_X2_126 : Cond.methodLink RX2 126 yX1_numberOf ∈ gw := gwm (i := 506) (by decide +kernel) (by decide +kernel)
theorem kc_X1_numberOf : Cond.code yX1_numberOf cX1_numberOf 2 (some .int) ∈ gw := gwm (i := 509) (by decide +kernel) (by decide +kernel)
theorem ii_X1_numberOf : Cond.instanceMethod yX1_numberOf ∈ gw := gwm (i := 507) (by decide +kernel) (by decide +kernel)
theorem is_X1_numberOf : Cond.selects RX1 yX1_numberOf yX1_numberOf ∈ gw := gwm (i := 508) (by decide +kernel) (by decide +kernel)
theorem ml_X2_129 : Cond.methodLink RX2 129 yX3_rankRow ∈ gw := gwm (i := 864) (by decide +kernel) (by decide +kernel)
theorem kc_X3_rankRow : Cond.code yX3_rankRow cX3_rankRow 3 (some .int) ∈ gw := gwm (i := 564) (by decide +kernel) (by decide +kernel)
theorem ii_X3_rankRow : Cond.instanceMethod yX3_rankRow ∈ gw := gwm (i := 562) (by decide +kernel) (by decide +kernel)
theorem is_X3_rankRow : Cond.selects RX3 yX3_rankRow yX3_rankRow ∈ gw := gwm (i := 563) (by decide +kernel) (by decide +kernel)
theorem ml_X2_123 : Cond.methodLink RX2 123 yX1_numberAgainOf ∈ gw := gwm (i := 527) (by decide +kernel) (by decide +kernel)
theorem kc_X1_numberAgainOf : Cond.code yX1_numberAgainOf cX1_numberAgainOf 2 (some .int) ∈ gw := gwm (i := 530) (by decide +kernel) (by decide +kernel)
theorem ii_X1_numberAgainOf : Cond.instanceMethod yX1_numberAgainOf ∈ gw := gwm (i := 528) (by decide +kernel) (by decide +kernel)
theorem is_X1_numberAgainOf : Cond.selects RX1 yX1_numberAgainOf yX1_numberAgainOf ∈ gw := gwm (i := 529) (by decide +kernel) (by decide +kernel)
theorem ml_X0_38 : Cond.methodLinkNest RX0 38 yX5_entry RX5 ∈ nestW := List.mem_filter.mpr ⟨List.mem_of_getElem? (i := 409) (by decide +kernel), rfl⟩
theorem ml_X0_42 : Cond.methodLink RX0 42 yX0_waitFor ∈ gw := gwm (i := 580) (by decide +kernel) (by decide +kernel)
theorem kc_X0_waitFor : Cond.code yX0_waitFor cX0_waitFor 3 none ∈ gw := gwm (i := 583) (by decide +kernel) (by decide +kernel)
theorem ii_X0_waitFor : Cond.instanceMethod yX0_waitFor ∈ gw := gwm (i := 582) (by decide +kernel) (by decide +kernel)
theorem is_X0_waitFor : Cond.selects RX0 yX0_waitFor yX0_waitFor ∈ gw := gwm (i := 15) (by decide +kernel) (by decide +kernel)
theorem ml_X0_46 : Cond.methodLink RX0 46 yX0_occupy ∈ gw := gwm (i := 584) (by decide +kernel) (by decide +kernel)
theorem kc_X0_occupy : Cond.code yX0_occupy cX0_occupy 3 none ∈ gw := gwm (i := 587) (by decide +kernel) (by decide +kernel)
theorem ii_X0_occupy : Cond.instanceMethod yX0_occupy ∈ gw := gwm (i := 586) (by decide +kernel) (by decide +kernel)
theorem is_X0_occupy : Cond.selects RX0 yX0_occupy yX0_occupy ∈ gw := gwm (i := 16) (by decide +kernel) (by decide +kernel)
theorem ml_X0_50 : Cond.methodLink RX0 50 yX0_pass ∈ gw := gwm (i := 588) (by decide +kernel) (by decide +kernel)
theorem kc_X0_pass : Cond.code yX0_pass cX0_pass 2 none ∈ gw := gwm (i := 591) (by decide +kernel) (by decide +kernel)
theorem ii_X0_pass : Cond.instanceMethod yX0_pass ∈ gw := gwm (i := 589) (by decide +kernel) (by decide +kernel)
theorem is_X0_pass : Cond.selects RX0 yX0_pass yX0_pass ∈ gw := gwm (i := 590) (by decide +kernel) (by decide +kernel)
theorem ml_X2_133 : Cond.methodLink RX2 133 yX2_readRankOf ∈ gw := gwm (i := 860) (by decide +kernel) (by decide +kernel)
theorem kc_X2_readRankOf : Cond.code yX2_readRankOf cX2_readRankOf 5 (some .int) ∈ gw := gwm (i := 863) (by decide +kernel) (by decide +kernel)
theorem ii_X2_readRankOf : Cond.instanceMethod yX2_readRankOf ∈ gw := gwm (i := 862) (by decide +kernel) (by decide +kernel)
theorem is_X2_readRankOf : Cond.selects RX2 yX2_readRankOf yX2_readRankOf ∈ gw := gwm (i := 21) (by decide +kernel) (by decide +kernel)
theorem ml_X2_136 : Cond.methodLink RX2 136 yX3_delayIn ∈ gw := gwm (i := 475) (by decide +kernel) (by decide +kernel)
theorem kc_X3_delayIn : Cond.code yX3_delayIn cX3_delayIn 2 (some .int) ∈ gw := gwm (i := 478) (by decide +kernel) (by decide +kernel)
theorem ii_X3_delayIn : Cond.instanceMethod yX3_delayIn ∈ gw := gwm (i := 476) (by decide +kernel) (by decide +kernel)
theorem is_X3_delayIn : Cond.selects RX3 yX3_delayIn yX3_delayIn ∈ gw := gwm (i := 477) (by decide +kernel) (by decide +kernel)
theorem ml_X2_139 : Cond.methodLink RX2 139 yX0_readSingle ∈ gw := gwm (i := 865) (by decide +kernel) (by decide +kernel)
theorem kc_X0_readSingle : Cond.code yX0_readSingle cX0_readSingle 3 none ∈ gw := gwm (i := 595) (by decide +kernel) (by decide +kernel)
theorem ii_X0_readSingle : Cond.instanceMethod yX0_readSingle ∈ gw := gwm (i := 593) (by decide +kernel) (by decide +kernel)
theorem is_X0_readSingle : Cond.selects RX0 yX0_readSingle yX0_readSingle ∈ gw := gwm (i := 594) (by decide +kernel) (by decide +kernel)
theorem ml_X2_143 : Cond.methodLink RX2 143 yX3_tellRead ∈ gw := gwm (i := 866) (by decide +kernel) (by decide +kernel)
theorem kc_X3_tellRead : Cond.code yX3_tellRead cX3_tellRead 2 none ∈ gw := gwm (i := 869) (by decide +kernel) (by decide +kernel)
theorem ii_X3_tellRead : Cond.instanceMethod yX3_tellRead ∈ gw := gwm (i := 867) (by decide +kernel) (by decide +kernel)
theorem is_X3_tellRead : Cond.selects RX3 yX3_tellRead yX3_tellRead ∈ gw := gwm (i := 868) (by decide +kernel) (by decide +kernel)
theorem ml_X5_55 : Cond.methodLink RX5 55 yX5_isWithin ∈ gw := gwm (i := 699) (by decide +kernel) (by decide +kernel)
theorem kc_X5_isWithin : Cond.code yX5_isWithin cX5_isWithin 3 (some .boolean) ∈ gw := gwm (i := 701) (by decide +kernel) (by decide +kernel)
theorem st_X5_isWithin : Cond.static yX5_isWithin ∈ gw := gwm (i := 700) (by decide +kernel) (by decide +kernel)
theorem ml_X2_90 : Cond.methodLink RX2 90 yX2_settingOf ∈ gw := gwm (i := 892) (by decide +kernel) (by decide +kernel)
theorem kc_X2_settingOf : Cond.code yX2_settingOf cX2_settingOf 2 (some .int) ∈ gw := gwm (i := 457) (by decide +kernel) (by decide +kernel)
theorem ii_X2_settingOf : Cond.instanceMethod yX2_settingOf ∈ gw := gwm (i := 455) (by decide +kernel) (by decide +kernel)
theorem is_X2_settingOf : Cond.selects RX2 yX2_settingOf yX2_settingOf ∈ gw := gwm (i := 456) (by decide +kernel) (by decide +kernel)
theorem fl_X4_21 : Cond.fieldLink RX4 21 RX4 "length" "I" ∈ gw := gwm (i := 232) (by decide +kernel) (by decide +kernel)
theorem fl_X4_9 : Cond.fieldLink RX4 9 RX4 "codes" "[I" ∈ gw := gwm (i := 231) (by decide +kernel) (by decide +kernel)
theorem fl_X5_26 : Cond.fieldLink RX5 26 RX5 "text" "LStickPairs$Text;" ∈ gw := gwm (i := 264) (by decide +kernel) (by decide +kernel)
theorem fl_X5_184 : Cond.fieldLinkNest RX5 184 RX4 "length" "I" RX5 ∈ nestW := List.mem_filter.mpr ⟨List.mem_of_getElem? (i := 154) (by decide +kernel), rfl⟩
theorem ml_X5_187 : Cond.methodLink RX5 187 yX4_empty ∈ gw := gwm (i := 288) (by decide +kernel) (by decide +kernel)
theorem kc_X4_empty : Cond.code yX4_empty cX4_empty 1 none ∈ gw := gwm (i := 291) (by decide +kernel) (by decide +kernel)
theorem ki_StickPairs_Text : Cond.initialized RX4 ∈ gw := gwm (i := 85) (by decide +kernel) (by decide +kernel)
theorem ii_X4_empty : Cond.instanceMethod yX4_empty ∈ gw := gwm (i := 289) (by decide +kernel) (by decide +kernel)
theorem is_X4_empty : Cond.selects RX4 yX4_empty yX4_empty ∈ gw := gwm (i := 290) (by decide +kernel) (by decide +kernel)
theorem fl_X4_32 : Cond.fieldLink RX4 32 RX4 "number" "I" ∈ gw := gwm (i := 239) (by decide +kernel) (by decide +kernel)
theorem fl_X4_25 : Cond.fieldLink RX4 25 RX4 "part" "I" ∈ gw := gwm (i := 236) (by decide +kernel) (by decide +kernel)
theorem fl_X4_28 : Cond.fieldLink RX4 28 RX4 "ranged" "Z" ∈ gw := gwm (i := 238) (by decide +kernel) (by decide +kernel)
theorem fl_X4_15 : Cond.fieldLink RX4 15 RX4 "firsts" "[I" ∈ gw := gwm (i := 234) (by decide +kernel) (by decide +kernel)
theorem fl_X4_18 : Cond.fieldLink RX4 18 RX4 "lasts" "[I" ∈ gw := gwm (i := 235) (by decide +kernel) (by decide +kernel)
theorem ml_X4_43 : Cond.methodLink RX4 43 yX4_acceptsDigit ∈ gw := gwm (i := 307) (by decide +kernel) (by decide +kernel)
theorem kc_X4_acceptsDigit : Cond.code yX4_acceptsDigit cX4_acceptsDigit 3 (some .boolean) ∈ gw := gwm (i := 310) (by decide +kernel) (by decide +kernel)
theorem ii_X4_acceptsDigit : Cond.instanceMethod yX4_acceptsDigit ∈ gw := gwm (i := 309) (by decide +kernel) (by decide +kernel)
theorem is_X4_acceptsDigit : Cond.selects RX4 yX4_acceptsDigit yX4_acceptsDigit ∈ gw := gwm (i := 1) (by decide +kernel) (by decide +kernel)
theorem ml_X4_35 : Cond.methodLinkNest RX4 35 yX5_entry RX5 ∈ nestW := List.mem_filter.mpr ⟨List.mem_of_getElem? (i := 221) (by decide +kernel), rfl⟩
theorem ml_X4_39 : Cond.methodLink RX4 39 yX4_accepts ∈ gw := gwm (i := 303) (by decide +kernel) (by decide +kernel)
theorem kc_X4_accepts : Cond.code yX4_accepts cX4_accepts 2 (some .boolean) ∈ gw := gwm (i := 306) (by decide +kernel) (by decide +kernel)
theorem ii_X4_accepts : Cond.instanceMethod yX4_accepts ∈ gw := gwm (i := 305) (by decide +kernel) (by decide +kernel)
theorem is_X4_accepts : Cond.selects RX4 yX4_accepts yX4_accepts ∈ gw := gwm (i := 0) (by decide +kernel) (by decide +kernel)
theorem ml_X5_190 : Cond.methodLink RX5 190 yX4_scan ∈ gw := gwm (i := 296) (by decide +kernel) (by decide +kernel)
theorem kc_X4_scan : Cond.code yX4_scan cX4_scan 2 (some .int) ∈ gw := gwm (i := 299) (by decide +kernel) (by decide +kernel)
theorem ii_X4_scan : Cond.instanceMethod yX4_scan ∈ gw := gwm (i := 297) (by decide +kernel) (by decide +kernel)
theorem is_X4_scan : Cond.selects RX4 yX4_scan yX4_scan ∈ gw := gwm (i := 298) (by decide +kernel) (by decide +kernel)
theorem ml_X4_46 : Cond.methodLink RX4 46 yX4_scan ∈ gw := gwm (i := 921) (by decide +kernel) (by decide +kernel)
theorem ml_X4_50 : Cond.methodLink RX4 50 yX4_lastOf ∈ gw := gwm (i := 922) (by decide +kernel) (by decide +kernel)
theorem kc_X4_lastOf : Cond.code yX4_lastOf cX4_lastOf 2 (some .int) ∈ gw := gwm (i := 925) (by decide +kernel) (by decide +kernel)
theorem ii_X4_lastOf : Cond.instanceMethod yX4_lastOf ∈ gw := gwm (i := 923) (by decide +kernel) (by decide +kernel)
theorem is_X4_lastOf : Cond.selects RX4 yX4_lastOf yX4_lastOf ∈ gw := gwm (i := 924) (by decide +kernel) (by decide +kernel)
theorem ml_X4_54 : Cond.methodLink RX4 54 yX4_firstOf ∈ gw := gwm (i := 926) (by decide +kernel) (by decide +kernel)
theorem kc_X4_firstOf : Cond.code yX4_firstOf cX4_firstOf 2 (some .int) ∈ gw := gwm (i := 929) (by decide +kernel) (by decide +kernel)
theorem ii_X4_firstOf : Cond.instanceMethod yX4_firstOf ∈ gw := gwm (i := 927) (by decide +kernel) (by decide +kernel)
theorem is_X4_firstOf : Cond.selects RX4 yX4_firstOf yX4_firstOf ∈ gw := gwm (i := 928) (by decide +kernel) (by decide +kernel)
theorem ml_X1_58 : Cond.methodLink RX1 58 yX1_isWide ∈ gw := gwm (i := 570) (by decide +kernel) (by decide +kernel)
theorem kc_X1_isWide : Cond.code yX1_isWide cX1_isWide 2 (some .boolean) ∈ gw := gwm (i := 526) (by decide +kernel) (by decide +kernel)
theorem ii_X1_isWide : Cond.instanceMethod yX1_isWide ∈ gw := gwm (i := 524) (by decide +kernel) (by decide +kernel)
theorem is_X1_isWide : Cond.selects RX1 yX1_isWide yX1_isWide ∈ gw := gwm (i := 525) (by decide +kernel) (by decide +kernel)
theorem ml_X2_175 : Cond.methodLink RX2 175 yX1_beginsPair ∈ gw := gwm (i := 941) (by decide +kernel) (by decide +kernel)
theorem kc_X1_beginsPair : Cond.code yX1_beginsPair cX1_beginsPair 2 (some .boolean) ∈ gw := gwm (i := 569) (by decide +kernel) (by decide +kernel)
theorem ii_X1_beginsPair : Cond.instanceMethod yX1_beginsPair ∈ gw := gwm (i := 567) (by decide +kernel) (by decide +kernel)
theorem is_X1_beginsPair : Cond.selects RX1 yX1_beginsPair yX1_beginsPair ∈ gw := gwm (i := 568) (by decide +kernel) (by decide +kernel)
theorem ml_X2_162 : Cond.methodLink RX2 162 yX2_canRead ∈ gw := gwm (i := 405) (by decide +kernel) (by decide +kernel)
theorem kc_X2_canRead : Cond.code yX2_canRead cX2_canRead 2 (some .boolean) ∈ gw := gwm (i := 408) (by decide +kernel) (by decide +kernel)
theorem ii_X2_canRead : Cond.instanceMethod yX2_canRead ∈ gw := gwm (i := 406) (by decide +kernel) (by decide +kernel)
theorem is_X2_canRead : Cond.selects RX2 yX2_canRead yX2_canRead ∈ gw := gwm (i := 407) (by decide +kernel) (by decide +kernel)
theorem ml_X2_147 : Cond.methodLink RX2 147 yX0_readPair ∈ gw := gwm (i := 946) (by decide +kernel) (by decide +kernel)
theorem kc_X0_readPair : Cond.code yX0_readPair cX0_readPair 5 none ∈ gw := gwm (i := 579) (by decide +kernel) (by decide +kernel)
theorem ii_X0_readPair : Cond.instanceMethod yX0_readPair ∈ gw := gwm (i := 577) (by decide +kernel) (by decide +kernel)
theorem is_X0_readPair : Cond.selects RX0 yX0_readPair yX0_readPair ∈ gw := gwm (i := 578) (by decide +kernel) (by decide +kernel)
theorem fl_X2_151 : Cond.fieldLinkNest RX2 151 RX4 "part" "I" RX5 ∈ nestW := List.mem_filter.mpr ⟨List.mem_of_getElem? (i := 158) (by decide +kernel), rfl⟩
theorem ml_X2_156 : Cond.methodLink RX2 156 yX4_lastOf ∈ gw := gwm (i := 935) (by decide +kernel) (by decide +kernel)
theorem ml_X2_159 : Cond.methodLink RX2 159 yX4_firstOf ∈ gw := gwm (i := 936) (by decide +kernel) (by decide +kernel)
theorem ml_X2_165 : Cond.methodLink RX2 165 yX2_readsPair ∈ gw := gwm (i := 937) (by decide +kernel) (by decide +kernel)
theorem kc_X2_readsPair : Cond.code yX2_readsPair cX2_readsPair 3 (some .boolean) ∈ gw := gwm (i := 940) (by decide +kernel) (by decide +kernel)
theorem ii_X2_readsPair : Cond.instanceMethod yX2_readsPair ∈ gw := gwm (i := 939) (by decide +kernel) (by decide +kernel)
theorem is_X2_readsPair : Cond.selects RX2 yX2_readsPair yX2_readsPair ∈ gw := gwm (i := 22) (by decide +kernel) (by decide +kernel)
theorem ml_X2_172 : Cond.methodLink RX2 172 yX2_readOne ∈ gw := gwm (i := 947) (by decide +kernel) (by decide +kernel)
theorem kc_X2_readOne : Cond.code yX2_readOne cX2_readOne 3 (some .int) ∈ gw := gwm (i := 859) (by decide +kernel) (by decide +kernel)
theorem ii_X2_readOne : Cond.instanceMethod yX2_readOne ∈ gw := gwm (i := 857) (by decide +kernel) (by decide +kernel)
theorem is_X2_readOne : Cond.selects RX2 yX2_readOne yX2_readOne ∈ gw := gwm (i := 858) (by decide +kernel) (by decide +kernel)
theorem ml_X2_169 : Cond.methodLink RX2 169 yX2_readTwo ∈ gw := gwm (i := 942) (by decide +kernel) (by decide +kernel)
theorem kc_X2_readTwo : Cond.code yX2_readTwo cX2_readTwo 4 (some .int) ∈ gw := gwm (i := 945) (by decide +kernel) (by decide +kernel)
theorem ii_X2_readTwo : Cond.instanceMethod yX2_readTwo ∈ gw := gwm (i := 944) (by decide +kernel) (by decide +kernel)
theorem is_X2_readTwo : Cond.selects RX2 yX2_readTwo yX2_readTwo ∈ gw := gwm (i := 23) (by decide +kernel) (by decide +kernel)
theorem ml_X5_193 : Cond.methodLink RX5 193 yX4_tellsReadings ∈ gw := gwm (i := 917) (by decide +kernel) (by decide +kernel)
theorem kc_X4_tellsReadings : Cond.code yX4_tellsReadings cX4_tellsReadings 2 (some .boolean) ∈ gw := gwm (i := 920) (by decide +kernel) (by decide +kernel)
theorem ii_X4_tellsReadings : Cond.instanceMethod yX4_tellsReadings ∈ gw := gwm (i := 918) (by decide +kernel) (by decide +kernel)
theorem is_X4_tellsReadings : Cond.selects RX4 yX4_tellsReadings yX4_tellsReadings ∈ gw := gwm (i := 919) (by decide +kernel) (by decide +kernel)
theorem fl_X5_16 : Cond.fieldLink RX5 16 RX5 "snapshot" "LStickPairs$State;" ∈ gw := gwm (i := 260) (by decide +kernel) (by decide +kernel)
theorem fl_X5_206 : Cond.fieldLink RX5 206 RX5 "hasSnapshot" "Z" ∈ gw := gwm (i := 261) (by decide +kernel) (by decide +kernel)
theorem fl_X5_85 : Cond.fieldLinkNest RX5 85 RX2 "clock" "LStickPairs$Clock;" RX5 ∈ nestW := List.mem_filter.mpr ⟨List.mem_of_getElem? (i := 115) (by decide +kernel), rfl⟩
theorem fl_X5_164 : Cond.fieldLinkNest RX5 164 RX0 "tick" "I" RX5 ∈ nestW := List.mem_filter.mpr ⟨List.mem_of_getElem? (i := 100) (by decide +kernel), rfl⟩
theorem ml_X2_178 : Cond.methodLink RX2 178 yX3_isPlugged ∈ gw := gwm (i := 466) (by decide +kernel) (by decide +kernel)
theorem ml_X2_181 : Cond.methodLink RX2 181 yX3_sizeIn ∈ gw := gwm (i := 467) (by decide +kernel) (by decide +kernel)
theorem kc_X3_sizeIn : Cond.code yX3_sizeIn cX3_sizeIn 2 (some .int) ∈ gw := gwm (i := 470) (by decide +kernel) (by decide +kernel)
theorem ii_X3_sizeIn : Cond.instanceMethod yX3_sizeIn ∈ gw := gwm (i := 468) (by decide +kernel) (by decide +kernel)
theorem is_X3_sizeIn : Cond.selects RX3 yX3_sizeIn yX3_sizeIn ∈ gw := gwm (i := 469) (by decide +kernel) (by decide +kernel)
theorem ml_X2_184 : Cond.methodLink RX2 184 yX3_ranksIn ∈ gw := gwm (i := 471) (by decide +kernel) (by decide +kernel)
theorem kc_X3_ranksIn : Cond.code yX3_ranksIn cX3_ranksIn 2 (some .int) ∈ gw := gwm (i := 474) (by decide +kernel) (by decide +kernel)
theorem ii_X3_ranksIn : Cond.instanceMethod yX3_ranksIn ∈ gw := gwm (i := 472) (by decide +kernel) (by decide +kernel)
theorem is_X3_ranksIn : Cond.selects RX3 yX3_ranksIn yX3_ranksIn ∈ gw := gwm (i := 473) (by decide +kernel) (by decide +kernel)
theorem ml_X2_187 : Cond.methodLink RX2 187 yX3_hasFailed ∈ gw := gwm (i := 479) (by decide +kernel) (by decide +kernel)
theorem kc_X3_hasFailed : Cond.code yX3_hasFailed cX3_hasFailed 2 (some .boolean) ∈ gw := gwm (i := 400) (by decide +kernel) (by decide +kernel)
theorem ii_X3_hasFailed : Cond.instanceMethod yX3_hasFailed ∈ gw := gwm (i := 398) (by decide +kernel) (by decide +kernel)
theorem is_X3_hasFailed : Cond.selects RX3 yX3_hasFailed yX3_hasFailed ∈ gw := gwm (i := 399) (by decide +kernel) (by decide +kernel)
theorem ml_X2_190 : Cond.methodLink RX2 190 yX3_isMapped ∈ gw := gwm (i := 480) (by decide +kernel) (by decide +kernel)
theorem kc_X3_isMapped : Cond.code yX3_isMapped cX3_isMapped 2 (some .boolean) ∈ gw := gwm (i := 483) (by decide +kernel) (by decide +kernel)
theorem ii_X3_isMapped : Cond.instanceMethod yX3_isMapped ∈ gw := gwm (i := 481) (by decide +kernel) (by decide +kernel)
theorem is_X3_isMapped : Cond.selects RX3 yX3_isMapped yX3_isMapped ∈ gw := gwm (i := 482) (by decide +kernel) (by decide +kernel)
theorem ml_X2_193 : Cond.methodLink RX2 193 yX0_freeFrom ∈ gw := gwm (i := 484) (by decide +kernel) (by decide +kernel)
theorem kc_X0_freeFrom : Cond.code yX0_freeFrom cX0_freeFrom 3 (some .int) ∈ gw := gwm (i := 487) (by decide +kernel) (by decide +kernel)
theorem ii_X0_freeFrom : Cond.instanceMethod yX0_freeFrom ∈ gw := gwm (i := 485) (by decide +kernel) (by decide +kernel)
theorem is_X0_freeFrom : Cond.selects RX0 yX0_freeFrom yX0_freeFrom ∈ gw := gwm (i := 486) (by decide +kernel) (by decide +kernel)
theorem ml_X2_196 : Cond.methodLink RX2 196 yX3_readsIn ∈ gw := gwm (i := 489) (by decide +kernel) (by decide +kernel)
theorem kc_X3_readsIn : Cond.code yX3_readsIn cX3_readsIn 2 (some .int) ∈ gw := gwm (i := 492) (by decide +kernel) (by decide +kernel)
theorem ii_X3_readsIn : Cond.instanceMethod yX3_readsIn ∈ gw := gwm (i := 490) (by decide +kernel) (by decide +kernel)
theorem is_X3_readsIn : Cond.selects RX3 yX3_readsIn yX3_readsIn ∈ gw := gwm (i := 491) (by decide +kernel) (by decide +kernel)
theorem ml_X2_209 : Cond.methodLink RX2 209 yX3_rankOf ∈ gw := gwm (i := 518) (by decide +kernel) (by decide +kernel)
theorem ml_X2_199 : Cond.methodLink RX2 199 yX2_rankOrNone ∈ gw := gwm (i := 514) (by decide +kernel) (by decide +kernel)
theorem kc_X2_rankOrNone : Cond.code yX2_rankOrNone cX2_rankOrNone 3 (some .int) ∈ gw := gwm (i := 517) (by decide +kernel) (by decide +kernel)
theorem ii_X2_rankOrNone : Cond.instanceMethod yX2_rankOrNone ∈ gw := gwm (i := 516) (by decide +kernel) (by decide +kernel)
theorem is_X2_rankOrNone : Cond.selects RX2 yX2_rankOrNone yX2_rankOrNone ∈ gw := gwm (i := 10) (by decide +kernel) (by decide +kernel)
theorem ml_X2_202 : Cond.methodLink RX2 202 yX1_isMirrored ∈ gw := gwm (i := 522) (by decide +kernel) (by decide +kernel)
theorem ml_X2_206 : Cond.methodLink RX2 206 yX1_isWide ∈ gw := gwm (i := 523) (by decide +kernel) (by decide +kernel)
theorem ml_X3_49 : Cond.methodLink RX3 49 yX3_hasFailed ∈ gw := gwm (i := 397) (by decide +kernel) (by decide +kernel)
theorem ml_X5_92 : Cond.methodLink RX5 92 yX3_pluggedOnes ∈ gw := gwm (i := 385) (by decide +kernel) (by decide +kernel)
theorem kc_X3_pluggedOnes : Cond.code yX3_pluggedOnes cX3_pluggedOnes 3 (some .int) ∈ gw := gwm (i := 388) (by decide +kernel) (by decide +kernel)
theorem ii_X3_pluggedOnes : Cond.instanceMethod yX3_pluggedOnes ∈ gw := gwm (i := 386) (by decide +kernel) (by decide +kernel)
theorem is_X3_pluggedOnes : Cond.selects RX3 yX3_pluggedOnes yX3_pluggedOnes ∈ gw := gwm (i := 387) (by decide +kernel) (by decide +kernel)
theorem ml_X5_295 : Cond.methodLink RX5 295 yX3_failedOnes ∈ gw := gwm (i := 393) (by decide +kernel) (by decide +kernel)
theorem kc_X3_failedOnes : Cond.code yX3_failedOnes cX3_failedOnes 3 (some .int) ∈ gw := gwm (i := 396) (by decide +kernel) (by decide +kernel)
theorem ii_X3_failedOnes : Cond.instanceMethod yX3_failedOnes ∈ gw := gwm (i := 394) (by decide +kernel) (by decide +kernel)
theorem is_X3_failedOnes : Cond.selects RX3 yX3_failedOnes yX3_failedOnes ∈ gw := gwm (i := 395) (by decide +kernel) (by decide +kernel)
theorem fl_X5_253 : Cond.fieldLinkNest RX5 253 RX1 "wide" "I" RX5 ∈ nestW := List.mem_filter.mpr ⟨List.mem_of_getElem? (i := 76) (by decide +kernel), rfl⟩
theorem fl_X5_256 : Cond.fieldLinkNest RX5 256 RX2 "blocksRead" "I" RX5 ∈ nestW := List.mem_filter.mpr ⟨List.mem_of_getElem? (i := 121) (by decide +kernel), rfl⟩
theorem fl_X5_298 : Cond.fieldLinkNest RX5 298 RX2 "pairsRead" "I" RX5 ∈ nestW := List.mem_filter.mpr ⟨List.mem_of_getElem? (i := 123) (by decide +kernel), rfl⟩
theorem fl_X5_301 : Cond.fieldLinkNest RX5 301 RX0 "waited" "I" RX5 ∈ nestW := List.mem_filter.mpr ⟨List.mem_of_getElem? (i := 102) (by decide +kernel), rfl⟩
theorem ml_X5_304 : Cond.methodLink RX5 304 yX2_lostBlocks ∈ gw := gwm (i := 401) (by decide +kernel) (by decide +kernel)
theorem kc_X2_lostBlocks : Cond.code yX2_lostBlocks cX2_lostBlocks 3 (some .int) ∈ gw := gwm (i := 404) (by decide +kernel) (by decide +kernel)
theorem ii_X2_lostBlocks : Cond.instanceMethod yX2_lostBlocks ∈ gw := gwm (i := 402) (by decide +kernel) (by decide +kernel)
theorem is_X2_lostBlocks : Cond.selects RX2 yX2_lostBlocks yX2_lostBlocks ∈ gw := gwm (i := 403) (by decide +kernel) (by decide +kernel)
theorem fl_X5_307 : Cond.fieldLinkNest RX5 307 RX2 "starts" "I" RX5 ∈ nestW := List.mem_filter.mpr ⟨List.mem_of_getElem? (i := 125) (by decide +kernel), rfl⟩
theorem ml_X5_310 : Cond.methodLink RX5 310 yX2_sumOfValues ∈ gw := gwm (i := 445) (by decide +kernel) (by decide +kernel)
theorem kc_X2_sumOfValues : Cond.code yX2_sumOfValues cX2_sumOfValues 3 (some .int) ∈ gw := gwm (i := 448) (by decide +kernel) (by decide +kernel)
theorem ii_X2_sumOfValues : Cond.instanceMethod yX2_sumOfValues ∈ gw := gwm (i := 446) (by decide +kernel) (by decide +kernel)
theorem is_X2_sumOfValues : Cond.selects RX2 yX2_sumOfValues yX2_sumOfValues ∈ gw := gwm (i := 447) (by decide +kernel) (by decide +kernel)
theorem fl_X5_33 : Cond.fieldLink RX5 33 RX5 "trialLayout" "LStickPairs$Layout;" ∈ gw := gwm (i := 265) (by decide +kernel) (by decide +kernel)
theorem ml_X5_336 : Cond.methodLink RX5 336 yX1_slotOf ∈ gw := gwm (i := 559) (by decide +kernel) (by decide +kernel)
theorem ml_X5_339 : Cond.methodLink RX5 339 yX1_numberOf ∈ gw := gwm (i := 560) (by decide +kernel) (by decide +kernel)
theorem ml_X5_342 : Cond.methodLink RX5 342 yX3_rankRow ∈ gw := gwm (i := 561) (by decide +kernel) (by decide +kernel)
theorem ml_X5_345 : Cond.methodLink RX5 345 yX3_delayIn ∈ gw := gwm (i := 575) (by decide +kernel) (by decide +kernel)
theorem ml_X5_313 : Cond.methodLink RX5 313 yX1_lay ∈ gw := gwm (i := 542) (by decide +kernel) (by decide +kernel)
theorem fl_X5_40 : Cond.fieldLink RX5 40 RX5 "trialClock" "LStickPairs$Clock;" ∈ gw := gwm (i := 266) (by decide +kernel) (by decide +kernel)
theorem ml_X5_317 : Cond.methodLink RX5 317 yX0_reset ∈ gw := gwm (i := 548) (by decide +kernel) (by decide +kernel)
theorem kc_X0_reset : Cond.code yX0_reset cX0_reset 1 none ∈ gw := gwm (i := 551) (by decide +kernel) (by decide +kernel)
theorem ii_X0_reset : Cond.instanceMethod yX0_reset ∈ gw := gwm (i := 549) (by decide +kernel) (by decide +kernel)
theorem is_X0_reset : Cond.selects RX0 yX0_reset yX0_reset ∈ gw := gwm (i := 550) (by decide +kernel) (by decide +kernel)
theorem ml_X5_320 : Cond.methodLink RX5 320 yX5_trialRank ∈ gw := gwm (i := 555) (by decide +kernel) (by decide +kernel)
theorem kc_X5_trialRank : Cond.code yX5_trialRank cX5_trialRank 2 (some .int) ∈ gw := gwm (i := 558) (by decide +kernel) (by decide +kernel)
theorem ii_X5_trialRank : Cond.instanceMethod yX5_trialRank ∈ gw := gwm (i := 557) (by decide +kernel) (by decide +kernel)
theorem is_X5_trialRank : Cond.selects RX5 yX5_trialRank yX5_trialRank ∈ gw := gwm (i := 13) (by decide +kernel) (by decide +kernel)
theorem ml_X5_323 : Cond.methodLink RX5 323 yX1_beginsPair ∈ gw := gwm (i := 566) (by decide +kernel) (by decide +kernel)
theorem ml_X5_326 : Cond.methodLink RX5 326 yX5_trialDelay ∈ gw := gwm (i := 571) (by decide +kernel) (by decide +kernel)
theorem kc_X5_trialDelay : Cond.code yX5_trialDelay cX5_trialDelay 2 (some .int) ∈ gw := gwm (i := 574) (by decide +kernel) (by decide +kernel)
theorem ii_X5_trialDelay : Cond.instanceMethod yX5_trialDelay ∈ gw := gwm (i := 573) (by decide +kernel) (by decide +kernel)
theorem is_X5_trialDelay : Cond.selects RX5 yX5_trialDelay yX5_trialDelay ∈ gw := gwm (i := 14) (by decide +kernel) (by decide +kernel)
theorem ml_X5_332 : Cond.methodLink RX5 332 yX0_readSingle ∈ gw := gwm (i := 592) (by decide +kernel) (by decide +kernel)
theorem ml_X5_329 : Cond.methodLink RX5 329 yX0_readPair ∈ gw := gwm (i := 576) (by decide +kernel) (by decide +kernel)
theorem ml_X3_60 : Cond.methodLink RX3 60 yJ9_min_7cf53 ∈ gw := gwm (i := 364) (by decide +kernel) (by decide +kernel)
theorem ml_X5_250 : Cond.methodLink RX5 250 yX3_wideIfChanged ∈ gw := gwm (i := 360) (by decide +kernel) (by decide +kernel)
theorem kc_X3_wideIfChanged : Cond.code yX3_wideIfChanged cX3_wideIfChanged 7 (some .int) ∈ gw := gwm (i := 363) (by decide +kernel) (by decide +kernel)
theorem ii_X3_wideIfChanged : Cond.instanceMethod yX3_wideIfChanged ∈ gw := gwm (i := 361) (by decide +kernel) (by decide +kernel)
theorem is_X3_wideIfChanged : Cond.selects RX3 yX3_wideIfChanged yX3_wideIfChanged ∈ gw := gwm (i := 362) (by decide +kernel) (by decide +kernel)
theorem lc_X5_261 : Cond.constantLong RX5 261 31 ∈ gw := gwm (i := 380) (by decide +kernel) (by decide +kernel)
theorem ml_X5_219 : Cond.methodLink RX5 219 yX2_slotNumber ∈ gw := gwm (i := 462) (by decide +kernel) (by decide +kernel)
theorem kc_X2_slotNumber : Cond.code yX2_slotNumber cX2_slotNumber 3 (some .int) ∈ gw := gwm (i := 465) (by decide +kernel) (by decide +kernel)
theorem ii_X2_slotNumber : Cond.instanceMethod yX2_slotNumber ∈ gw := gwm (i := 463) (by decide +kernel) (by decide +kernel)
theorem is_X2_slotNumber : Cond.selects RX2 yX2_slotNumber yX2_slotNumber ∈ gw := gwm (i := 464) (by decide +kernel) (by decide +kernel)
theorem ml_X5_229 : Cond.methodLink RX5 229 yX1_blockAt ∈ gw := gwm (i := 493) (by decide +kernel) (by decide +kernel)
theorem ml_X5_224 : Cond.methodLink RX5 224 yX2_blockNumber ∈ gw := gwm (i := 502) (by decide +kernel) (by decide +kernel)
theorem kc_X2_blockNumber : Cond.code yX2_blockNumber cX2_blockNumber 3 (some .int) ∈ gw := gwm (i := 505) (by decide +kernel) (by decide +kernel)
theorem ii_X2_blockNumber : Cond.instanceMethod yX2_blockNumber ∈ gw := gwm (i := 503) (by decide +kernel) (by decide +kernel)
theorem is_X2_blockNumber : Cond.selects RX2 yX2_blockNumber yX2_blockNumber ∈ gw := gwm (i := 504) (by decide +kernel) (by decide +kernel)
theorem ml_X5_147 : Cond.methodLink RX5 147 yX2_canRead ∈ gw := gwm (i := 531) (by decide +kernel) (by decide +kernel)
theorem ml_X5_348 : Cond.methodLink RX5 348 yX2_heldBy ∈ gw := gwm (i := 532) (by decide +kernel) (by decide +kernel)
theorem ml_X5_351 : Cond.methodLink RX5 351 yX5_why ∈ gw := gwm (i := 537) (by decide +kernel) (by decide +kernel)
theorem kc_X5_why : Cond.code yX5_why cX5_why 1 (some .int) ∈ gw := gwm (i := 339) (by decide +kernel) (by decide +kernel)
theorem ii_X5_why : Cond.instanceMethod yX5_why ∈ gw := gwm (i := 337) (by decide +kernel) (by decide +kernel)
theorem is_X5_why : Cond.selects RX5 yX5_why yX5_why ∈ gw := gwm (i := 338) (by decide +kernel) (by decide +kernel)
theorem ml_X5_242 : Cond.methodLink RX5 242 yX5_sweepTicks ∈ gw := gwm (i := 538) (by decide +kernel) (by decide +kernel)
theorem kc_X5_sweepTicks : Cond.code yX5_sweepTicks cX5_sweepTicks 6 (some .int) ∈ gw := gwm (i := 541) (by decide +kernel) (by decide +kernel)
theorem ii_X5_sweepTicks : Cond.instanceMethod yX5_sweepTicks ∈ gw := gwm (i := 540) (by decide +kernel) (by decide +kernel)
theorem is_X5_sweepTicks : Cond.selects RX5 yX5_sweepTicks yX5_sweepTicks ∈ gw := gwm (i := 12) (by decide +kernel) (by decide +kernel)
theorem ml_X5_247 : Cond.methodLink RX5 247 yX5_blocksIfStarted ∈ gw := gwm (i := 596) (by decide +kernel) (by decide +kernel)
theorem kc_X5_blocksIfStarted : Cond.code yX5_blocksIfStarted cX5_blocksIfStarted 3 (some .int) ∈ gw := gwm (i := 599) (by decide +kernel) (by decide +kernel)
theorem ii_X5_blocksIfStarted : Cond.instanceMethod yX5_blocksIfStarted ∈ gw := gwm (i := 598) (by decide +kernel) (by decide +kernel)
theorem is_X5_blocksIfStarted : Cond.selects RX5 yX5_blocksIfStarted yX5_blocksIfStarted ∈ gw := gwm (i := 17) (by decide +kernel) (by decide +kernel)
theorem ml_X5_354 : Cond.methodLink RX5 354 yX5_bestChange ∈ gw := gwm (i := 600) (by decide +kernel) (by decide +kernel)
theorem kc_X5_bestChange : Cond.code yX5_bestChange cX5_bestChange 6 (some .int) ∈ gw := gwm (i := 359) (by decide +kernel) (by decide +kernel)
theorem ii_X5_bestChange : Cond.instanceMethod yX5_bestChange ∈ gw := gwm (i := 357) (by decide +kernel) (by decide +kernel)
theorem is_X5_bestChange : Cond.selects RX5 yX5_bestChange yX5_bestChange ∈ gw := gwm (i := 358) (by decide +kernel) (by decide +kernel)
theorem lc_X5_365 : Cond.constantDouble RX5 365 4611686018427387904 ∈ gw := gwm (i := 609) (by decide +kernel) (by decide +kernel)
theorem lc_X5_357 : Cond.constantDouble RX5 357 4841369599423283200 ∈ gw := gwm (i := 605) (by decide +kernel) (by decide +kernel)
theorem ml_X5_359 : Cond.methodLink RX5 359 yX5_bits ∈ gw := gwm (i := 606) (by decide +kernel) (by decide +kernel)
theorem kc_X5_bits : Cond.code yX5_bits cX5_bits 9 (some .long) ∈ gw := gwm (i := 608) (by decide +kernel) (by decide +kernel)
theorem st_X5_bits : Cond.static yX5_bits ∈ gw := gwm (i := 607) (by decide +kernel) (by decide +kernel)
theorem lc_X5_363 : Cond.constantDouble RX5 363 4710765210229538816 ∈ gw := gwm (i := 614) (by decide +kernel) (by decide +kernel)
theorem lc_X4_57 : Cond.constantLong RX4 57 31 ∈ gw := gwm (i := 619) (by decide +kernel) (by decide +kernel)
theorem lc_X5_259 : Cond.constantLong RX5 259 3691 ∈ gw := gwm (i := 379) (by decide +kernel) (by decide +kernel)
theorem ml_X5_234 : Cond.methodLink RX5 234 yX5_countOf ∈ gw := gwm (i := 381) (by decide +kernel) (by decide +kernel)
theorem kc_X5_countOf : Cond.code yX5_countOf cX5_countOf 2 (some .int) ∈ gw := gwm (i := 384) (by decide +kernel) (by decide +kernel)
theorem ii_X5_countOf : Cond.instanceMethod yX5_countOf ∈ gw := gwm (i := 383) (by decide +kernel) (by decide +kernel)
theorem is_X5_countOf : Cond.selects RX5 yX5_countOf yX5_countOf ∈ gw := gwm (i := 2) (by decide +kernel) (by decide +kernel)
theorem ml_X5_237 : Cond.methodLink RX5 237 yX2_settingOf ∈ gw := gwm (i := 454) (by decide +kernel) (by decide +kernel)
theorem ml_X5_263 : Cond.methodLink RX5 263 yX5_foldSlots ∈ gw := gwm (i := 458) (by decide +kernel) (by decide +kernel)
theorem kc_X5_foldSlots : Cond.code yX5_foldSlots cX5_foldSlots 7 (some .long) ∈ gw := gwm (i := 461) (by decide +kernel) (by decide +kernel)
theorem ii_X5_foldSlots : Cond.instanceMethod yX5_foldSlots ∈ gw := gwm (i := 460) (by decide +kernel) (by decide +kernel)
theorem is_X5_foldSlots : Cond.selects RX5 yX5_foldSlots yX5_foldSlots ∈ gw := gwm (i := 7) (by decide +kernel) (by decide +kernel)
theorem ml_X5_267 : Cond.methodLink RX5 267 yX5_foldBlocks ∈ gw := gwm (i := 498) (by decide +kernel) (by decide +kernel)
theorem kc_X5_foldBlocks : Cond.code yX5_foldBlocks cX5_foldBlocks 7 (some .long) ∈ gw := gwm (i := 501) (by decide +kernel) (by decide +kernel)
theorem ii_X5_foldBlocks : Cond.instanceMethod yX5_foldBlocks ∈ gw := gwm (i := 500) (by decide +kernel) (by decide +kernel)
theorem is_X5_foldBlocks : Cond.selects RX5 yX5_foldBlocks yX5_foldBlocks ∈ gw := gwm (i := 8) (by decide +kernel) (by decide +kernel)
theorem ml_X5_270 : Cond.methodLink RX5 270 yX5_foldTrials ∈ gw := gwm (i := 533) (by decide +kernel) (by decide +kernel)
theorem kc_X5_foldTrials : Cond.code yX5_foldTrials cX5_foldTrials 6 (some .long) ∈ gw := gwm (i := 536) (by decide +kernel) (by decide +kernel)
theorem ii_X5_foldTrials : Cond.instanceMethod yX5_foldTrials ∈ gw := gwm (i := 535) (by decide +kernel) (by decide +kernel)
theorem is_X5_foldTrials : Cond.selects RX5 yX5_foldTrials yX5_foldTrials ∈ gw := gwm (i := 11) (by decide +kernel) (by decide +kernel)
theorem ml_X5_273 : Cond.methodLink RX5 273 yX5_wideShare ∈ gw := gwm (i := 601) (by decide +kernel) (by decide +kernel)
theorem kc_X5_wideShare : Cond.code yX5_wideShare cX5_wideShare 2 (some .double) ∈ gw := gwm (i := 370) (by decide +kernel) (by decide +kernel)
theorem ii_X5_wideShare : Cond.instanceMethod yX5_wideShare ∈ gw := gwm (i := 368) (by decide +kernel) (by decide +kernel)
theorem is_X5_wideShare : Cond.selects RX5 yX5_wideShare yX5_wideShare ∈ gw := gwm (i := 369) (by decide +kernel) (by decide +kernel)
theorem ml_X5_277 : Cond.methodLink RX5 277 yX5_doubleBits ∈ gw := gwm (i := 602) (by decide +kernel) (by decide +kernel)
theorem kc_X5_doubleBits : Cond.code yX5_doubleBits cX5_doubleBits 2 (some .long) ∈ gw := gwm (i := 604) (by decide +kernel) (by decide +kernel)
theorem st_X5_doubleBits : Cond.static yX5_doubleBits ∈ gw := gwm (i := 603) (by decide +kernel) (by decide +kernel)
theorem ml_X5_281 : Cond.methodLink RX5 281 yX5_meanTicks ∈ gw := gwm (i := 610) (by decide +kernel) (by decide +kernel)
theorem kc_X5_meanTicks : Cond.code yX5_meanTicks cX5_meanTicks 2 (some .float) ∈ gw := gwm (i := 374) (by decide +kernel) (by decide +kernel)
theorem ii_X5_meanTicks : Cond.instanceMethod yX5_meanTicks ∈ gw := gwm (i := 372) (by decide +kernel) (by decide +kernel)
theorem is_X5_meanTicks : Cond.selects RX5 yX5_meanTicks yX5_meanTicks ∈ gw := gwm (i := 373) (by decide +kernel) (by decide +kernel)
theorem ml_X5_285 : Cond.methodLink RX5 285 yX5_floatBits ∈ gw := gwm (i := 611) (by decide +kernel) (by decide +kernel)
theorem kc_X5_floatBits : Cond.code yX5_floatBits cX5_floatBits 1 (some .long) ∈ gw := gwm (i := 613) (by decide +kernel) (by decide +kernel)
theorem st_X5_floatBits : Cond.static yX5_floatBits ∈ gw := gwm (i := 612) (by decide +kernel) (by decide +kernel)
theorem ml_X5_289 : Cond.methodLink RX5 289 yX4_fold ∈ gw := gwm (i := 615) (by decide +kernel) (by decide +kernel)
theorem kc_X4_fold : Cond.code yX4_fold cX4_fold 6 (some .long) ∈ gw := gwm (i := 618) (by decide +kernel) (by decide +kernel)
theorem ii_X4_fold : Cond.instanceMethod yX4_fold ∈ gw := gwm (i := 616) (by decide +kernel) (by decide +kernel)
theorem is_X4_fold : Cond.selects RX4 yX4_fold yX4_fold ∈ gw := gwm (i := 617) (by decide +kernel) (by decide +kernel)
theorem fl_X6_25 : Cond.fieldLink RX6 25 RX6 "thrown" "I" ∈ gw := gwm (i := 1025) (by decide +kernel) (by decide +kernel)
theorem ml_X6_29 : Cond.methodLink RX6 29 yX6_in ∈ gw := gwm (i := 1083) (by decide +kernel) (by decide +kernel)
theorem kc_X6_in : Cond.code yX6_in cX6_in 3 (some .boolean) ∈ gw := gwm (i := 1085) (by decide +kernel) (by decide +kernel)
theorem ki_StickPairsModel : Cond.initialized RX6 ∈ gw := gwm (i := 86) (by decide +kernel) (by decide +kernel)
theorem st_X6_in : Cond.static yX6_in ∈ gw := gwm (i := 1084) (by decide +kernel) (by decide +kernel)
theorem fl_X6_7 : Cond.fieldLink RX6 7 RX6 "z" "[I" ∈ gw := gwm (i := 1026) (by decide +kernel) (by decide +kernel)
theorem ml_X6_33 : Cond.methodLink RX6 33 yX6_of ∈ gw := gwm (i := 1093) (by decide +kernel) (by decide +kernel)
theorem kc_X6_of : Cond.code yX6_of cX6_of 3 (some .int) ∈ gw := gwm (i := 1096) (by decide +kernel) (by decide +kernel)
theorem ii_X6_of : Cond.instanceMethod yX6_of ∈ gw := gwm (i := 1095) (by decide +kernel) (by decide +kernel)
theorem is_X6_of : Cond.selects RX6 yX6_of yX6_of ∈ gw := gwm (i := 26) (by decide +kernel) (by decide +kernel)
theorem fl_X6_37 : Cond.fieldLink RX6 37 RX6 "saves" "I" ∈ gw := gwm (i := 1029) (by decide +kernel) (by decide +kernel)
theorem fl_X6_16 : Cond.fieldLink RX6 16 RX6 "saved" "[I" ∈ gw := gwm (i := 1028) (by decide +kernel) (by decide +kernel)
theorem fl_X6_19 : Cond.fieldLink RX6 19 RX6 "kept" "[I" ∈ gw := gwm (i := 1030) (by decide +kernel) (by decide +kernel)
theorem fl_X6_40 : Cond.fieldLink RX6 40 RX6 "isKept" "Z" ∈ gw := gwm (i := 1031) (by decide +kernel) (by decide +kernel)
theorem ml_X6_44 : Cond.methodLink RX6 44 yX6_record ∈ gw := gwm (i := 1075) (by decide +kernel) (by decide +kernel)
theorem kc_X6_record : Cond.code yX6_record cX6_record 2 none ∈ gw := gwm (i := 1078) (by decide +kernel) (by decide +kernel)
theorem ii_X6_record : Cond.instanceMethod yX6_record ∈ gw := gwm (i := 1077) (by decide +kernel) (by decide +kernel)
theorem is_X6_record : Cond.selects RX6 yX6_record yX6_record ∈ gw := gwm (i := 24) (by decide +kernel) (by decide +kernel)
theorem fl_X6_13 : Cond.fieldLink RX6 13 RX6 "aside" "[I" ∈ gw := gwm (i := 1027) (by decide +kernel) (by decide +kernel)
theorem ml_X6_47 : Cond.methodLink RX6 47 yX6_room ∈ gw := gwm (i := 1125) (by decide +kernel) (by decide +kernel)
theorem kc_X6_room : Cond.code yX6_room cX6_room 2 (some .int) ∈ gw := gwm (i := 1128) (by decide +kernel) (by decide +kernel)
theorem ii_X6_room : Cond.instanceMethod yX6_room ∈ gw := gwm (i := 1127) (by decide +kernel) (by decide +kernel)
theorem is_X6_room : Cond.selects RX6 yX6_room yX6_room ∈ gw := gwm (i := 33) (by decide +kernel) (by decide +kernel)
theorem ml_X6_51 : Cond.methodLink RX6 51 yX6_lesserRoom ∈ gw := gwm (i := 1121) (by decide +kernel) (by decide +kernel)
theorem kc_X6_lesserRoom : Cond.code yX6_lesserRoom cX6_lesserRoom 1 (some .int) ∈ gw := gwm (i := 1124) (by decide +kernel) (by decide +kernel)
theorem ii_X6_lesserRoom : Cond.instanceMethod yX6_lesserRoom ∈ gw := gwm (i := 1123) (by decide +kernel) (by decide +kernel)
theorem is_X6_lesserRoom : Cond.selects RX6 yX6_lesserRoom yX6_lesserRoom ∈ gw := gwm (i := 32) (by decide +kernel) (by decide +kernel)
theorem ml_X6_55 : Cond.methodLink RX6 55 yX6_blocks ∈ gw := gwm (i := 1153) (by decide +kernel) (by decide +kernel)
theorem kc_X6_blocks : Cond.code yX6_blocks cX6_blocks 1 (some .int) ∈ gw := gwm (i := 1156) (by decide +kernel) (by decide +kernel)
theorem ii_X6_blocks : Cond.instanceMethod yX6_blocks ∈ gw := gwm (i := 1155) (by decide +kernel) (by decide +kernel)
theorem is_X6_blocks : Cond.selects RX6 yX6_blocks yX6_blocks ∈ gw := gwm (i := 38) (by decide +kernel) (by decide +kernel)
theorem ml_X6_58 : Cond.methodLink RX6 58 yX6_wideBlocks ∈ gw := gwm (i := 1181) (by decide +kernel) (by decide +kernel)
theorem kc_X6_wideBlocks : Cond.code yX6_wideBlocks cX6_wideBlocks 1 (some .int) ∈ gw := gwm (i := 1184) (by decide +kernel) (by decide +kernel)
theorem ii_X6_wideBlocks : Cond.instanceMethod yX6_wideBlocks ∈ gw := gwm (i := 1183) (by decide +kernel) (by decide +kernel)
theorem is_X6_wideBlocks : Cond.selects RX6 yX6_wideBlocks yX6_wideBlocks ∈ gw := gwm (i := 43) (by decide +kernel) (by decide +kernel)
theorem ml_X6_61 : Cond.methodLink RX6 61 yX6_channelOf ∈ gw := gwm (i := 1177) (by decide +kernel) (by decide +kernel)
theorem kc_X6_channelOf : Cond.code yX6_channelOf cX6_channelOf 2 (some .int) ∈ gw := gwm (i := 1180) (by decide +kernel) (by decide +kernel)
theorem ii_X6_channelOf : Cond.instanceMethod yX6_channelOf ∈ gw := gwm (i := 1179) (by decide +kernel) (by decide +kernel)
theorem is_X6_channelOf : Cond.selects RX6 yX6_channelOf yX6_channelOf ∈ gw := gwm (i := 42) (by decide +kernel) (by decide +kernel)
theorem ml_X6_64 : Cond.methodLink RX6 64 yX6_inChannel ∈ gw := gwm (i := 1185) (by decide +kernel) (by decide +kernel)
theorem kc_X6_inChannel : Cond.code yX6_inChannel cX6_inChannel 2 (some .int) ∈ gw := gwm (i := 1188) (by decide +kernel) (by decide +kernel)
theorem ii_X6_inChannel : Cond.instanceMethod yX6_inChannel ∈ gw := gwm (i := 1187) (by decide +kernel) (by decide +kernel)
theorem is_X6_inChannel : Cond.selects RX6 yX6_inChannel yX6_inChannel ∈ gw := gwm (i := 44) (by decide +kernel) (by decide +kernel)
theorem ml_X6_67 : Cond.methodLink RX6 67 yX6_slotIn ∈ gw := gwm (i := 1189) (by decide +kernel) (by decide +kernel)
theorem kc_X6_slotIn : Cond.code yX6_slotIn cX6_slotIn 3 (some .int) ∈ gw := gwm (i := 1192) (by decide +kernel) (by decide +kernel)
theorem ii_X6_slotIn : Cond.instanceMethod yX6_slotIn ∈ gw := gwm (i := 1191) (by decide +kernel) (by decide +kernel)
theorem is_X6_slotIn : Cond.selects RX6 yX6_slotIn yX6_slotIn ∈ gw := gwm (i := 45) (by decide +kernel) (by decide +kernel)
theorem ml_X6_70 : Cond.methodLink RX6 70 yX6_numberIn ∈ gw := gwm (i := 1213) (by decide +kernel) (by decide +kernel)
theorem kc_X6_numberIn : Cond.code yX6_numberIn cX6_numberIn 3 (some .int) ∈ gw := gwm (i := 1216) (by decide +kernel) (by decide +kernel)
theorem ii_X6_numberIn : Cond.instanceMethod yX6_numberIn ∈ gw := gwm (i := 1215) (by decide +kernel) (by decide +kernel)
theorem is_X6_numberIn : Cond.selects RX6 yX6_numberIn yX6_numberIn ∈ gw := gwm (i := 51) (by decide +kernel) (by decide +kernel)
theorem ml_X6_73 : Cond.methodLink RX6 73 yX6_slotOf ∈ gw := gwm (i := 1173) (by decide +kernel) (by decide +kernel)
theorem kc_X6_slotOf : Cond.code yX6_slotOf cX6_slotOf 2 (some .int) ∈ gw := gwm (i := 1176) (by decide +kernel) (by decide +kernel)
theorem ii_X6_slotOf : Cond.instanceMethod yX6_slotOf ∈ gw := gwm (i := 1175) (by decide +kernel) (by decide +kernel)
theorem is_X6_slotOf : Cond.selects RX6 yX6_slotOf yX6_slotOf ∈ gw := gwm (i := 41) (by decide +kernel) (by decide +kernel)
theorem ml_X6_76 : Cond.methodLink RX6 76 yX6_isLeft ∈ gw := gwm (i := 1109) (by decide +kernel) (by decide +kernel)
theorem kc_X6_isLeft : Cond.code yX6_isLeft cX6_isLeft 2 (some .boolean) ∈ gw := gwm (i := 1112) (by decide +kernel) (by decide +kernel)
theorem ii_X6_isLeft : Cond.instanceMethod yX6_isLeft ∈ gw := gwm (i := 1111) (by decide +kernel) (by decide +kernel)
theorem is_X6_isLeft : Cond.selects RX6 yX6_isLeft yX6_isLeft ∈ gw := gwm (i := 29) (by decide +kernel) (by decide +kernel)
theorem ml_X6_80 : Cond.methodLink RX6 80 yX6_secondSlot ∈ gw := gwm (i := 1193) (by decide +kernel) (by decide +kernel)
theorem kc_X6_secondSlot : Cond.code yX6_secondSlot cX6_secondSlot 2 (some .int) ∈ gw := gwm (i := 1196) (by decide +kernel) (by decide +kernel)
theorem ii_X6_secondSlot : Cond.instanceMethod yX6_secondSlot ∈ gw := gwm (i := 1195) (by decide +kernel) (by decide +kernel)
theorem is_X6_secondSlot : Cond.selects RX6 yX6_secondSlot yX6_secondSlot ∈ gw := gwm (i := 46) (by decide +kernel) (by decide +kernel)
theorem ml_X6_86 : Cond.methodLink RX6 86 yX6_secondNumber ∈ gw := gwm (i := 1217) (by decide +kernel) (by decide +kernel)
theorem kc_X6_secondNumber : Cond.code yX6_secondNumber cX6_secondNumber 2 (some .int) ∈ gw := gwm (i := 1220) (by decide +kernel) (by decide +kernel)
theorem ii_X6_secondNumber : Cond.instanceMethod yX6_secondNumber ∈ gw := gwm (i := 1219) (by decide +kernel) (by decide +kernel)
theorem is_X6_secondNumber : Cond.selects RX6 yX6_secondNumber yX6_secondNumber ∈ gw := gwm (i := 52) (by decide +kernel) (by decide +kernel)
theorem ml_X6_83 : Cond.methodLink RX6 83 yX6_numberOf ∈ gw := gwm (i := 1209) (by decide +kernel) (by decide +kernel)
theorem kc_X6_numberOf : Cond.code yX6_numberOf cX6_numberOf 2 (some .int) ∈ gw := gwm (i := 1212) (by decide +kernel) (by decide +kernel)
theorem ii_X6_numberOf : Cond.instanceMethod yX6_numberOf ∈ gw := gwm (i := 1211) (by decide +kernel) (by decide +kernel)
theorem is_X6_numberOf : Cond.selects RX6 yX6_numberOf yX6_numberOf ∈ gw := gwm (i := 50) (by decide +kernel) (by decide +kernel)
theorem ml_X6_89 : Cond.methodLink RX6 89 yX6_readSlot ∈ gw := gwm (i := 1201) (by decide +kernel) (by decide +kernel)
theorem kc_X6_readSlot : Cond.code yX6_readSlot cX6_readSlot 2 (some .int) ∈ gw := gwm (i := 1204) (by decide +kernel) (by decide +kernel)
theorem ii_X6_readSlot : Cond.instanceMethod yX6_readSlot ∈ gw := gwm (i := 1203) (by decide +kernel) (by decide +kernel)
theorem is_X6_readSlot : Cond.selects RX6 yX6_readSlot yX6_readSlot ∈ gw := gwm (i := 48) (by decide +kernel) (by decide +kernel)
theorem ml_X6_92 : Cond.methodLink RX6 92 yX6_readNumber ∈ gw := gwm (i := 1205) (by decide +kernel) (by decide +kernel)
theorem kc_X6_readNumber : Cond.code yX6_readNumber cX6_readNumber 2 (some .int) ∈ gw := gwm (i := 1208) (by decide +kernel) (by decide +kernel)
theorem ii_X6_readNumber : Cond.instanceMethod yX6_readNumber ∈ gw := gwm (i := 1207) (by decide +kernel) (by decide +kernel)
theorem is_X6_readNumber : Cond.selects RX6 yX6_readNumber yX6_readNumber ∈ gw := gwm (i := 49) (by decide +kernel) (by decide +kernel)
theorem ml_X6_95 : Cond.methodLink RX6 95 yX6_blockAt ∈ gw := gwm (i := 1117) (by decide +kernel) (by decide +kernel)
theorem kc_X6_blockAt : Cond.code yX6_blockAt cX6_blockAt 5 (some .int) ∈ gw := gwm (i := 1120) (by decide +kernel) (by decide +kernel)
theorem ii_X6_blockAt : Cond.instanceMethod yX6_blockAt ∈ gw := gwm (i := 1119) (by decide +kernel) (by decide +kernel)
theorem is_X6_blockAt : Cond.selects RX6 yX6_blockAt yX6_blockAt ∈ gw := gwm (i := 31) (by decide +kernel) (by decide +kernel)
theorem ml_X6_98 : Cond.methodLink RX6 98 yX6_put ∈ gw := gwm (i := 1097) (by decide +kernel) (by decide +kernel)
theorem kc_X6_put : Cond.code yX6_put cX6_put 4 none ∈ gw := gwm (i := 1100) (by decide +kernel) (by decide +kernel)
theorem ii_X6_put : Cond.instanceMethod yX6_put ∈ gw := gwm (i := 1099) (by decide +kernel) (by decide +kernel)
theorem is_X6_put : Cond.selects RX6 yX6_put yX6_put ∈ gw := gwm (i := 27) (by decide +kernel) (by decide +kernel)
theorem ml_X6_102 : Cond.methodLink RX6 102 yX6_isThere ∈ gw := gwm (i := 1089) (by decide +kernel) (by decide +kernel)
theorem kc_X6_isThere : Cond.code yX6_isThere cX6_isThere 2 (some .boolean) ∈ gw := gwm (i := 1092) (by decide +kernel) (by decide +kernel)
theorem ii_X6_isThere : Cond.instanceMethod yX6_isThere ∈ gw := gwm (i := 1091) (by decide +kernel) (by decide +kernel)
theorem is_X6_isThere : Cond.selects RX6 yX6_isThere yX6_isThere ∈ gw := gwm (i := 25) (by decide +kernel) (by decide +kernel)
theorem ml_X6_105 : Cond.methodLink RX6 105 yX6_goodRoom ∈ gw := gwm (i := 1141) (by decide +kernel) (by decide +kernel)
theorem kc_X6_goodRoom : Cond.code yX6_goodRoom cX6_goodRoom 4 (some .int) ∈ gw := gwm (i := 1144) (by decide +kernel) (by decide +kernel)
theorem ii_X6_goodRoom : Cond.instanceMethod yX6_goodRoom ∈ gw := gwm (i := 1143) (by decide +kernel) (by decide +kernel)
theorem is_X6_goodRoom : Cond.selects RX6 yX6_goodRoom yX6_goodRoom ∈ gw := gwm (i := 35) (by decide +kernel) (by decide +kernel)
theorem ml_X6_108 : Cond.methodLink RX6 108 yX6_forgetMap ∈ gw := gwm (i := 1149) (by decide +kernel) (by decide +kernel)
theorem kc_X6_forgetMap : Cond.code yX6_forgetMap cX6_forgetMap 2 none ∈ gw := gwm (i := 1152) (by decide +kernel) (by decide +kernel)
theorem ii_X6_forgetMap : Cond.instanceMethod yX6_forgetMap ∈ gw := gwm (i := 1151) (by decide +kernel) (by decide +kernel)
theorem is_X6_forgetMap : Cond.selects RX6 yX6_forgetMap yX6_forgetMap ∈ gw := gwm (i := 37) (by decide +kernel) (by decide +kernel)
theorem ml_X6_111 : Cond.methodLink RX6 111 yX6_isSlot ∈ gw := gwm (i := 1086) (by decide +kernel) (by decide +kernel)
theorem kc_X6_isSlot : Cond.code yX6_isSlot cX6_isSlot 1 (some .boolean) ∈ gw := gwm (i := 1088) (by decide +kernel) (by decide +kernel)
theorem st_X6_isSlot : Cond.static yX6_isSlot ∈ gw := gwm (i := 1087) (by decide +kernel) (by decide +kernel)
theorem ml_X6_114 : Cond.methodLink RX6 114 yX6_sticks ∈ gw := gwm (i := 1101) (by decide +kernel) (by decide +kernel)
theorem kc_X6_sticks : Cond.code yX6_sticks cX6_sticks 4 (some .int) ∈ gw := gwm (i := 1104) (by decide +kernel) (by decide +kernel)
theorem ii_X6_sticks : Cond.instanceMethod yX6_sticks ∈ gw := gwm (i := 1103) (by decide +kernel) (by decide +kernel)
theorem is_X6_sticks : Cond.selects RX6 yX6_sticks yX6_sticks ∈ gw := gwm (i := 28) (by decide +kernel) (by decide +kernel)
theorem ml_X6_118 : Cond.methodLink RX6 118 yX6_used ∈ gw := gwm (i := 1113) (by decide +kernel) (by decide +kernel)
theorem kc_X6_used : Cond.code yX6_used cX6_used 4 (some .int) ∈ gw := gwm (i := 1116) (by decide +kernel) (by decide +kernel)
theorem ii_X6_used : Cond.instanceMethod yX6_used ∈ gw := gwm (i := 1115) (by decide +kernel) (by decide +kernel)
theorem is_X6_used : Cond.selects RX6 yX6_used yX6_used ∈ gw := gwm (i := 30) (by decide +kernel) (by decide +kernel)
theorem ml_X6_121 : Cond.methodLink RX6 121 yX6_whyNot ∈ gw := gwm (i := 1137) (by decide +kernel) (by decide +kernel)
theorem kc_X6_whyNot : Cond.code yX6_whyNot cX6_whyNot 2 (some .int) ∈ gw := gwm (i := 1140) (by decide +kernel) (by decide +kernel)
theorem ii_X6_whyNot : Cond.instanceMethod yX6_whyNot ∈ gw := gwm (i := 1139) (by decide +kernel) (by decide +kernel)
theorem is_X6_whyNot : Cond.selects RX6 yX6_whyNot yX6_whyNot ∈ gw := gwm (i := 34) (by decide +kernel) (by decide +kernel)
theorem ml_X6_124 : Cond.methodLink RX6 124 yX6_makeMap ∈ gw := gwm (i := 1145) (by decide +kernel) (by decide +kernel)
theorem kc_X6_makeMap : Cond.code yX6_makeMap cX6_makeMap 3 none ∈ gw := gwm (i := 1148) (by decide +kernel) (by decide +kernel)
theorem ii_X6_makeMap : Cond.instanceMethod yX6_makeMap ∈ gw := gwm (i := 1147) (by decide +kernel) (by decide +kernel)
theorem is_X6_makeMap : Cond.selects RX6 yX6_makeMap yX6_makeMap ∈ gw := gwm (i := 36) (by decide +kernel) (by decide +kernel)
theorem ml_X6_128 : Cond.methodLink RX6 128 yX6_isBlock ∈ gw := gwm (i := 1165) (by decide +kernel) (by decide +kernel)
theorem kc_X6_isBlock : Cond.code yX6_isBlock cX6_isBlock 2 (some .boolean) ∈ gw := gwm (i := 1168) (by decide +kernel) (by decide +kernel)
theorem ii_X6_isBlock : Cond.instanceMethod yX6_isBlock ∈ gw := gwm (i := 1167) (by decide +kernel) (by decide +kernel)
theorem is_X6_isBlock : Cond.selects RX6 yX6_isBlock yX6_isBlock ∈ gw := gwm (i := 39) (by decide +kernel) (by decide +kernel)
theorem ml_X6_134 : Cond.methodLink RX6 134 yX6_valueOf ∈ gw := gwm (i := 1197) (by decide +kernel) (by decide +kernel)
theorem kc_X6_valueOf : Cond.code yX6_valueOf cX6_valueOf 2 (some .int) ∈ gw := gwm (i := 1200) (by decide +kernel) (by decide +kernel)
theorem ii_X6_valueOf : Cond.instanceMethod yX6_valueOf ∈ gw := gwm (i := 1199) (by decide +kernel) (by decide +kernel)
theorem is_X6_valueOf : Cond.selects RX6 yX6_valueOf yX6_valueOf ∈ gw := gwm (i := 47) (by decide +kernel) (by decide +kernel)
theorem ml_X6_131 : Cond.methodLink RX6 131 yX6_isLeftFor ∈ gw := gwm (i := 1169) (by decide +kernel) (by decide +kernel)
theorem kc_X6_isLeftFor : Cond.code yX6_isLeftFor cX6_isLeftFor 2 (some .boolean) ∈ gw := gwm (i := 1172) (by decide +kernel) (by decide +kernel)
theorem ii_X6_isLeftFor : Cond.instanceMethod yX6_isLeftFor ∈ gw := gwm (i := 1171) (by decide +kernel) (by decide +kernel)
theorem is_X6_isLeftFor : Cond.selects RX6 yX6_isLeftFor yX6_isLeftFor ∈ gw := gwm (i := 40) (by decide +kernel) (by decide +kernel)
theorem ml_X6_137 : Cond.methodLink RX6 137 yX6_rankOf ∈ gw := gwm (i := 1233) (by decide +kernel) (by decide +kernel)
theorem kc_X6_rankOf : Cond.code yX6_rankOf cX6_rankOf 3 (some .int) ∈ gw := gwm (i := 1236) (by decide +kernel) (by decide +kernel)
theorem ii_X6_rankOf : Cond.instanceMethod yX6_rankOf ∈ gw := gwm (i := 1235) (by decide +kernel) (by decide +kernel)
theorem is_X6_rankOf : Cond.selects RX6 yX6_rankOf yX6_rankOf ∈ gw := gwm (i := 55) (by decide +kernel) (by decide +kernel)
theorem ml_X6_140 : Cond.methodLink RX6 140 yX6_freeFrom ∈ gw := gwm (i := 1229) (by decide +kernel) (by decide +kernel)
theorem kc_X6_freeFrom : Cond.code yX6_freeFrom cX6_freeFrom 3 (some .int) ∈ gw := gwm (i := 1232) (by decide +kernel) (by decide +kernel)
theorem ii_X6_freeFrom : Cond.instanceMethod yX6_freeFrom ∈ gw := gwm (i := 1231) (by decide +kernel) (by decide +kernel)
theorem is_X6_freeFrom : Cond.selects RX6 yX6_freeFrom yX6_freeFrom ∈ gw := gwm (i := 54) (by decide +kernel) (by decide +kernel)
theorem ml_X6_143 : Cond.methodLink RX6 143 yX6_waitFor ∈ gw := gwm (i := 1237) (by decide +kernel) (by decide +kernel)
theorem kc_X6_waitFor : Cond.code yX6_waitFor cX6_waitFor 2 none ∈ gw := gwm (i := 1240) (by decide +kernel) (by decide +kernel)
theorem ii_X6_waitFor : Cond.instanceMethod yX6_waitFor ∈ gw := gwm (i := 1239) (by decide +kernel) (by decide +kernel)
theorem is_X6_waitFor : Cond.selects RX6 yX6_waitFor yX6_waitFor ∈ gw := gwm (i := 56) (by decide +kernel) (by decide +kernel)
theorem ml_X6_146 : Cond.methodLink RX6 146 yX6_readNow ∈ gw := gwm (i := 1241) (by decide +kernel) (by decide +kernel)
theorem kc_X6_readNow : Cond.code yX6_readNow cX6_readNow 3 (some .int) ∈ gw := gwm (i := 1244) (by decide +kernel) (by decide +kernel)
theorem ii_X6_readNow : Cond.instanceMethod yX6_readNow ∈ gw := gwm (i := 1243) (by decide +kernel) (by decide +kernel)
theorem is_X6_readNow : Cond.selects RX6 yX6_readNow yX6_readNow ∈ gw := gwm (i := 57) (by decide +kernel) (by decide +kernel)
theorem ml_X6_149 : Cond.methodLink RX6 149 yX6_doRead ∈ gw := gwm (i := 1225) (by decide +kernel) (by decide +kernel)
theorem kc_X6_doRead : Cond.code yX6_doRead cX6_doRead 3 (some .int) ∈ gw := gwm (i := 1228) (by decide +kernel) (by decide +kernel)
theorem ii_X6_doRead : Cond.instanceMethod yX6_doRead ∈ gw := gwm (i := 1227) (by decide +kernel) (by decide +kernel)
theorem is_X6_doRead : Cond.selects RX6 yX6_doRead yX6_doRead ∈ gw := gwm (i := 53) (by decide +kernel) (by decide +kernel)
theorem fl_X6_22 : Cond.fieldLink RX6 22 RX6 "text" "[I" ∈ gw := gwm (i := 1032) (by decide +kernel) (by decide +kernel)
theorem fl_X6_152 : Cond.fieldLink RX6 152 RX6 "length" "I" ∈ gw := gwm (i := 1033) (by decide +kernel) (by decide +kernel)
theorem ml_X6_155 : Cond.methodLink RX6 155 yX6_at ∈ gw := gwm (i := 1277) (by decide +kernel) (by decide +kernel)
theorem kc_X6_at : Cond.code yX6_at cX6_at 2 (some .int) ∈ gw := gwm (i := 1280) (by decide +kernel) (by decide +kernel)
theorem ii_X6_at : Cond.instanceMethod yX6_at ∈ gw := gwm (i := 1279) (by decide +kernel) (by decide +kernel)
theorem is_X6_at : Cond.selects RX6 yX6_at yX6_at ∈ gw := gwm (i := 61) (by decide +kernel) (by decide +kernel)
theorem fl_X6_158 : Cond.fieldLink RX6 158 RX6 "to" "I" ∈ gw := gwm (i := 1035) (by decide +kernel) (by decide +kernel)
theorem ml_X6_161 : Cond.methodLink RX6 161 yX6_takeBlock ∈ gw := gwm (i := 1273) (by decide +kernel) (by decide +kernel)
theorem kc_X6_takeBlock : Cond.code yX6_takeBlock cX6_takeBlock 5 (some .int) ∈ gw := gwm (i := 1276) (by decide +kernel) (by decide +kernel)
theorem ii_X6_takeBlock : Cond.instanceMethod yX6_takeBlock ∈ gw := gwm (i := 1275) (by decide +kernel) (by decide +kernel)
theorem is_X6_takeBlock : Cond.selects RX6 yX6_takeBlock yX6_takeBlock ∈ gw := gwm (i := 60) (by decide +kernel) (by decide +kernel)
theorem fl_X6_164 : Cond.fieldLink RX6 164 RX6 "from" "I" ∈ gw := gwm (i := 1034) (by decide +kernel) (by decide +kernel)
theorem ml_X6_167 : Cond.methodLink RX6 167 yX6_takePart ∈ gw := gwm (i := 1269) (by decide +kernel) (by decide +kernel)
theorem kc_X6_takePart : Cond.code yX6_takePart cX6_takePart 3 (some .int) ∈ gw := gwm (i := 1272) (by decide +kernel) (by decide +kernel)
theorem ii_X6_takePart : Cond.instanceMethod yX6_takePart ∈ gw := gwm (i := 1271) (by decide +kernel) (by decide +kernel)
theorem is_X6_takePart : Cond.selects RX6 yX6_takePart yX6_takePart ∈ gw := gwm (i := 59) (by decide +kernel) (by decide +kernel)
theorem ml_X6_170 : Cond.methodLink RX6 170 yX6_findError ∈ gw := gwm (i := 1265) (by decide +kernel) (by decide +kernel)
theorem kc_X6_findError : Cond.code yX6_findError cX6_findError 2 (some .int) ∈ gw := gwm (i := 1268) (by decide +kernel) (by decide +kernel)
theorem ii_X6_findError : Cond.instanceMethod yX6_findError ∈ gw := gwm (i := 1267) (by decide +kernel) (by decide +kernel)
theorem is_X6_findError : Cond.selects RX6 yX6_findError yX6_findError ∈ gw := gwm (i := 58) (by decide +kernel) (by decide +kernel)
theorem ml_X6_173 : Cond.methodLink RX6 173 yX6_areRising ∈ gw := gwm (i := 1285) (by decide +kernel) (by decide +kernel)
theorem kc_X6_areRising : Cond.code yX6_areRising cX6_areRising 3 (some .boolean) ∈ gw := gwm (i := 1288) (by decide +kernel) (by decide +kernel)
theorem ii_X6_areRising : Cond.instanceMethod yX6_areRising ∈ gw := gwm (i := 1287) (by decide +kernel) (by decide +kernel)
theorem is_X6_areRising : Cond.selects RX6 yX6_areRising yX6_areRising ∈ gw := gwm (i := 62) (by decide +kernel) (by decide +kernel)
theorem ml_X6_177 : Cond.methodLink RX6 177 yX6_canRead ∈ gw := gwm (i := 1289) (by decide +kernel) (by decide +kernel)
theorem kc_X6_canRead : Cond.code yX6_canRead cX6_canRead 2 (some .boolean) ∈ gw := gwm (i := 1292) (by decide +kernel) (by decide +kernel)
theorem ii_X6_canRead : Cond.instanceMethod yX6_canRead ∈ gw := gwm (i := 1291) (by decide +kernel) (by decide +kernel)
theorem is_X6_canRead : Cond.selects RX6 yX6_canRead yX6_canRead ∈ gw := gwm (i := 63) (by decide +kernel) (by decide +kernel)
theorem ml_X6_180 : Cond.methodLink RX6 180 yX6_readPair ∈ gw := gwm (i := 1293) (by decide +kernel) (by decide +kernel)
theorem kc_X6_readPair : Cond.code yX6_readPair cX6_readPair 3 (some .int) ∈ gw := gwm (i := 1296) (by decide +kernel) (by decide +kernel)
theorem ii_X6_readPair : Cond.instanceMethod yX6_readPair ∈ gw := gwm (i := 1295) (by decide +kernel) (by decide +kernel)
theorem is_X6_readPair : Cond.selects RX6 yX6_readPair yX6_readPair ∈ gw := gwm (i := 64) (by decide +kernel) (by decide +kernel)
theorem ml_X6_183 : Cond.methodLink RX6 183 yX6_slotNow ∈ gw := gwm (i := 1301) (by decide +kernel) (by decide +kernel)
theorem kc_X6_slotNow : Cond.code yX6_slotNow cX6_slotNow 3 (some .int) ∈ gw := gwm (i := 1304) (by decide +kernel) (by decide +kernel)
theorem ii_X6_slotNow : Cond.instanceMethod yX6_slotNow ∈ gw := gwm (i := 1303) (by decide +kernel) (by decide +kernel)
theorem is_X6_slotNow : Cond.selects RX6 yX6_slotNow yX6_slotNow ∈ gw := gwm (i := 65) (by decide +kernel) (by decide +kernel)
theorem ml_X6_186 : Cond.methodLink RX6 186 yX6_whereNow ∈ gw := gwm (i := 1309) (by decide +kernel) (by decide +kernel)
theorem kc_X6_whereNow : Cond.code yX6_whereNow cX6_whereNow 4 (some .int) ∈ gw := gwm (i := 1312) (by decide +kernel) (by decide +kernel)
theorem ii_X6_whereNow : Cond.instanceMethod yX6_whereNow ∈ gw := gwm (i := 1311) (by decide +kernel) (by decide +kernel)
theorem is_X6_whereNow : Cond.selects RX6 yX6_whereNow yX6_whereNow ∈ gw := gwm (i := 66) (by decide +kernel) (by decide +kernel)
theorem ml_X6_189 : Cond.methodLink RX6 189 yX6_lost ∈ gw := gwm (i := 1325) (by decide +kernel) (by decide +kernel)
theorem kc_X6_lost : Cond.code yX6_lost cX6_lost 3 (some .int) ∈ gw := gwm (i := 1328) (by decide +kernel) (by decide +kernel)
theorem ii_X6_lost : Cond.instanceMethod yX6_lost ∈ gw := gwm (i := 1327) (by decide +kernel) (by decide +kernel)
theorem is_X6_lost : Cond.selects RX6 yX6_lost yX6_lost ∈ gw := gwm (i := 68) (by decide +kernel) (by decide +kernel)
theorem ml_X6_192 : Cond.methodLink RX6 192 yX6_values ∈ gw := gwm (i := 1329) (by decide +kernel) (by decide +kernel)
theorem kc_X6_values : Cond.code yX6_values cX6_values 3 (some .int) ∈ gw := gwm (i := 1332) (by decide +kernel) (by decide +kernel)
theorem ii_X6_values : Cond.instanceMethod yX6_values ∈ gw := gwm (i := 1331) (by decide +kernel) (by decide +kernel)
theorem is_X6_values : Cond.selects RX6 yX6_values yX6_values ∈ gw := gwm (i := 69) (by decide +kernel) (by decide +kernel)
theorem ml_X6_195 : Cond.methodLink RX6 195 yX6_countNow ∈ gw := gwm (i := 1321) (by decide +kernel) (by decide +kernel)
theorem kc_X6_countNow : Cond.code yX6_countNow cX6_countNow 2 (some .int) ∈ gw := gwm (i := 1324) (by decide +kernel) (by decide +kernel)
theorem ii_X6_countNow : Cond.instanceMethod yX6_countNow ∈ gw := gwm (i := 1323) (by decide +kernel) (by decide +kernel)
theorem is_X6_countNow : Cond.selects RX6 yX6_countNow yX6_countNow ∈ gw := gwm (i := 67) (by decide +kernel) (by decide +kernel)
theorem ml_X6_198 : Cond.methodLink RX6 198 yX6_putAside ∈ gw := gwm (i := 1349) (by decide +kernel) (by decide +kernel)
theorem kc_X6_putAside : Cond.code yX6_putAside cX6_putAside 2 none ∈ gw := gwm (i := 1352) (by decide +kernel) (by decide +kernel)
theorem ii_X6_putAside : Cond.instanceMethod yX6_putAside ∈ gw := gwm (i := 1351) (by decide +kernel) (by decide +kernel)
theorem is_X6_putAside : Cond.selects RX6 yX6_putAside yX6_putAside ∈ gw := gwm (i := 71) (by decide +kernel) (by decide +kernel)
theorem ml_X6_201 : Cond.methodLink RX6 201 yX6_putBack ∈ gw := gwm (i := 1353) (by decide +kernel) (by decide +kernel)
theorem kc_X6_putBack : Cond.code yX6_putBack cX6_putBack 2 none ∈ gw := gwm (i := 1356) (by decide +kernel) (by decide +kernel)
theorem ii_X6_putBack : Cond.instanceMethod yX6_putBack ∈ gw := gwm (i := 1355) (by decide +kernel) (by decide +kernel)
theorem is_X6_putBack : Cond.selects RX6 yX6_putBack yX6_putBack ∈ gw := gwm (i := 72) (by decide +kernel) (by decide +kernel)
theorem ml_X6_204 : Cond.methodLink RX6 204 yX6_swept ∈ gw := gwm (i := 1345) (by decide +kernel) (by decide +kernel)
theorem kc_X6_swept : Cond.code yX6_swept cX6_swept 5 (some .int) ∈ gw := gwm (i := 1348) (by decide +kernel) (by decide +kernel)
theorem ii_X6_swept : Cond.instanceMethod yX6_swept ∈ gw := gwm (i := 1347) (by decide +kernel) (by decide +kernel)
theorem is_X6_swept : Cond.selects RX6 yX6_swept yX6_swept ∈ gw := gwm (i := 70) (by decide +kernel) (by decide +kernel)
theorem ml_X6_207 : Cond.methodLink RX6 207 yX6_started ∈ gw := gwm (i := 1361) (by decide +kernel) (by decide +kernel)
theorem kc_X6_started : Cond.code yX6_started cX6_started 4 (some .int) ∈ gw := gwm (i := 1364) (by decide +kernel) (by decide +kernel)
theorem ii_X6_started : Cond.instanceMethod yX6_started ∈ gw := gwm (i := 1363) (by decide +kernel) (by decide +kernel)
theorem is_X6_started : Cond.selects RX6 yX6_started yX6_started ∈ gw := gwm (i := 73) (by decide +kernel) (by decide +kernel)
theorem ml_X6_210 : Cond.methodLink RX6 210 yX6_goodWide ∈ gw := gwm (i := 1373) (by decide +kernel) (by decide +kernel)
theorem kc_X6_goodWide : Cond.code yX6_goodWide cX6_goodWide 1 (some .int) ∈ gw := gwm (i := 1376) (by decide +kernel) (by decide +kernel)
theorem ii_X6_goodWide : Cond.instanceMethod yX6_goodWide ∈ gw := gwm (i := 1375) (by decide +kernel) (by decide +kernel)
theorem is_X6_goodWide : Cond.selects RX6 yX6_goodWide yX6_goodWide ∈ gw := gwm (i := 75) (by decide +kernel) (by decide +kernel)
theorem ml_X6_213 : Cond.methodLink RX6 213 yX6_exchange ∈ gw := gwm (i := 1377) (by decide +kernel) (by decide +kernel)
theorem kc_X6_exchange : Cond.code yX6_exchange cX6_exchange 5 none ∈ gw := gwm (i := 1380) (by decide +kernel) (by decide +kernel)
theorem ii_X6_exchange : Cond.instanceMethod yX6_exchange ∈ gw := gwm (i := 1379) (by decide +kernel) (by decide +kernel)
theorem is_X6_exchange : Cond.selects RX6 yX6_exchange yX6_exchange ∈ gw := gwm (i := 76) (by decide +kernel) (by decide +kernel)
theorem ml_X6_217 : Cond.methodLink RX6 217 yX6_findChange ∈ gw := gwm (i := 1369) (by decide +kernel) (by decide +kernel)
theorem kc_X6_findChange : Cond.code yX6_findChange cX6_findChange 6 (some .int) ∈ gw := gwm (i := 1372) (by decide +kernel) (by decide +kernel)
theorem ii_X6_findChange : Cond.instanceMethod yX6_findChange ∈ gw := gwm (i := 1371) (by decide +kernel) (by decide +kernel)
theorem is_X6_findChange : Cond.selects RX6 yX6_findChange yX6_findChange ∈ gw := gwm (i := 74) (by decide +kernel) (by decide +kernel)
theorem ml_X6_220 : Cond.methodLink RX6 220 yX6_share ∈ gw := gwm (i := 1385) (by decide +kernel) (by decide +kernel)
theorem kc_X6_share : Cond.code yX6_share cX6_share 1 (some .double) ∈ gw := gwm (i := 1388) (by decide +kernel) (by decide +kernel)
theorem ii_X6_share : Cond.instanceMethod yX6_share ∈ gw := gwm (i := 1387) (by decide +kernel) (by decide +kernel)
theorem is_X6_share : Cond.selects RX6 yX6_share yX6_share ∈ gw := gwm (i := 77) (by decide +kernel) (by decide +kernel)
theorem ml_X6_224 : Cond.methodLink RX6 224 yX6_mean ∈ gw := gwm (i := 1393) (by decide +kernel) (by decide +kernel)
theorem kc_X6_mean : Cond.code yX6_mean cX6_mean 1 (some .float) ∈ gw := gwm (i := 1396) (by decide +kernel) (by decide +kernel)
theorem ii_X6_mean : Cond.instanceMethod yX6_mean ∈ gw := gwm (i := 1395) (by decide +kernel) (by decide +kernel)
theorem is_X6_mean : Cond.selects RX6 yX6_mean yX6_mean ∈ gw := gwm (i := 78) (by decide +kernel) (by decide +kernel)
theorem ml_Jd_122 : Cond.methodLink RJxe99ae 122 yJxe99ae_isNaN_b9ae7 ∈ gw := gwm (i := 1406) (by decide +kernel) (by decide +kernel)
theorem kc_Jxe99ae_isNaN_b9ae7 : Cond.code yJxe99ae_isNaN_b9ae7 cJxe99ae_isNaN_b9ae7 2 (some .boolean) ∈ gw := gwm (i := 1408) (by decide +kernel) (by decide +kernel)
theorem ki_java_lang_Double : Cond.initialized RJxe99ae ∈ gw := gwm (i := 97) (by decide +kernel) (by decide +kernel)
theorem st_Jxe99ae_isNaN_b9ae7 : Cond.static yJxe99ae_isNaN_b9ae7 ∈ gw := gwm (i := 1407) (by decide +kernel) (by decide +kernel)
theorem ml_Jd_134 : Cond.methodLink RJxe99ae 134 ⟨"java/lang/Double", "doubleToRawLongBits", "(D)J"⟩ ∈ gw := gwm (i := 1409) (by decide +kernel) (by decide +kernel)
theorem lc_Jd_137 : Cond.constantLong RJxe99ae 137 9221120237041090560 ∈ gw := gwm (i := 1412) (by decide +kernel) (by decide +kernel)
theorem ml_Jf_59 : Cond.methodLink RJxf58ca 59 yJxf58ca_isNaN_12338 ∈ gw := gwm (i := 1416) (by decide +kernel) (by decide +kernel)
theorem kc_Jxf58ca_isNaN_12338 : Cond.code yJxf58ca_isNaN_12338 cJxf58ca_isNaN_12338 1 (some .boolean) ∈ gw := gwm (i := 1418) (by decide +kernel) (by decide +kernel)
theorem ki_java_lang_Float : Cond.initialized RJxf58ca ∈ gw := gwm (i := 98) (by decide +kernel) (by decide +kernel)
theorem st_Jxf58ca_isNaN_12338 : Cond.static yJxf58ca_isNaN_12338 ∈ gw := gwm (i := 1417) (by decide +kernel) (by decide +kernel)
theorem ml_Jf_74 : Cond.methodLink RJxf58ca 74 ⟨"java/lang/Float", "floatToRawIntBits", "(F)I"⟩ ∈ gw := gwm (i := 1419) (by decide +kernel) (by decide +kernel)
theorem lc_Jf_77 : Cond.constant RJxf58ca 77 2143289344 ∈ gw := gwm (i := 1422) (by decide +kernel) (by decide +kernel)
theorem lc_X6_228 : Cond.constantLong RX6 228 3691 ∈ gw := gwm (i := 1401) (by decide +kernel) (by decide +kernel)
theorem lc_X6_230 : Cond.constantLong RX6 230 31 ∈ gw := gwm (i := 1402) (by decide +kernel) (by decide +kernel)
theorem ml_X6_232 : Cond.methodLink RX6 232 yJxe99ae_doubleToLongBits_ccdee ∈ gw := gwm (i := 1403) (by decide +kernel) (by decide +kernel)
theorem kc_Jxe99ae_doubleToLongBits_ccdee : Cond.code yJxe99ae_doubleToLongBits_ccdee cJxe99ae_doubleToLongBits_ccdee 2 (some .long) ∈ gw := gwm (i := 1405) (by decide +kernel) (by decide +kernel)
theorem st_Jxe99ae_doubleToLongBits_ccdee : Cond.static yJxe99ae_doubleToLongBits_ccdee ∈ gw := gwm (i := 1404) (by decide +kernel) (by decide +kernel)
theorem ml_X6_238 : Cond.methodLink RX6 238 yJxf58ca_floatToIntBits_5c35a ∈ gw := gwm (i := 1413) (by decide +kernel) (by decide +kernel)
theorem kc_Jxf58ca_floatToIntBits_5c35a : Cond.code yJxf58ca_floatToIntBits_5c35a cJxf58ca_floatToIntBits_5c35a 1 (some .int) ∈ gw := gwm (i := 1415) (by decide +kernel) (by decide +kernel)
theorem st_Jxf58ca_floatToIntBits_5c35a : Cond.static yJxf58ca_floatToIntBits_5c35a ∈ gw := gwm (i := 1414) (by decide +kernel) (by decide +kernel)
theorem k_X5_entry : KY yX5_entry cX5_entry 2 (some .int) 2 := ⟨kc_X5_entry, ki_StickPairs, by decide, by decide +kernel⟩
theorem k_X3_copyFrom : KY yX3_copyFrom cX3_copyFrom 3 none 1 := ⟨kc_X3_copyFrom, ki_StickPairs_Sticks, by decide, by decide +kernel⟩
theorem k_X1_copyFrom : KY yX1_copyFrom cX1_copyFrom 2 none 1 := ⟨kc_X1_copyFrom, ki_StickPairs_Layout, by decide, by decide +kernel⟩
theorem k_X0_copyFrom : KY yX0_copyFrom cX0_copyFrom 2 none 1 := ⟨kc_X0_copyFrom, ki_StickPairs_Clock, by decide, by decide +kernel⟩
theorem k_X5_moveOldestToEnd : KY yX5_moveOldestToEnd cX5_moveOldestToEnd 3 none 0 := ⟨kc_X5_moveOldestToEnd, ki_StickPairs, by decide, by decide +kernel⟩
theorem k_X2_copyFrom : KY yX2_copyFrom cX2_copyFrom 2 none 1 := ⟨kc_X2_copyFrom, ki_StickPairs_State, by decide, by decide +kernel⟩
theorem k_X5_isSlot : KY yX5_isSlot cX5_isSlot 1 (some .boolean) 1 := ⟨kc_X5_isSlot, ki_StickPairs, by decide, by decide +kernel⟩
theorem k_X3_isPlugged : KY yX3_isPlugged cX3_isPlugged 2 (some .boolean) 1 := ⟨kc_X3_isPlugged, ki_StickPairs_Sticks, by decide, by decide +kernel⟩
theorem k_X1_isMirrored : KY yX1_isMirrored cX1_isMirrored 1 (some .boolean) 0 := ⟨kc_X1_isMirrored, ki_StickPairs_Layout, by decide, by decide +kernel⟩
theorem k_X1_blockAt : KY yX1_blockAt cX1_blockAt 5 (some .int) 2 := ⟨kc_X1_blockAt, ki_StickPairs_Layout, by decide, by decide +kernel⟩
theorem k_X3_isLeft : KY yX3_isLeft cX3_isLeft 2 (some .boolean) 1 := ⟨kc_X3_isLeft, ki_StickPairs_Sticks, by decide, by decide +kernel⟩
theorem k_X1_usedIn : KY yX1_usedIn cX1_usedIn 4 (some .int) 1 := ⟨kc_X1_usedIn, ki_StickPairs_Layout, by decide, by decide +kernel⟩
theorem k_X3_put : KY yX3_put cX3_put 5 none 4 := ⟨kc_X3_put, ki_StickPairs_Sticks, by decide, by decide +kernel⟩
theorem k_X3_isGood : KY yX3_isGood cX3_isGood 2 (some .boolean) 1 := ⟨kc_X3_isGood, ki_StickPairs_Sticks, by decide, by decide +kernel⟩
theorem k_X3_goodSizeIn : KY yX3_goodSizeIn cX3_goodSizeIn 2 (some .int) 1 := ⟨kc_X3_goodSizeIn, ki_StickPairs_Sticks, by decide, by decide +kernel⟩
theorem k_J9_min_7cf53 : KY yJ9_min_7cf53 cJ9_min_7cf53 2 (some .int) 2 := ⟨kc_J9_min_7cf53, ki_java_lang_Math, by decide, by decide +kernel⟩
theorem k_X1_lay : KY yX1_lay cX1_lay 4 none 2 := ⟨kc_X1_lay, ki_StickPairs_Layout, by decide, by decide +kernel⟩
theorem k_X3_mapGoodOnes : KY yX3_mapGoodOnes cX3_mapGoodOnes 2 none 0 := ⟨kc_X3_mapGoodOnes, ki_StickPairs_Sticks, by decide, by decide +kernel⟩
theorem k_X0_freeAllNow : KY yX0_freeAllNow cX0_freeAllNow 1 none 0 := ⟨kc_X0_freeAllNow, ki_StickPairs_Clock, by decide, by decide +kernel⟩
theorem k_X3_hindrance : KY yX3_hindrance cX3_hindrance 4 (some .int) 1 := ⟨kc_X3_hindrance, ki_StickPairs_Sticks, by decide, by decide +kernel⟩
theorem k_X5_saveState : KY yX5_saveState cX5_saveState 2 none 0 := ⟨kc_X5_saveState, ki_StickPairs, by decide, by decide +kernel⟩
theorem k_X2_begin : KY yX2_begin cX2_begin 1 none 0 := ⟨kc_X2_begin, ki_StickPairs_State, by decide, by decide +kernel⟩
theorem k_X1_clear : KY yX1_clear cX1_clear 1 none 0 := ⟨kc_X1_clear, ki_StickPairs_Layout, by decide, by decide +kernel⟩
theorem k_X3_unmapAll : KY yX3_unmapAll cX3_unmapAll 2 none 0 := ⟨kc_X3_unmapAll, ki_StickPairs_Sticks, by decide, by decide +kernel⟩
theorem k_X1_isLaid : KY yX1_isLaid cX1_isLaid 1 (some .boolean) 0 := ⟨kc_X1_isLaid, ki_StickPairs_Layout, by decide, by decide +kernel⟩
theorem k_X1_channelOf : KY yX1_channelOf cX1_channelOf 2 (some .int) 1 := ⟨kc_X1_channelOf, ki_StickPairs_Layout, by decide, by decide +kernel⟩
theorem k_X1_indexOf : KY yX1_indexOf cX1_indexOf 2 (some .int) 1 := ⟨kc_X1_indexOf, ki_StickPairs_Layout, by decide, by decide +kernel⟩
theorem k_X1_slotAt : KY yX1_slotAt cX1_slotAt 3 (some .int) 2 := ⟨kc_X1_slotAt, ki_StickPairs_Layout, by decide, by decide +kernel⟩
theorem k_X1_slotOf : KY yX1_slotOf cX1_slotOf 2 (some .int) 1 := ⟨kc_X1_slotOf, ki_StickPairs_Layout, by decide, by decide +kernel⟩
theorem k_X1_slotAgainOf : KY yX1_slotAgainOf cX1_slotAgainOf 2 (some .int) 1 := ⟨kc_X1_slotAgainOf, ki_StickPairs_Layout, by decide, by decide +kernel⟩
theorem k_X2_hasBlock : KY yX2_hasBlock cX2_hasBlock 2 (some .boolean) 1 := ⟨kc_X2_hasBlock, ki_StickPairs_State, by decide, by decide +kernel⟩
theorem k_X2_readSlotOf : KY yX2_readSlotOf cX2_readSlotOf 4 (some .int) 1 := ⟨kc_X2_readSlotOf, ki_StickPairs_State, by decide, by decide +kernel⟩
theorem k_X2_heldBy : KY yX2_heldBy cX2_heldBy 2 (some .int) 1 := ⟨kc_X2_heldBy, ki_StickPairs_State, by decide, by decide +kernel⟩
theorem k_X1_numberAt : KY yX1_numberAt cX1_numberAt 4 (some .int) 2 := ⟨kc_X1_numberAt, ki_StickPairs_Layout, by decide, by decide +kernel⟩
theorem k_X3_rankOf : KY yX3_rankOf cX3_rankOf 3 (some .int) 2 := ⟨kc_X3_rankOf, ki_StickPairs_Sticks, by decide, by decide +kernel⟩
theorem k_X1_numberOf : KY yX1_numberOf cX1_numberOf 2 (some .int) 1 := ⟨kc_X1_numberOf, ki_StickPairs_Layout, by decide, by decide +kernel⟩
theorem k_X3_rankRow : KY yX3_rankRow cX3_rankRow 3 (some .int) 2 := ⟨kc_X3_rankRow, ki_StickPairs_Sticks, by decide, by decide +kernel⟩
theorem k_X1_numberAgainOf : KY yX1_numberAgainOf cX1_numberAgainOf 2 (some .int) 1 := ⟨kc_X1_numberAgainOf, ki_StickPairs_Layout, by decide, by decide +kernel⟩
theorem k_X0_waitFor : KY yX0_waitFor cX0_waitFor 3 none 1 := ⟨kc_X0_waitFor, ki_StickPairs_Clock, by decide, by decide +kernel⟩
theorem k_X0_occupy : KY yX0_occupy cX0_occupy 3 none 2 := ⟨kc_X0_occupy, ki_StickPairs_Clock, by decide, by decide +kernel⟩
theorem k_X0_pass : KY yX0_pass cX0_pass 2 none 1 := ⟨kc_X0_pass, ki_StickPairs_Clock, by decide, by decide +kernel⟩
theorem k_X2_readRankOf : KY yX2_readRankOf cX2_readRankOf 5 (some .int) 1 := ⟨kc_X2_readRankOf, ki_StickPairs_State, by decide, by decide +kernel⟩
theorem k_X3_delayIn : KY yX3_delayIn cX3_delayIn 2 (some .int) 1 := ⟨kc_X3_delayIn, ki_StickPairs_Sticks, by decide, by decide +kernel⟩
theorem k_X0_readSingle : KY yX0_readSingle cX0_readSingle 3 none 2 := ⟨kc_X0_readSingle, ki_StickPairs_Clock, by decide, by decide +kernel⟩
theorem k_X3_tellRead : KY yX3_tellRead cX3_tellRead 2 none 1 := ⟨kc_X3_tellRead, ki_StickPairs_Sticks, by decide, by decide +kernel⟩
theorem k_X5_isWithin : KY yX5_isWithin cX5_isWithin 3 (some .boolean) 3 := ⟨kc_X5_isWithin, ki_StickPairs, by decide, by decide +kernel⟩
theorem k_X2_settingOf : KY yX2_settingOf cX2_settingOf 2 (some .int) 1 := ⟨kc_X2_settingOf, ki_StickPairs_State, by decide, by decide +kernel⟩
theorem k_X4_empty : KY yX4_empty cX4_empty 1 none 0 := ⟨kc_X4_empty, ki_StickPairs_Text, by decide, by decide +kernel⟩
theorem k_X4_acceptsDigit : KY yX4_acceptsDigit cX4_acceptsDigit 3 (some .boolean) 1 := ⟨kc_X4_acceptsDigit, ki_StickPairs_Text, by decide, by decide +kernel⟩
theorem k_X4_accepts : KY yX4_accepts cX4_accepts 2 (some .boolean) 1 := ⟨kc_X4_accepts, ki_StickPairs_Text, by decide, by decide +kernel⟩
theorem k_X4_scan : KY yX4_scan cX4_scan 2 (some .int) 0 := ⟨kc_X4_scan, ki_StickPairs_Text, by decide, by decide +kernel⟩
theorem k_X4_lastOf : KY yX4_lastOf cX4_lastOf 2 (some .int) 1 := ⟨kc_X4_lastOf, ki_StickPairs_Text, by decide, by decide +kernel⟩
theorem k_X4_firstOf : KY yX4_firstOf cX4_firstOf 2 (some .int) 1 := ⟨kc_X4_firstOf, ki_StickPairs_Text, by decide, by decide +kernel⟩
theorem k_X1_isWide : KY yX1_isWide cX1_isWide 2 (some .boolean) 1 := ⟨kc_X1_isWide, ki_StickPairs_Layout, by decide, by decide +kernel⟩
theorem k_X1_beginsPair : KY yX1_beginsPair cX1_beginsPair 2 (some .boolean) 1 := ⟨kc_X1_beginsPair, ki_StickPairs_Layout, by decide, by decide +kernel⟩
theorem k_X2_canRead : KY yX2_canRead cX2_canRead 2 (some .boolean) 1 := ⟨kc_X2_canRead, ki_StickPairs_State, by decide, by decide +kernel⟩
theorem k_X0_readPair : KY yX0_readPair cX0_readPair 5 none 4 := ⟨kc_X0_readPair, ki_StickPairs_Clock, by decide, by decide +kernel⟩
theorem k_X2_readsPair : KY yX2_readsPair cX2_readsPair 3 (some .boolean) 2 := ⟨kc_X2_readsPair, ki_StickPairs_State, by decide, by decide +kernel⟩
theorem k_X2_readOne : KY yX2_readOne cX2_readOne 3 (some .int) 1 := ⟨kc_X2_readOne, ki_StickPairs_State, by decide, by decide +kernel⟩
theorem k_X2_readTwo : KY yX2_readTwo cX2_readTwo 4 (some .int) 1 := ⟨kc_X2_readTwo, ki_StickPairs_State, by decide, by decide +kernel⟩
theorem k_X4_tellsReadings : KY yX4_tellsReadings cX4_tellsReadings 2 (some .boolean) 0 := ⟨kc_X4_tellsReadings, ki_StickPairs_Text, by decide, by decide +kernel⟩
theorem k_X3_sizeIn : KY yX3_sizeIn cX3_sizeIn 2 (some .int) 1 := ⟨kc_X3_sizeIn, ki_StickPairs_Sticks, by decide, by decide +kernel⟩
theorem k_X3_ranksIn : KY yX3_ranksIn cX3_ranksIn 2 (some .int) 1 := ⟨kc_X3_ranksIn, ki_StickPairs_Sticks, by decide, by decide +kernel⟩
theorem k_X3_hasFailed : KY yX3_hasFailed cX3_hasFailed 2 (some .boolean) 1 := ⟨kc_X3_hasFailed, ki_StickPairs_Sticks, by decide, by decide +kernel⟩
theorem k_X3_isMapped : KY yX3_isMapped cX3_isMapped 2 (some .boolean) 1 := ⟨kc_X3_isMapped, ki_StickPairs_Sticks, by decide, by decide +kernel⟩
theorem k_X0_freeFrom : KY yX0_freeFrom cX0_freeFrom 3 (some .int) 2 := ⟨kc_X0_freeFrom, ki_StickPairs_Clock, by decide, by decide +kernel⟩
theorem k_X3_readsIn : KY yX3_readsIn cX3_readsIn 2 (some .int) 1 := ⟨kc_X3_readsIn, ki_StickPairs_Sticks, by decide, by decide +kernel⟩
theorem k_X2_rankOrNone : KY yX2_rankOrNone cX2_rankOrNone 3 (some .int) 2 := ⟨kc_X2_rankOrNone, ki_StickPairs_State, by decide, by decide +kernel⟩
theorem k_X3_pluggedOnes : KY yX3_pluggedOnes cX3_pluggedOnes 3 (some .int) 0 := ⟨kc_X3_pluggedOnes, ki_StickPairs_Sticks, by decide, by decide +kernel⟩
theorem k_X3_failedOnes : KY yX3_failedOnes cX3_failedOnes 3 (some .int) 0 := ⟨kc_X3_failedOnes, ki_StickPairs_Sticks, by decide, by decide +kernel⟩
theorem k_X2_lostBlocks : KY yX2_lostBlocks cX2_lostBlocks 3 (some .int) 0 := ⟨kc_X2_lostBlocks, ki_StickPairs_State, by decide, by decide +kernel⟩
theorem k_X2_sumOfValues : KY yX2_sumOfValues cX2_sumOfValues 3 (some .int) 0 := ⟨kc_X2_sumOfValues, ki_StickPairs_State, by decide, by decide +kernel⟩
theorem k_X0_reset : KY yX0_reset cX0_reset 1 none 0 := ⟨kc_X0_reset, ki_StickPairs_Clock, by decide, by decide +kernel⟩
theorem k_X5_trialRank : KY yX5_trialRank cX5_trialRank 2 (some .int) 1 := ⟨kc_X5_trialRank, ki_StickPairs, by decide, by decide +kernel⟩
theorem k_X5_trialDelay : KY yX5_trialDelay cX5_trialDelay 2 (some .int) 1 := ⟨kc_X5_trialDelay, ki_StickPairs, by decide, by decide +kernel⟩
theorem k_X3_wideIfChanged : KY yX3_wideIfChanged cX3_wideIfChanged 7 (some .int) 2 := ⟨kc_X3_wideIfChanged, ki_StickPairs_Sticks, by decide, by decide +kernel⟩
theorem k_X2_slotNumber : KY yX2_slotNumber cX2_slotNumber 3 (some .int) 2 := ⟨kc_X2_slotNumber, ki_StickPairs_State, by decide, by decide +kernel⟩
theorem k_X2_blockNumber : KY yX2_blockNumber cX2_blockNumber 3 (some .int) 2 := ⟨kc_X2_blockNumber, ki_StickPairs_State, by decide, by decide +kernel⟩
theorem k_X5_why : KY yX5_why cX5_why 1 (some .int) 0 := ⟨kc_X5_why, ki_StickPairs, by decide, by decide +kernel⟩
theorem k_X5_sweepTicks : KY yX5_sweepTicks cX5_sweepTicks 6 (some .int) 1 := ⟨kc_X5_sweepTicks, ki_StickPairs, by decide, by decide +kernel⟩
theorem k_X5_blocksIfStarted : KY yX5_blocksIfStarted cX5_blocksIfStarted 3 (some .int) 2 := ⟨kc_X5_blocksIfStarted, ki_StickPairs, by decide, by decide +kernel⟩
theorem k_X5_bestChange : KY yX5_bestChange cX5_bestChange 6 (some .int) 0 := ⟨kc_X5_bestChange, ki_StickPairs, by decide, by decide +kernel⟩
theorem k_X5_bits : KY yX5_bits cX5_bits 9 (some .long) 4 := ⟨kc_X5_bits, ki_StickPairs, by decide, by decide +kernel⟩
theorem k_X5_countOf : KY yX5_countOf cX5_countOf 2 (some .int) 1 := ⟨kc_X5_countOf, ki_StickPairs, by decide, by decide +kernel⟩
theorem k_X5_foldSlots : KY yX5_foldSlots cX5_foldSlots 7 (some .long) 1 := ⟨kc_X5_foldSlots, ki_StickPairs, by decide, by decide +kernel⟩
theorem k_X5_foldBlocks : KY yX5_foldBlocks cX5_foldBlocks 7 (some .long) 1 := ⟨kc_X5_foldBlocks, ki_StickPairs, by decide, by decide +kernel⟩
theorem k_X5_foldTrials : KY yX5_foldTrials cX5_foldTrials 6 (some .long) 1 := ⟨kc_X5_foldTrials, ki_StickPairs, by decide, by decide +kernel⟩
theorem k_X5_wideShare : KY yX5_wideShare cX5_wideShare 2 (some .double) 0 := ⟨kc_X5_wideShare, ki_StickPairs, by decide, by decide +kernel⟩
theorem k_X5_doubleBits : KY yX5_doubleBits cX5_doubleBits 2 (some .long) 1 := ⟨kc_X5_doubleBits, ki_StickPairs, by decide, by decide +kernel⟩
theorem k_X5_meanTicks : KY yX5_meanTicks cX5_meanTicks 2 (some .float) 0 := ⟨kc_X5_meanTicks, ki_StickPairs, by decide, by decide +kernel⟩
theorem k_X5_floatBits : KY yX5_floatBits cX5_floatBits 1 (some .long) 1 := ⟨kc_X5_floatBits, ki_StickPairs, by decide, by decide +kernel⟩
theorem k_X4_fold : KY yX4_fold cX4_fold 6 (some .long) 1 := ⟨kc_X4_fold, ki_StickPairs_Text, by decide, by decide +kernel⟩
theorem k_X6_in : KY yX6_in cX6_in 3 (some .boolean) 3 := ⟨kc_X6_in, ki_StickPairsModel, by decide, by decide +kernel⟩
theorem k_X6_of : KY yX6_of cX6_of 3 (some .int) 2 := ⟨kc_X6_of, ki_StickPairsModel, by decide, by decide +kernel⟩
theorem k_X6_record : KY yX6_record cX6_record 2 none 0 := ⟨kc_X6_record, ki_StickPairsModel, by decide, by decide +kernel⟩
theorem k_X6_room : KY yX6_room cX6_room 2 (some .int) 1 := ⟨kc_X6_room, ki_StickPairsModel, by decide, by decide +kernel⟩
theorem k_X6_lesserRoom : KY yX6_lesserRoom cX6_lesserRoom 1 (some .int) 0 := ⟨kc_X6_lesserRoom, ki_StickPairsModel, by decide, by decide +kernel⟩
theorem k_X6_blocks : KY yX6_blocks cX6_blocks 1 (some .int) 0 := ⟨kc_X6_blocks, ki_StickPairsModel, by decide, by decide +kernel⟩
theorem k_X6_wideBlocks : KY yX6_wideBlocks cX6_wideBlocks 1 (some .int) 0 := ⟨kc_X6_wideBlocks, ki_StickPairsModel, by decide, by decide +kernel⟩
theorem k_X6_channelOf : KY yX6_channelOf cX6_channelOf 2 (some .int) 1 := ⟨kc_X6_channelOf, ki_StickPairsModel, by decide, by decide +kernel⟩
theorem k_X6_inChannel : KY yX6_inChannel cX6_inChannel 2 (some .int) 1 := ⟨kc_X6_inChannel, ki_StickPairsModel, by decide, by decide +kernel⟩
theorem k_X6_slotIn : KY yX6_slotIn cX6_slotIn 3 (some .int) 2 := ⟨kc_X6_slotIn, ki_StickPairsModel, by decide, by decide +kernel⟩
theorem k_X6_numberIn : KY yX6_numberIn cX6_numberIn 3 (some .int) 2 := ⟨kc_X6_numberIn, ki_StickPairsModel, by decide, by decide +kernel⟩
theorem k_X6_slotOf : KY yX6_slotOf cX6_slotOf 2 (some .int) 1 := ⟨kc_X6_slotOf, ki_StickPairsModel, by decide, by decide +kernel⟩
theorem k_X6_isLeft : KY yX6_isLeft cX6_isLeft 2 (some .boolean) 1 := ⟨kc_X6_isLeft, ki_StickPairsModel, by decide, by decide +kernel⟩
theorem k_X6_secondSlot : KY yX6_secondSlot cX6_secondSlot 2 (some .int) 1 := ⟨kc_X6_secondSlot, ki_StickPairsModel, by decide, by decide +kernel⟩
theorem k_X6_secondNumber : KY yX6_secondNumber cX6_secondNumber 2 (some .int) 1 := ⟨kc_X6_secondNumber, ki_StickPairsModel, by decide, by decide +kernel⟩
theorem k_X6_numberOf : KY yX6_numberOf cX6_numberOf 2 (some .int) 1 := ⟨kc_X6_numberOf, ki_StickPairsModel, by decide, by decide +kernel⟩
theorem k_X6_readSlot : KY yX6_readSlot cX6_readSlot 2 (some .int) 1 := ⟨kc_X6_readSlot, ki_StickPairsModel, by decide, by decide +kernel⟩
theorem k_X6_readNumber : KY yX6_readNumber cX6_readNumber 2 (some .int) 1 := ⟨kc_X6_readNumber, ki_StickPairsModel, by decide, by decide +kernel⟩
theorem k_X6_blockAt : KY yX6_blockAt cX6_blockAt 5 (some .int) 2 := ⟨kc_X6_blockAt, ki_StickPairsModel, by decide, by decide +kernel⟩
theorem k_X6_put : KY yX6_put cX6_put 4 none 3 := ⟨kc_X6_put, ki_StickPairsModel, by decide, by decide +kernel⟩
theorem k_X6_isThere : KY yX6_isThere cX6_isThere 2 (some .boolean) 1 := ⟨kc_X6_isThere, ki_StickPairsModel, by decide, by decide +kernel⟩
theorem k_X6_goodRoom : KY yX6_goodRoom cX6_goodRoom 4 (some .int) 1 := ⟨kc_X6_goodRoom, ki_StickPairsModel, by decide, by decide +kernel⟩
theorem k_X6_forgetMap : KY yX6_forgetMap cX6_forgetMap 2 none 0 := ⟨kc_X6_forgetMap, ki_StickPairsModel, by decide, by decide +kernel⟩
theorem k_X6_isSlot : KY yX6_isSlot cX6_isSlot 1 (some .boolean) 1 := ⟨kc_X6_isSlot, ki_StickPairsModel, by decide, by decide +kernel⟩
theorem k_X6_sticks : KY yX6_sticks cX6_sticks 4 (some .int) 1 := ⟨kc_X6_sticks, ki_StickPairsModel, by decide, by decide +kernel⟩
theorem k_X6_used : KY yX6_used cX6_used 4 (some .int) 1 := ⟨kc_X6_used, ki_StickPairsModel, by decide, by decide +kernel⟩
theorem k_X6_whyNot : KY yX6_whyNot cX6_whyNot 2 (some .int) 1 := ⟨kc_X6_whyNot, ki_StickPairsModel, by decide, by decide +kernel⟩
theorem k_X6_makeMap : KY yX6_makeMap cX6_makeMap 3 none 1 := ⟨kc_X6_makeMap, ki_StickPairsModel, by decide, by decide +kernel⟩
theorem k_X6_isBlock : KY yX6_isBlock cX6_isBlock 2 (some .boolean) 1 := ⟨kc_X6_isBlock, ki_StickPairsModel, by decide, by decide +kernel⟩
theorem k_X6_valueOf : KY yX6_valueOf cX6_valueOf 2 (some .int) 1 := ⟨kc_X6_valueOf, ki_StickPairsModel, by decide, by decide +kernel⟩
theorem k_X6_isLeftFor : KY yX6_isLeftFor cX6_isLeftFor 2 (some .boolean) 1 := ⟨kc_X6_isLeftFor, ki_StickPairsModel, by decide, by decide +kernel⟩
theorem k_X6_rankOf : KY yX6_rankOf cX6_rankOf 3 (some .int) 2 := ⟨kc_X6_rankOf, ki_StickPairsModel, by decide, by decide +kernel⟩
theorem k_X6_freeFrom : KY yX6_freeFrom cX6_freeFrom 3 (some .int) 1 := ⟨kc_X6_freeFrom, ki_StickPairsModel, by decide, by decide +kernel⟩
theorem k_X6_waitFor : KY yX6_waitFor cX6_waitFor 2 none 1 := ⟨kc_X6_waitFor, ki_StickPairsModel, by decide, by decide +kernel⟩
theorem k_X6_readNow : KY yX6_readNow cX6_readNow 3 (some .int) 1 := ⟨kc_X6_readNow, ki_StickPairsModel, by decide, by decide +kernel⟩
theorem k_X6_doRead : KY yX6_doRead cX6_doRead 3 (some .int) 1 := ⟨kc_X6_doRead, ki_StickPairsModel, by decide, by decide +kernel⟩
theorem k_X6_at : KY yX6_at cX6_at 2 (some .int) 1 := ⟨kc_X6_at, ki_StickPairsModel, by decide, by decide +kernel⟩
theorem k_X6_takeBlock : KY yX6_takeBlock cX6_takeBlock 5 (some .int) 1 := ⟨kc_X6_takeBlock, ki_StickPairsModel, by decide, by decide +kernel⟩
theorem k_X6_takePart : KY yX6_takePart cX6_takePart 3 (some .int) 1 := ⟨kc_X6_takePart, ki_StickPairsModel, by decide, by decide +kernel⟩
theorem k_X6_findError : KY yX6_findError cX6_findError 2 (some .int) 0 := ⟨kc_X6_findError, ki_StickPairsModel, by decide, by decide +kernel⟩
theorem k_X6_areRising : KY yX6_areRising cX6_areRising 3 (some .boolean) 0 := ⟨kc_X6_areRising, ki_StickPairsModel, by decide, by decide +kernel⟩
theorem k_X6_canRead : KY yX6_canRead cX6_canRead 2 (some .boolean) 1 := ⟨kc_X6_canRead, ki_StickPairsModel, by decide, by decide +kernel⟩
theorem k_X6_readPair : KY yX6_readPair cX6_readPair 3 (some .int) 1 := ⟨kc_X6_readPair, ki_StickPairsModel, by decide, by decide +kernel⟩
theorem k_X6_slotNow : KY yX6_slotNow cX6_slotNow 3 (some .int) 2 := ⟨kc_X6_slotNow, ki_StickPairsModel, by decide, by decide +kernel⟩
theorem k_X6_whereNow : KY yX6_whereNow cX6_whereNow 4 (some .int) 2 := ⟨kc_X6_whereNow, ki_StickPairsModel, by decide, by decide +kernel⟩
theorem k_X6_lost : KY yX6_lost cX6_lost 3 (some .int) 0 := ⟨kc_X6_lost, ki_StickPairsModel, by decide, by decide +kernel⟩
theorem k_X6_values : KY yX6_values cX6_values 3 (some .int) 0 := ⟨kc_X6_values, ki_StickPairsModel, by decide, by decide +kernel⟩
theorem k_X6_countNow : KY yX6_countNow cX6_countNow 2 (some .int) 1 := ⟨kc_X6_countNow, ki_StickPairsModel, by decide, by decide +kernel⟩
theorem k_X6_putAside : KY yX6_putAside cX6_putAside 2 none 0 := ⟨kc_X6_putAside, ki_StickPairsModel, by decide, by decide +kernel⟩
theorem k_X6_putBack : KY yX6_putBack cX6_putBack 2 none 0 := ⟨kc_X6_putBack, ki_StickPairsModel, by decide, by decide +kernel⟩
theorem k_X6_swept : KY yX6_swept cX6_swept 5 (some .int) 1 := ⟨kc_X6_swept, ki_StickPairsModel, by decide, by decide +kernel⟩
theorem k_X6_started : KY yX6_started cX6_started 4 (some .int) 2 := ⟨kc_X6_started, ki_StickPairsModel, by decide, by decide +kernel⟩
theorem k_X6_goodWide : KY yX6_goodWide cX6_goodWide 1 (some .int) 0 := ⟨kc_X6_goodWide, ki_StickPairsModel, by decide, by decide +kernel⟩
theorem k_X6_exchange : KY yX6_exchange cX6_exchange 5 none 2 := ⟨kc_X6_exchange, ki_StickPairsModel, by decide, by decide +kernel⟩
theorem k_X6_findChange : KY yX6_findChange cX6_findChange 6 (some .int) 0 := ⟨kc_X6_findChange, ki_StickPairsModel, by decide, by decide +kernel⟩
theorem k_X6_share : KY yX6_share cX6_share 1 (some .double) 0 := ⟨kc_X6_share, ki_StickPairsModel, by decide, by decide +kernel⟩
theorem k_X6_mean : KY yX6_mean cX6_mean 1 (some .float) 0 := ⟨kc_X6_mean, ki_StickPairsModel, by decide, by decide +kernel⟩
theorem k_Jxe99ae_isNaN_b9ae7 : KY yJxe99ae_isNaN_b9ae7 cJxe99ae_isNaN_b9ae7 2 (some .boolean) 1 := ⟨kc_Jxe99ae_isNaN_b9ae7, ki_java_lang_Double, by decide, by decide +kernel⟩
theorem k_Jxf58ca_isNaN_12338 : KY yJxf58ca_isNaN_12338 cJxf58ca_isNaN_12338 1 (some .boolean) 1 := ⟨kc_Jxf58ca_isNaN_12338, ki_java_lang_Float, by decide, by decide +kernel⟩
theorem k_Jxe99ae_doubleToLongBits_ccdee : KY yJxe99ae_doubleToLongBits_ccdee cJxe99ae_doubleToLongBits_ccdee 2 (some .long) 1 := ⟨kc_Jxe99ae_doubleToLongBits_ccdee, ki_java_lang_Double, by decide, by decide +kernel⟩
theorem k_Jxf58ca_floatToIntBits_5c35a : KY yJxf58ca_floatToIntBits_5c35a cJxf58ca_floatToIntBits_5c35a 1 (some .int) 1 := ⟨kc_Jxf58ca_floatToIntBits_5c35a, ki_java_lang_Float, by decide, by decide +kernel⟩
