theorem tt_1 {w : Cond} (h : w ∈ tables_1_1) : w ∈ lw_tbl := List.mem_append_right _ (show w ∈ tables_1 from List.mem_append_left _ h)
theorem tt_2 {w : Cond} (h : w ∈ tables_1_2) : w ∈ lw_tbl := List.mem_append_right _ (show w ∈ tables_1 from List.mem_append_right _ (List.mem_append_left _ h))
theorem tt_3 {w : Cond} (h : w ∈ tables_1_3) : w ∈ lw_tbl := List.mem_append_right _ (show w ∈ tables_1 from List.mem_append_right _ (List.mem_append_right _ (List.mem_append_left _ h)))
theorem tt_4 {w : Cond} (h : w ∈ tables_1_4) : w ∈ lw_tbl := List.mem_append_right _ (show w ∈ tables_1 from List.mem_append_right _ (List.mem_append_right _ (List.mem_append_right _ (List.mem_append_left _ h))))
theorem tt_5 {w : Cond} (h : w ∈ tables_1_5) : w ∈ lw_tbl := List.mem_append_right _ (show w ∈ tables_1 from List.mem_append_right _ (List.mem_append_right _ (List.mem_append_right _ (List.mem_append_right _ (List.mem_append_left _ h)))))
theorem tt_6 {w : Cond} (h : w ∈ tables_1_6) : w ∈ lw_tbl := List.mem_append_right _ (show w ∈ tables_1 from List.mem_append_right _ (List.mem_append_right _ (List.mem_append_right _ (List.mem_append_right _ (List.mem_append_right _ (List.mem_append_left _ h))))))
theorem tt_7 {w : Cond} (h : w ∈ tables_1_7) : w ∈ lw_tbl := List.mem_append_right _ (show w ∈ tables_1 from List.mem_append_right _ (List.mem_append_right _ (List.mem_append_right _ (List.mem_append_right _ (List.mem_append_right _ (List.mem_append_right _ (List.mem_append_left _ h)))))))
theorem tt_8 {w : Cond} (h : w ∈ tables_1_8) : w ∈ lw_tbl := List.mem_append_right _ (show w ∈ tables_1 from List.mem_append_right _ (List.mem_append_right _ (List.mem_append_right _ (List.mem_append_right _ (List.mem_append_right _ (List.mem_append_right _ (List.mem_append_right _ (List.mem_append_left _ h))))))))
theorem tt_9 {w : Cond} (h : w ∈ tables_1_9) : w ∈ lw_tbl := List.mem_append_right _ (show w ∈ tables_1 from List.mem_append_right _ (List.mem_append_right _ (List.mem_append_right _ (List.mem_append_right _ (List.mem_append_right _ (List.mem_append_right _ (List.mem_append_right _ (List.mem_append_right _ (h)))))))))
theorem mc_0 : Cond.code yX0_init cX0_init 1 none ∈ lw_tbl := tt_1 (List.mem_of_getElem? (i := 34) rfl)
theorem mc_1 : Cond.code yX0_clear cX0_clear 1 none ∈ lw_tbl := tt_2 (List.mem_of_getElem? (i := 220) rfl)
theorem mc_2 : Cond.code yX0_become cX0_become 2 none ∈ lw_tbl := tt_3 (List.mem_of_getElem? (i := 120) rfl)
theorem mc_3 : Cond.code yX0_hasKind cX0_hasKind 2 (some .boolean) ∈ lw_tbl := tt_3 (List.mem_of_getElem? (i := 155) rfl)
theorem mc_4 : Cond.code yX0_hasBand cX0_hasBand 2 (some .boolean) ∈ lw_tbl := tt_3 (List.mem_of_getElem? (i := 167) rfl)
theorem mc_5 : Cond.code yX0_hasStake cX0_hasStake 2 (some .boolean) ∈ lw_tbl := tt_4 (List.mem_of_getElem? (i := 33) rfl)
theorem mc_6 : Cond.code yX0_hasWeaver cX0_hasWeaver 3 (some .boolean) ∈ lw_tbl := tt_3 (List.mem_of_getElem? (i := 176) rfl)
theorem mc_7 : Cond.code yX0_hasCrossing cX0_hasCrossing 4 (some .boolean) ∈ lw_tbl := tt_3 (List.mem_of_getElem? (i := 193) rfl)
theorem mc_8 : Cond.code yX0_ofKind cX0_ofKind 4 (some .int) ∈ lw_tbl := tt_3 (List.mem_of_getElem? (i := 159) rfl)
theorem mc_9 : Cond.code yX0_ofBand cX0_ofBand 4 (some .int) ∈ lw_tbl := tt_3 (List.mem_of_getElem? (i := 105) rfl)
theorem mc_10 : Cond.code yX0_kindOf cX0_kindOf 3 (some .int) ∈ lw_tbl := tt_3 (List.mem_of_getElem? (i := 181) rfl)
theorem mc_11 : Cond.code yX0_ring cX0_ring 1 (some .int) ∈ lw_tbl := tt_3 (List.mem_of_getElem? (i := 221) rfl)
theorem mc_12 : Cond.code yX0_weaversOf cX0_weaversOf 2 (some .int) ∈ lw_tbl := tt_3 (List.mem_of_getElem? (i := 233) rfl)
theorem mc_13 : Cond.code yX0_periodOf cX0_periodOf 2 (some .int) ∈ lw_tbl := tt_4 (List.mem_of_getElem? (i := 7) rfl)
theorem mc_14 : Cond.code yX0_crossingsOf cX0_crossingsOf 2 (some .int) ∈ lw_tbl := tt_3 (List.mem_of_getElem? (i := 109) rfl)
theorem mc_15 : Cond.code yX0_rowsOf cX0_rowsOf 2 (some .int) ∈ lw_tbl := tt_4 (List.mem_of_getElem? (i := 29) rfl)
theorem mc_16 : Cond.code yX0_slipsOfBand cX0_slipsOfBand 4 (some .int) ∈ lw_tbl := tt_3 (List.mem_of_getElem? (i := 172) rfl)
theorem mc_17 : Cond.code yX0_slipsAt cX0_slipsAt 7 (some .int) ∈ lw_tbl := tt_4 (List.mem_of_getElem? (i := 12) rfl)
theorem mc_18 : Cond.code yX0_stakeAt cX0_stakeAt 5 (some .int) ∈ lw_tbl := tt_3 (List.mem_of_getElem? (i := 217) rfl)
theorem mc_19 : Cond.code yX0_offsetOf cX0_offsetOf 5 (some .int) ∈ lw_tbl := tt_4 (List.mem_of_getElem? (i := 45) rfl)
theorem mc_20 : Cond.code yX0_aheadOf cX0_aheadOf 4 (some .int) ∈ lw_tbl := tt_4 (List.mem_of_getElem? (i := 21) rfl)
theorem mc_21 : Cond.code yX0_allCrossings cX0_allCrossings 1 (some .int) ∈ lw_tbl := tt_4 (List.mem_of_getElem? (i := 93) rfl)
theorem mc_22 : Cond.code yX0_whenOf cX0_whenOf 4 (some .int) ∈ lw_tbl := tt_4 (List.mem_of_getElem? (i := 17) rfl)
theorem mc_23 : Cond.code yX0_firstTouch cX0_firstTouch 6 (some .int) ∈ lw_tbl := tt_4 (List.mem_of_getElem? (i := 105) rfl)
theorem mc_24 : Cond.code yX0_rodStep cX0_rodStep 3 (some .int) ∈ lw_tbl := tt_3 (List.mem_of_getElem? (i := 204) rfl)
theorem mc_25 : Cond.code yX0_rodsFor cX0_rodsFor 6 (some .int) ∈ lw_tbl := tt_3 (List.mem_of_getElem? (i := 212) rfl)
theorem mc_26 : Cond.code yX0_rodAt cX0_rodAt 5 (some .int) ∈ lw_tbl := tt_3 (List.mem_of_getElem? (i := 199) rfl)
theorem mc_27 : Cond.code yX0_weaversOfKind cX0_weaversOfKind 5 (some .int) ∈ lw_tbl := tt_5 (List.mem_of_getElem? (i := 72) rfl)
theorem mc_28 : Cond.code yX0_rodsTaken cX0_rodsTaken 4 (some .int) ∈ lw_tbl := tt_5 (List.mem_of_getElem? (i := 68) rfl)
theorem mc_29 : Cond.code yX0_leftOver cX0_leftOver 6 (some .int) ∈ lw_tbl := tt_5 (List.mem_of_getElem? (i := 80) rfl)
theorem mc_30 : Cond.code yX0_cheapestKind cX0_cheapestKind 6 (some .int) ∈ lw_tbl := tt_5 (List.mem_of_getElem? (i := 92) rfl)
theorem mc_31 : Cond.code yX0_longestRod cX0_longestRod 4 (some .int) ∈ lw_tbl := tt_5 (List.mem_of_getElem? (i := 110) rfl)
theorem mc_32 : Cond.code yX0_driesTo cX0_driesTo 2 (some .int) ∈ lw_tbl := tt_5 (List.mem_of_getElem? (i := 216) rfl)
theorem mc_33 : Cond.code yX0_heightOf cX0_heightOf 6 (some .int) ∈ lw_tbl := tt_5 (List.mem_of_getElem? (i := 212) rfl)
theorem mc_34 : Cond.code yX0_loosest cX0_loosest 11 (some .int) ∈ lw_tbl := tt_5 (List.mem_of_getElem? (i := 224) rfl)
theorem mc_35 : Cond.code yX0_widthBehind cX0_widthBehind 4 (some .int) ∈ lw_tbl := tt_6 (List.mem_of_getElem? (i := 12) rfl)
theorem mc_36 : Cond.code yX0_wanderFrom cX0_wanderFrom 9 (some .int) ∈ lw_tbl := tt_6 (List.mem_of_getElem? (i := 118) rfl)
theorem mc_37 : Cond.code yX1_init cX1_init 1 none ∈ lw_tbl := tt_2 (List.mem_of_getElem? (i := 71) rfl)
theorem mc_38 : Cond.code yX1_difference cX1_difference 1 (some .int) ∈ lw_tbl := tt_6 (List.mem_of_getElem? (i := 106) rfl)
theorem mc_39 : Cond.code yX1_leanOf cX1_leanOf 2 (some .int) ∈ lw_tbl := tt_6 (List.mem_of_getElem? (i := 110) rfl)
theorem mc_40 : Cond.code yX1_leanShift cX1_leanShift 1 (some .int) ∈ lw_tbl := tt_6 (List.mem_of_getElem? (i := 78) rfl)
theorem mc_41 : Cond.code yX1_make cX1_make 5 none ∈ lw_tbl := tt_6 (List.mem_of_getElem? (i := 24) rfl)
theorem mc_42 : Cond.code yX1_setRanges cX1_setRanges 5 none ∈ lw_tbl := tt_6 (List.mem_of_getElem? (i := 31) rfl)
theorem mc_43 : Cond.code yX1_costOfTrial cX1_costOfTrial 3 (some .int) ∈ lw_tbl := tt_6 (List.mem_of_getElem? (i := 36) rfl)
theorem mc_44 : Cond.code yX1_tryLean cX1_tryLean 7 none ∈ lw_tbl := tt_6 (List.mem_of_getElem? (i := 45) rfl)
theorem mc_45 : Cond.code yX1_widthBy cX1_widthBy 4 (some .int) ∈ lw_tbl := tt_6 (List.mem_of_getElem? (i := 40) rfl)
theorem mc_46 : Cond.code yX1_narrowRanges cX1_narrowRanges 3 none ∈ lw_tbl := tt_6 (List.mem_of_getElem? (i := 51) rfl)
theorem mc_47 : Cond.code yX1_makeRoom cX1_makeRoom 3 none ∈ lw_tbl := tt_6 (List.mem_of_getElem? (i := 55) rfl)
theorem mc_48 : Cond.code yX1_rowsOf cX1_rowsOf 2 (some .int) ∈ lw_tbl := tt_6 (List.mem_of_getElem? (i := 59) rfl)
theorem mc_49 : Cond.code yX1_wayAt cX1_wayAt 2 (some .long) ∈ lw_tbl := tt_6 (List.mem_of_getElem? (i := 93) rfl)
theorem mc_50 : Cond.code yX1_emptyNext cX1_emptyNext 2 none ∈ lw_tbl := tt_6 (List.mem_of_getElem? (i := 64) rfl)
theorem mc_51 : Cond.code yX1_takeNext cX1_takeNext 2 none ∈ lw_tbl := tt_6 (List.mem_of_getElem? (i := 85) rfl)
theorem mc_52 : Cond.code yX1_goOn cX1_goOn 6 none ∈ lw_tbl := tt_6 (List.mem_of_getElem? (i := 89) rfl)
theorem mc_53 : Cond.code yX1_goOnFrom cX1_goOnFrom 10 none ∈ lw_tbl := tt_6 (List.mem_of_getElem? (i := 97) rfl)
theorem mc_54 : Cond.code yX1_leastNear cX1_leastNear 7 (some .long) ∈ lw_tbl := tt_6 (List.mem_of_getElem? (i := 102) rfl)
theorem mc_55 : Cond.code yX1_goTo cX1_goTo 11 none ∈ lw_tbl := tt_6 (List.mem_of_getElem? (i := 75) rfl)
theorem mc_56 : Cond.code yX2_init cX2_init 1 none ∈ lw_tbl := tt_2 (List.mem_of_getElem? (i := 45) rfl)
theorem mc_57 : Cond.code yX2_rodAtPlace cX2_rodAtPlace 2 (some .int) ∈ lw_tbl := tt_5 (List.mem_of_getElem? (i := 204) rfl)
theorem mc_58 : Cond.code yX2_putRound cX2_putRound 3 none ∈ lw_tbl := tt_5 (List.mem_of_getElem? (i := 184) rfl)
theorem mc_59 : Cond.code yX2_putFrom cX2_putFrom 6 none ∈ lw_tbl := tt_5 (List.mem_of_getElem? (i := 191) rfl)
theorem mc_60 : Cond.code yX2_differenceAt cX2_differenceAt 5 (some .int) ∈ lw_tbl := tt_5 (List.mem_of_getElem? (i := 196) rfl)
theorem mc_61 : Cond.code yX3_init cX3_init 1 none ∈ lw_tbl := tt_1 (List.mem_of_getElem? (i := 215) rfl)
theorem mc_62 : Cond.code yX3_become cX3_become 2 none ∈ lw_tbl := tt_6 (List.mem_of_getElem? (i := 225) rfl)
theorem mc_63 : Cond.code yX3_isHand cX3_isHand 2 (some .boolean) ∈ lw_tbl := tt_6 (List.mem_of_getElem? (i := 150) rfl)
theorem mc_64 : Cond.code yX3_isTold cX3_isTold 2 (some .boolean) ∈ lw_tbl := tt_6 (List.mem_of_getElem? (i := 167) rfl)
theorem mc_65 : Cond.code yX3_tell cX3_tell 4 (some .int) ∈ lw_tbl := tt_6 (List.mem_of_getElem? (i := 154) rfl)
theorem mc_66 : Cond.code yX3_teacherOf cX3_teacherOf 2 (some .int) ∈ lw_tbl := tt_6 (List.mem_of_getElem? (i := 177) rfl)
theorem mc_67 : Cond.code yX3_teachAll cX3_teachAll 5 (some .int) ∈ lw_tbl := tt_6 (List.mem_of_getElem? (i := 163) rfl)
theorem mc_68 : Cond.code yX3_nextTaught cX3_nextTaught 7 (some .int) ∈ lw_tbl := tt_6 (List.mem_of_getElem? (i := 171) rfl)
theorem mc_69 : Cond.code yX4_init cX4_init 1 none ∈ lw_tbl := tt_2 (List.mem_of_getElem? (i := 13) rfl)
theorem mc_70 : Cond.code yX5_init cX5_init 1 none ∈ lw_tbl := tt_1 (List.mem_of_getElem? (i := 232) rfl)
theorem mc_71 : Cond.code yX5_isMissing cX5_isMissing 1 (some .boolean) ∈ lw_tbl := tt_5 (List.mem_of_getElem? (i := 122) rfl)
theorem mc_72 : Cond.code yX5_begin cX5_begin 3 none ∈ lw_tbl := tt_6 (List.mem_of_getElem? (i := 191) rfl)
theorem mc_73 : Cond.code yX5_put cX5_put 4 (some .long) ∈ lw_tbl := tt_6 (List.mem_of_getElem? (i := 203) rfl)
theorem mc_74 : Cond.code yX5_cut cX5_cut 3 (some .long) ∈ lw_tbl := tt_6 (List.mem_of_getElem? (i := 207) rfl)
theorem mc_75 : Cond.code yX5_allWithin cX5_allWithin 6 (some .boolean) ∈ lw_tbl := tt_5 (List.mem_of_getElem? (i := 127) rfl)
theorem mc_76 : Cond.code yX5_intAt cX5_intAt 2 (some .int) ∈ lw_tbl := tt_5 (List.mem_of_getElem? (i := 139) rfl)
theorem mc_77 : Cond.code yX6_init cX6_init 1 none ∈ lw_tbl := tt_1 (List.mem_of_getElem? (i := 151) rfl)
theorem mc_78 : Cond.code yX6_clear cX6_clear 1 none ∈ lw_tbl := tt_3 (List.mem_of_getElem? (i := 127) rfl)
theorem mc_79 : Cond.code yX6_become cX6_become 2 none ∈ lw_tbl := tt_6 (List.mem_of_getElem? (i := 220) rfl)
theorem mc_80 : Cond.code yX6_isPicture cX6_isPicture 8 (some .boolean) ∈ lw_tbl := tt_4 (List.mem_of_getElem? (i := 209) rfl)
theorem mc_81 : Cond.code yX6_isSign cX6_isSign 2 (some .boolean) ∈ lw_tbl := tt_4 (List.mem_of_getElem? (i := 213) rfl)
theorem mc_82 : Cond.code yX6_take cX6_take 9 none ∈ lw_tbl := tt_4 (List.mem_of_getElem? (i := 217) rfl)
theorem mc_83 : Cond.code yX6_takeWished cX6_takeWished 5 none ∈ lw_tbl := tt_4 (List.mem_of_getElem? (i := 222) rfl)
theorem mc_84 : Cond.code yX6_takePrinted cX6_takePrinted 4 none ∈ lw_tbl := tt_4 (List.mem_of_getElem? (i := 226) rfl)
theorem mc_85 : Cond.code yX7_init cX7_init 1 none ∈ lw_tbl := tt_2 (List.mem_of_getElem? (i := 129) rfl)
theorem mc_86 : Cond.code yX7_make cX7_make 7 none ∈ lw_tbl := tt_5 (List.mem_of_getElem? (i := 162) rfl)
theorem mc_87 : Cond.code yX7_strandAt cX7_strandAt 3 (some .int) ∈ lw_tbl := tt_5 (List.mem_of_getElem? (i := 175) rfl)
theorem mc_88 : Cond.code yX7_orderOf cX7_orderOf 5 (some .int) ∈ lw_tbl := tt_5 (List.mem_of_getElem? (i := 166) rfl)
theorem mc_89 : Cond.code yX7_ringOf cX7_ringOf 4 (some .int) ∈ lw_tbl := tt_5 (List.mem_of_getElem? (i := 170) rfl)
theorem mc_90 : Cond.code yX7_leftOf cX7_leftOf 5 (some .int) ∈ lw_tbl := tt_5 (List.mem_of_getElem? (i := 157) rfl)
theorem mc_91 : Cond.code yX8_init cX8_init 1 none ∈ lw_tbl := tt_1 (List.mem_of_getElem? (i := 93) rfl)
theorem mc_92 : Cond.code yX8_readBasket cX8_readBasket 5 (some .boolean) ∈ lw_tbl := tt_2 (List.mem_of_getElem? (i := 213) rfl)
theorem mc_93 : Cond.code yX8_readLine cX8_readLine 2 none ∈ lw_tbl := tt_3 (List.mem_of_getElem? (i := 2) rfl)
theorem mc_94 : Cond.code yX8_readStakes cX8_readStakes 2 none ∈ lw_tbl := tt_3 (List.mem_of_getElem? (i := 59) rfl)
theorem mc_95 : Cond.code yX8_readRod cX8_readRod 3 none ∈ lw_tbl := tt_3 (List.mem_of_getElem? (i := 72) rfl)
theorem mc_96 : Cond.code yX8_readBand cX8_readBand 5 none ∈ lw_tbl := tt_3 (List.mem_of_getElem? (i := 80) rfl)
theorem mc_97 : Cond.code yX8_takeLeft cX8_takeLeft 1 (some .int) ∈ lw_tbl := tt_3 (List.mem_of_getElem? (i := 89) rfl)
theorem mc_98 : Cond.code yX8_takeLean cX8_takeLean 1 (some .int) ∈ lw_tbl := tt_3 (List.mem_of_getElem? (i := 94) rfl)
theorem mc_99 : Cond.code yX8_readSlip cX8_readSlip 4 none ∈ lw_tbl := tt_3 (List.mem_of_getElem? (i := 101) rfl)
theorem mc_100 : Cond.code yX8_fail cX8_fail 2 none ∈ lw_tbl := tt_2 (List.mem_of_getElem? (i := 238) rfl)
theorem mc_101 : Cond.code yX8_isWord cX8_isWord 3 (some .boolean) ∈ lw_tbl := tt_3 (List.mem_of_getElem? (i := 7) rfl)
theorem mc_102 : Cond.code yX8_takeWord cX8_takeWord 2 none ∈ lw_tbl := tt_3 (List.mem_of_getElem? (i := 63) rfl)
theorem mc_103 : Cond.code yX8_takeNumber cX8_takeNumber 4 (some .int) ∈ lw_tbl := tt_3 (List.mem_of_getElem? (i := 67) rfl)
theorem mc_104 : Cond.code yX8_takeSign cX8_takeSign 1 none ∈ lw_tbl := tt_3 (List.mem_of_getElem? (i := 116) rfl)
theorem mc_105 : Cond.code yX8_byteAt cX8_byteAt 2 (some .int) ∈ lw_tbl := tt_2 (List.mem_of_getElem? (i := 228) rfl)
theorem mc_106 : Cond.code yX8_isLetter cX8_isLetter 1 (some .boolean) ∈ lw_tbl := tt_2 (List.mem_of_getElem? (i := 231) rfl)
theorem mc_107 : Cond.code yX8_isDigit cX8_isDigit 1 (some .boolean) ∈ lw_tbl := tt_2 (List.mem_of_getElem? (i := 234) rfl)
theorem mc_108 : Cond.code yX8_advance cX8_advance 2 none ∈ lw_tbl := tt_2 (List.mem_of_getElem? (i := 224) rfl)
theorem mc_109 : Cond.code yX9_init cX9_init 1 none ∈ lw_tbl := tt_1 (List.mem_of_getElem? (i := 175) rfl)
theorem mc_110 : Cond.code yX9_forgetWish cX9_forgetWish 1 none ∈ lw_tbl := tt_3 (List.mem_of_getElem? (i := 139) rfl)
theorem mc_111 : Cond.code yX9_forgetPrint cX9_forgetPrint 1 none ∈ lw_tbl := tt_3 (List.mem_of_getElem? (i := 143) rfl)
theorem mc_112 : Cond.code yX9_ofMaker cX9_ofMaker 2 (some .int) ∈ lw_tbl := tt_5 (List.mem_of_getElem? (i := 31) rfl)
theorem mc_113 : Cond.code yX9_ofReader cX9_ofReader 4 (some .int) ∈ lw_tbl := tt_5 (List.mem_of_getElem? (i := 56) rfl)
theorem mc_114 : Cond.code yX9_makeKnown cX9_makeKnown 4 none ∈ lw_tbl := tt_4 (List.mem_of_getElem? (i := 234) rfl)
theorem mc_115 : Cond.code yX9_kindsAgree cX9_kindsAgree 3 (some .boolean) ∈ lw_tbl := tt_4 (List.mem_of_getElem? (i := 239) rfl)
theorem mc_116 : Cond.code yX9_kindOfWeaver cX9_kindOfWeaver 6 (some .int) ∈ lw_tbl := tt_5 (List.mem_of_getElem? (i := 2) rfl)
theorem mc_117 : Cond.code yX9_makeWith cX9_makeWith 6 none ∈ lw_tbl := tt_5 (List.mem_of_getElem? (i := 7) rfl)
theorem mc_118 : Cond.code yX9_readKnown cX9_readKnown 7 none ∈ lw_tbl := tt_5 (List.mem_of_getElem? (i := 43) rfl)
theorem mc_119 : Cond.code yX9_readSide cX9_readSide 3 none ∈ lw_tbl := tt_5 (List.mem_of_getElem? (i := 47) rfl)
theorem mc_120 : Cond.code yX9_readWith cX9_readWith 6 none ∈ lw_tbl := tt_5 (List.mem_of_getElem? (i := 52) rfl)
theorem mc_121 : Cond.code yX9_begin cX9_begin 2 none ∈ lw_tbl := tt_5 (List.mem_of_getElem? (i := 11) rfl)
theorem mc_122 : Cond.code yX9_goOn cX9_goOn 1 (some .boolean) ∈ lw_tbl := tt_5 (List.mem_of_getElem? (i := 27) rfl)
theorem mc_123 : Cond.code yX9_weaveRounds cX9_weaveRounds 6 none ∈ lw_tbl := tt_5 (List.mem_of_getElem? (i := 15) rfl)
theorem mc_124 : Cond.code yX9_mistakesOf cX9_mistakesOf 7 (some .int) ∈ lw_tbl := tt_5 (List.mem_of_getElem? (i := 20) rfl)
theorem mc_125 : Cond.code yX10_init cX10_init 2 none ∈ lw_tbl := tt_1 (List.mem_of_getElem? (i := 126) rfl)
theorem mc_126 : Cond.code yX10_forget cX10_forget 1 none ∈ lw_tbl := tt_3 (List.mem_of_getElem? (i := 135) rfl)
theorem mc_127 : Cond.code yX10_rowBits cX10_rowBits 4 (some .int) ∈ lw_tbl := tt_3 (List.mem_of_getElem? (i := 237) rfl)
theorem mc_128 : Cond.code yX10_weaveOne cX10_weaveOne 12 none ∈ lw_tbl := tt_4 (List.mem_of_getElem? (i := 2) rfl)
theorem mc_129 : Cond.code yX10_goesOver cX10_goesOver 6 (some .boolean) ∈ lw_tbl := tt_3 (List.mem_of_getElem? (i := 228) rfl)
theorem mc_130 : Cond.code yX10_overAt cX10_overAt 5 (some .boolean) ∈ lw_tbl := tt_4 (List.mem_of_getElem? (i := 41) rfl)
theorem mc_131 : Cond.code yX10_kindSeen cX10_kindSeen 5 (some .int) ∈ lw_tbl := tt_4 (List.mem_of_getElem? (i := 37) rfl)
theorem mc_132 : Cond.code yX10_oversAt cX10_oversAt 5 (some .int) ∈ lw_tbl := tt_4 (List.mem_of_getElem? (i := 54) rfl)
theorem mc_133 : Cond.code yX10_longestRun cX10_longestRun 8 (some .int) ∈ lw_tbl := tt_4 (List.mem_of_getElem? (i := 63) rfl)
theorem mc_134 : Cond.code yX10_stakeBits cX10_stakeBits 7 (some .int) ∈ lw_tbl := tt_4 (List.mem_of_getElem? (i := 119) rfl)
theorem mc_135 : Cond.code yX10_alike cX10_alike 5 (some .int) ∈ lw_tbl := tt_4 (List.mem_of_getElem? (i := 115) rfl)
theorem mc_136 : Cond.code yX10_bestFrom cX10_bestFrom 6 (some .int) ∈ lw_tbl := tt_4 (List.mem_of_getElem? (i := 143) rfl)
theorem mc_137 : Cond.code yX10_turnBetween cX10_turnBetween 9 (some .int) ∈ lw_tbl := tt_4 (List.mem_of_getElem? (i := 152) rfl)
theorem mc_138 : Cond.code yX10_rowsTillAgain cX10_rowsTillAgain 4 (some .int) ∈ lw_tbl := tt_4 (List.mem_of_getElem? (i := 160) rfl)
theorem mc_139 : Cond.code yX10_sameBehind cX10_sameBehind 5 (some .boolean) ∈ lw_tbl := tt_4 (List.mem_of_getElem? (i := 164) rfl)
theorem mc_140 : Cond.code yX10_mostSeen cX10_mostSeen 6 (some .int) ∈ lw_tbl := tt_4 (List.mem_of_getElem? (i := 172) rfl)
theorem mc_141 : Cond.code yX10_longStretches cX10_longStretches 9 (some .int) ∈ lw_tbl := tt_4 (List.mem_of_getElem? (i := 182) rfl)
theorem mc_142 : Cond.code yX10_learnerDoes cX10_learnerDoes 18 (some .int) ∈ lw_tbl := tt_4 (List.mem_of_getElem? (i := 192) rfl)
theorem mc_143 : Cond.code yX10_joinsOf cX10_joinsOf 10 (some .int) ∈ lw_tbl := tt_5 (List.mem_of_getElem? (i := 100) rfl)
theorem mc_144 : Cond.code yX10_holdOf cX10_holdOf 5 (some .int) ∈ lw_tbl := tt_5 (List.mem_of_getElem? (i := 233) rfl)
theorem mc_145 : Cond.code yX10_changesOf cX10_changesOf 8 (some .int) ∈ lw_tbl := tt_5 (List.mem_of_getElem? (i := 237) rfl)
theorem mc_146 : Cond.code yX11_init cX11_init 1 none ∈ lw_tbl := tt_1 (List.mem_of_getElem? (i := 26) rfl)
theorem mc_147 : Cond.code yX11_feed cX11_feed 6 (some .int) ∈ lw_tbl := tt_2 (List.mem_of_getElem? (i := 193) rfl)
theorem mc_148 : Cond.code yX11_basket cX11_basket 2 (some .int) ∈ lw_tbl := tt_2 (List.mem_of_getElem? (i := 205) rfl)
theorem mc_149 : Cond.code yX11_fault cX11_fault 2 (some .int) ∈ lw_tbl := tt_3 (List.mem_of_getElem? (i := 147) rfl)
theorem mc_150 : Cond.code yX11_rod cX11_rod 3 (some .int) ∈ lw_tbl := tt_3 (List.mem_of_getElem? (i := 151) rfl)
theorem mc_151 : Cond.code yX11_band cX11_band 4 (some .int) ∈ lw_tbl := tt_3 (List.mem_of_getElem? (i := 163) rfl)
theorem mc_152 : Cond.code yX11_lean cX11_lean 2 (some .int) ∈ lw_tbl := tt_3 (List.mem_of_getElem? (i := 185) rfl)
theorem mc_153 : Cond.code yX11_crossing cX11_crossing 6 (some .int) ∈ lw_tbl := tt_3 (List.mem_of_getElem? (i := 189) rfl)
theorem mc_154 : Cond.code yX11_seen cX11_seen 5 (some .int) ∈ lw_tbl := tt_4 (List.mem_of_getElem? (i := 25) rfl)
theorem mc_155 : Cond.code yX11_overs cX11_overs 3 (some .int) ∈ lw_tbl := tt_4 (List.mem_of_getElem? (i := 50) rfl)
theorem mc_156 : Cond.code yX11_run cX11_run 3 (some .int) ∈ lw_tbl := tt_4 (List.mem_of_getElem? (i := 59) rfl)
theorem mc_157 : Cond.code yX11_step cX11_step 6 (some .int) ∈ lw_tbl := tt_4 (List.mem_of_getElem? (i := 68) rfl)
theorem mc_158 : Cond.code yX11_counts cX11_counts 9 (some .int) ∈ lw_tbl := tt_4 (List.mem_of_getElem? (i := 85) rfl)
theorem mc_159 : Cond.code yX11_total cX11_total 1 (some .int) ∈ lw_tbl := tt_4 (List.mem_of_getElem? (i := 89) rfl)
theorem mc_160 : Cond.code yX11_undo cX11_undo 6 (some .int) ∈ lw_tbl := tt_4 (List.mem_of_getElem? (i := 97) rfl)
theorem mc_161 : Cond.code yX11_mend cX11_mend 4 (some .int) ∈ lw_tbl := tt_4 (List.mem_of_getElem? (i := 101) rfl)
theorem mc_162 : Cond.code yX11_seam cX11_seam 2 (some .int) ∈ lw_tbl := tt_4 (List.mem_of_getElem? (i := 111) rfl)
theorem mc_163 : Cond.code yX11_turn cX11_turn 2 (some .int) ∈ lw_tbl := tt_4 (List.mem_of_getElem? (i := 139) rfl)
theorem mc_164 : Cond.code yX11_spiral cX11_spiral 4 (some .int) ∈ lw_tbl := tt_4 (List.mem_of_getElem? (i := 148) rfl)
theorem mc_165 : Cond.code yX11_repeats cX11_repeats 2 (some .int) ∈ lw_tbl := tt_4 (List.mem_of_getElem? (i := 156) rfl)
theorem mc_166 : Cond.code yX11_colour cX11_colour 4 (some .int) ∈ lw_tbl := tt_4 (List.mem_of_getElem? (i := 168) rfl)
theorem mc_167 : Cond.code yX11_floats cX11_floats 3 (some .int) ∈ lw_tbl := tt_4 (List.mem_of_getElem? (i := 178) rfl)
theorem mc_168 : Cond.code yX11_learner cX11_learner 5 (some .int) ∈ lw_tbl := tt_4 (List.mem_of_getElem? (i := 188) rfl)
theorem mc_169 : Cond.code yX11_wish cX11_wish 2 (some .int) ∈ lw_tbl := tt_4 (List.mem_of_getElem? (i := 202) rfl)
theorem mc_170 : Cond.code yX11_find cX11_find 4 (some .int) ∈ lw_tbl := tt_4 (List.mem_of_getElem? (i := 230) rfl)
theorem mc_171 : Cond.code yX11_print cX11_print 2 (some .int) ∈ lw_tbl := tt_5 (List.mem_of_getElem? (i := 35) rfl)
theorem mc_172 : Cond.code yX11_reads cX11_reads 3 (some .int) ∈ lw_tbl := tt_5 (List.mem_of_getElem? (i := 39) rfl)
theorem mc_173 : Cond.code yX11_nearest cX11_nearest 3 (some .int) ∈ lw_tbl := tt_5 (List.mem_of_getElem? (i := 60) rfl)
theorem mc_174 : Cond.code yX11_rods cX11_rods 2 (some .int) ∈ lw_tbl := tt_5 (List.mem_of_getElem? (i := 64) rfl)
theorem mc_175 : Cond.code yX11_waste cX11_waste 2 (some .int) ∈ lw_tbl := tt_5 (List.mem_of_getElem? (i := 76) rfl)
theorem mc_176 : Cond.code yX11_cost cX11_cost 3 (some .int) ∈ lw_tbl := tt_5 (List.mem_of_getElem? (i := 84) rfl)
theorem mc_177 : Cond.code yX11_cheaper cX11_cheaper 2 (some .int) ∈ lw_tbl := tt_5 (List.mem_of_getElem? (i := 88) rfl)
theorem mc_178 : Cond.code yX11_joins cX11_joins 3 (some .int) ∈ lw_tbl := tt_5 (List.mem_of_getElem? (i := 96) rfl)
theorem mc_179 : Cond.code yX11_hide cX11_hide 8 (some .int) ∈ lw_tbl := tt_5 (List.mem_of_getElem? (i := 106) rfl)
theorem mc_180 : Cond.code yX11_reach cX11_reach 6 (some .int) ∈ lw_tbl := tt_5 (List.mem_of_getElem? (i := 114) rfl)
theorem mc_181 : Cond.code yX11_nest cX11_nest 4 (some .int) ∈ lw_tbl := tt_5 (List.mem_of_getElem? (i := 144) rfl)
theorem mc_182 : Cond.code yX11_plait cX11_plait 6 (some .int) ∈ lw_tbl := tt_5 (List.mem_of_getElem? (i := 153) rfl)
theorem mc_183 : Cond.code yX11_even cX11_even 5 (some .int) ∈ lw_tbl := tt_5 (List.mem_of_getElem? (i := 179) rfl)
theorem mc_184 : Cond.code yX11_height cX11_height 5 (some .int) ∈ lw_tbl := tt_5 (List.mem_of_getElem? (i := 208) rfl)
theorem mc_185 : Cond.code yX11_loose cX11_loose 1 (some .int) ∈ lw_tbl := tt_5 (List.mem_of_getElem? (i := 220) rfl)
theorem mc_186 : Cond.code yX11_hold cX11_hold 2 (some .int) ∈ lw_tbl := tt_5 (List.mem_of_getElem? (i := 229) rfl)
theorem mc_187 : Cond.code yX11_gives cX11_gives 4 (some .int) ∈ lw_tbl := tt_6 (List.mem_of_getElem? (i := 4) rfl)
theorem mc_188 : Cond.code yX11_width cX11_width 2 (some .int) ∈ lw_tbl := tt_6 (List.mem_of_getElem? (i := 8) rfl)
theorem mc_189 : Cond.code yX11_bowl cX11_bowl 4 (some .int) ∈ lw_tbl := tt_6 (List.mem_of_getElem? (i := 16) rfl)
theorem mc_190 : Cond.code yX11_wander cX11_wander 3 (some .int) ∈ lw_tbl := tt_6 (List.mem_of_getElem? (i := 114) rfl)
theorem mc_191 : Cond.code yX11_closes cX11_closes 4 (some .int) ∈ lw_tbl := tt_6 (List.mem_of_getElem? (i := 124) rfl)
theorem mc_192 : Cond.code yX11_border cX11_border 4 (some .int) ∈ lw_tbl := tt_6 (List.mem_of_getElem? (i := 131) rfl)
theorem mc_193 : Cond.code yX11_ways cX11_ways 3 (some .int) ∈ lw_tbl := tt_6 (List.mem_of_getElem? (i := 146) rfl)
theorem mc_194 : Cond.code yX11_taught cX11_taught 2 (some .int) ∈ lw_tbl := tt_6 (List.mem_of_getElem? (i := 159) rfl)
theorem mc_195 : Cond.code yX11_lid cX11_lid 10 (some .int) ∈ lw_tbl := tt_6 (List.mem_of_getElem? (i := 181) rfl)
theorem mc_196 : Cond.code yX11_numbers cX11_numbers 4 (some .int) ∈ lw_tbl := tt_6 (List.mem_of_getElem? (i := 187) rfl)
theorem mc_197 : Cond.code yX11_write cX11_write 6 (some .long) ∈ lw_tbl := tt_6 (List.mem_of_getElem? (i := 199) rfl)
theorem mc_198 : Cond.code yX11_copy cX11_copy 8 (some .int) ∈ lw_tbl := tt_6 (List.mem_of_getElem? (i := 211) rfl)
theorem mc_199 : Cond.code yX11_image cX11_image 3 (some .int) ∈ lw_tbl := tt_6 (List.mem_of_getElem? (i := 216) rfl)
theorem mc_200 : Cond.code yX11_restore cX11_restore 3 (some .int) ∈ lw_tbl := tt_6 (List.mem_of_getElem? (i := 230) rfl)
theorem mc_201 : Cond.code yX11_status cX11_status 2 (some .int) ∈ lw_tbl := tt_6 (List.mem_of_getElem? (i := 234) rfl)
theorem mc_202 : Cond.code yX11_count cX11_count 2 (some .int) ∈ lw_tbl := tt_6 (List.mem_of_getElem? (i := 238) rfl)
theorem mc_203 : Cond.code yX11_refuse cX11_refuse 2 (some .int) ∈ lw_tbl := tt_2 (List.mem_of_getElem? (i := 197) rfl)
theorem mc_204 : Cond.code yX11_putBytes cX11_putBytes 3 none ∈ lw_tbl := tt_2 (List.mem_of_getElem? (i := 201) rfl)
theorem mc_205 : Cond.code yX11_onTape cX11_onTape 2 (some .boolean) ∈ lw_tbl := tt_2 (List.mem_of_getElem? (i := 209) rfl)
theorem mc_206 : Cond.code yX11_isRow cX11_isRow 2 (some .boolean) ∈ lw_tbl := tt_5 (List.mem_of_getElem? (i := 118) rfl)
theorem mc_207 : Cond.code yX11_forgetAnswers cX11_forgetAnswers 1 none ∈ lw_tbl := tt_3 (List.mem_of_getElem? (i := 131) rfl)
theorem mc_208 : Cond.code yX11_takePicture cX11_takePicture 4 (some .int) ∈ lw_tbl := tt_4 (List.mem_of_getElem? (i := 206) rfl)
theorem mc_209 : Cond.code yX11_stakesCan cX11_stakesCan 1 (some .boolean) ∈ lw_tbl := tt_4 (List.mem_of_getElem? (i := 71) rfl)
theorem mc_210 : Cond.code yX11_strokeCan cX11_strokeCan 2 (some .boolean) ∈ lw_tbl := tt_4 (List.mem_of_getElem? (i := 74) rfl)
theorem mc_211 : Cond.code yX11_commonDivisor cX11_commonDivisor 6 (some .int) ∈ lw_tbl := tt_4 (List.mem_of_getElem? (i := 77) rfl)
theorem mc_212 : Cond.code yX11_turnsOver cX11_turnsOver 4 (some .boolean) ∈ lw_tbl := tt_4 (List.mem_of_getElem? (i := 81) rfl)
theorem mc_213 : Cond.code yX11_coveredBy cX11_coveredBy 5 (some .int) ∈ lw_tbl := tt_5 (List.mem_of_getElem? (i := 135) rfl)
theorem mc_214 : Cond.code yX11_fewestThatReach cX11_fewestThatReach 10 (some .int) ∈ lw_tbl := tt_5 (List.mem_of_getElem? (i := 131) rfl)
theorem mc_215 : Cond.code yX11_mostNested cX11_mostNested 6 (some .int) ∈ lw_tbl := tt_5 (List.mem_of_getElem? (i := 149) rfl)
theorem mc_216 : Cond.code yX11_bowlCan cX11_bowlCan 5 (some .boolean) ∈ lw_tbl := tt_6 (List.mem_of_getElem? (i := 20) rfl)
theorem mc_217 : Cond.code yX11_isClosed cX11_isClosed 8 (some .boolean) ∈ lw_tbl := tt_6 (List.mem_of_getElem? (i := 127) rfl)
theorem mc_218 : Cond.code yX11_bordersThatClose cX11_bordersThatClose 12 (some .int) ∈ lw_tbl := tt_6 (List.mem_of_getElem? (i := 135) rfl)
theorem mc_219 : Cond.code yX11_nextMoves cX11_nextMoves 4 (some .boolean) ∈ lw_tbl := tt_6 (List.mem_of_getElem? (i := 142) rfl)
theorem mc_220 : Cond.code yX11_drawn cX11_drawn 1 (some .int) ∈ lw_tbl := tt_4 (List.mem_of_getElem? (i := 196) rfl)
theorem mc_221 : Cond.code yX11_maskOf cX11_maskOf 1 (some .int) ∈ lw_tbl := tt_4 (List.mem_of_getElem? (i := 129) rfl)
theorem mc_222 : Cond.code yX11_turned cX11_turned 4 (some .int) ∈ lw_tbl := tt_4 (List.mem_of_getElem? (i := 125) rfl)
theorem mc_223 : Cond.code yX11_mirrored cX11_mirrored 4 (some .int) ∈ lw_tbl := tt_4 (List.mem_of_getElem? (i := 122) rfl)
theorem mc_224 : Cond.code yX12_no cX12_no 2 (some .int) ∈ lw_tbl := tt_7 (List.mem_of_getElem? (i := 129) rfl)
theorem mc_225 : Cond.code yX12_within cX12_within 6 (some .boolean) ∈ lw_tbl := tt_7 (List.mem_of_getElem? (i := 136) rfl)
theorem mc_226 : Cond.code yX12_init cX12_init 2 none ∈ lw_tbl := tt_7 (List.mem_of_getElem? (i := 3) rfl)
theorem mc_227 : Cond.code yX12_plain cX12_plain 2 none ∈ lw_tbl := tt_7 (List.mem_of_getElem? (i := 8) rfl)
theorem mc_228 : Cond.code yX12_feed cX12_feed 8 (some .int) ∈ lw_tbl := tt_7 (List.mem_of_getElem? (i := 125) rfl)
theorem mc_229 : Cond.code yX12_see cX12_see 2 (some .int) ∈ lw_tbl := tt_7 (List.mem_of_getElem? (i := 144) rfl)
theorem mc_230 : Cond.code yX12_isSmall cX12_isSmall 1 (some .boolean) ∈ lw_tbl := tt_7 (List.mem_of_getElem? (i := 147) rfl)
theorem mc_231 : Cond.code yX12_isDigit cX12_isDigit 1 (some .boolean) ∈ lw_tbl := tt_7 (List.mem_of_getElem? (i := 157) rfl)
theorem mc_232 : Cond.code yX12_keyAt cX12_keyAt 4 (some .int) ∈ lw_tbl := tt_7 (List.mem_of_getElem? (i := 151) rfl)
theorem mc_233 : Cond.code yX12_next cX12_next 1 none ∈ lw_tbl := tt_7 (List.mem_of_getElem? (i := 140) rfl)
theorem mc_234 : Cond.code yX12_fails cX12_fails 2 none ∈ lw_tbl := tt_7 (List.mem_of_getElem? (i := 173) rfl)
theorem mc_235 : Cond.code yX12_is cX12_is 2 (some .boolean) ∈ lw_tbl := tt_7 (List.mem_of_getElem? (i := 165) rfl)
theorem mc_236 : Cond.code yX12_eats cX12_eats 2 (some .boolean) ∈ lw_tbl := tt_7 (List.mem_of_getElem? (i := 189) rfl)
theorem mc_237 : Cond.code yX12_needs cX12_needs 2 none ∈ lw_tbl := tt_7 (List.mem_of_getElem? (i := 185) rfl)
theorem mc_238 : Cond.code yX12_takes cX12_takes 4 (some .int) ∈ lw_tbl := tt_7 (List.mem_of_getElem? (i := 177) rfl)
theorem mc_239 : Cond.code yX12_readStakes cX12_readStakes 1 none ∈ lw_tbl := tt_7 (List.mem_of_getElem? (i := 169) rfl)
theorem mc_240 : Cond.code yX12_readRod cX12_readRod 2 none ∈ lw_tbl := tt_7 (List.mem_of_getElem? (i := 181) rfl)
theorem mc_241 : Cond.code yX12_readBand cX12_readBand 4 none ∈ lw_tbl := tt_7 (List.mem_of_getElem? (i := 193) rfl)
theorem mc_242 : Cond.code yX12_readSlip cX12_readSlip 5 none ∈ lw_tbl := tt_7 (List.mem_of_getElem? (i := 197) rfl)
theorem mc_243 : Cond.code yX12_readLine cX12_readLine 1 none ∈ lw_tbl := tt_7 (List.mem_of_getElem? (i := 161) rfl)
theorem mc_244 : Cond.code yX12_basket cX12_basket 3 (some .int) ∈ lw_tbl := tt_7 (List.mem_of_getElem? (i := 133) rfl)
theorem mc_245 : Cond.code yX12_fault cX12_fault 2 (some .int) ∈ lw_tbl := tt_7 (List.mem_of_getElem? (i := 201) rfl)
theorem mc_246 : Cond.code yX12_isKind cX12_isKind 2 (some .boolean) ∈ lw_tbl := tt_7 (List.mem_of_getElem? (i := 209) rfl)
theorem mc_247 : Cond.code yX12_isBand cX12_isBand 2 (some .boolean) ∈ lw_tbl := tt_7 (List.mem_of_getElem? (i := 218) rfl)
theorem mc_248 : Cond.code yX12_rod cX12_rod 3 (some .int) ∈ lw_tbl := tt_7 (List.mem_of_getElem? (i := 205) rfl)
theorem mc_249 : Cond.code yX12_slipsOf cX12_slipsOf 4 (some .int) ∈ lw_tbl := tt_7 (List.mem_of_getElem? (i := 224) rfl)
theorem mc_250 : Cond.code yX12_band cX12_band 3 (some .int) ∈ lw_tbl := tt_7 (List.mem_of_getElem? (i := 214) rfl)
theorem mc_251 : Cond.code yX12_lean cX12_lean 2 (some .int) ∈ lw_tbl := tt_7 (List.mem_of_getElem? (i := 228) rfl)
theorem mc_252 : Cond.code yX12_crossingsOf cX12_crossingsOf 2 (some .int) ∈ lw_tbl := tt_8 (List.mem_of_getElem? (i := 0) rfl)
theorem mc_253 : Cond.code yX12_round cX12_round 3 (some .int) ∈ lw_tbl := tt_8 (List.mem_of_getElem? (i := 24) rfl)
theorem mc_254 : Cond.code yX12_stakeAt cX12_stakeAt 4 (some .int) ∈ lw_tbl := tt_8 (List.mem_of_getElem? (i := 21) rfl)
theorem mc_255 : Cond.code yX12_placeIn cX12_placeIn 6 (some .int) ∈ lw_tbl := tt_8 (List.mem_of_getElem? (i := 32) rfl)
theorem mc_256 : Cond.code yX12_isOver cX12_isOver 4 (some .boolean) ∈ lw_tbl := tt_8 (List.mem_of_getElem? (i := 28) rfl)
theorem mc_257 : Cond.code yX12_allAhead cX12_allAhead 4 (some .int) ∈ lw_tbl := tt_8 (List.mem_of_getElem? (i := 40) rfl)
theorem mc_258 : Cond.code yX12_when cX12_when 4 (some .int) ∈ lw_tbl := tt_8 (List.mem_of_getElem? (i := 36) rfl)
theorem mc_259 : Cond.code yX12_stepOf cX12_stepOf 3 (some .int) ∈ lw_tbl := tt_8 (List.mem_of_getElem? (i := 13) rfl)
theorem mc_260 : Cond.code yX12_rodsFor cX12_rodsFor 5 (some .int) ∈ lw_tbl := tt_8 (List.mem_of_getElem? (i := 17) rfl)
theorem mc_261 : Cond.code yX12_kindOf cX12_kindOf 3 (some .int) ∈ lw_tbl := tt_8 (List.mem_of_getElem? (i := 9) rfl)
theorem mc_262 : Cond.code yX12_rodAt cX12_rodAt 6 (some .int) ∈ lw_tbl := tt_8 (List.mem_of_getElem? (i := 5) rfl)
theorem mc_263 : Cond.code yX12_isCrossing cX12_isCrossing 4 (some .boolean) ∈ lw_tbl := tt_7 (List.mem_of_getElem? (i := 236) rfl)
theorem mc_264 : Cond.code yX12_crossing cX12_crossing 6 (some .int) ∈ lw_tbl := tt_7 (List.mem_of_getElem? (i := 232) rfl)
theorem mc_265 : Cond.code yX12_indexAt cX12_indexAt 6 (some .int) ∈ lw_tbl := tt_8 (List.mem_of_getElem? (i := 56) rfl)
theorem mc_266 : Cond.code yX12_isStake cX12_isStake 2 (some .boolean) ∈ lw_tbl := tt_8 (List.mem_of_getElem? (i := 48) rfl)
theorem mc_267 : Cond.code yX12_isOverIn cX12_isOverIn 5 (some .boolean) ∈ lw_tbl := tt_8 (List.mem_of_getElem? (i := 52) rfl)
theorem mc_268 : Cond.code yX12_seen cX12_seen 5 (some .int) ∈ lw_tbl := tt_8 (List.mem_of_getElem? (i := 44) rfl)
theorem mc_269 : Cond.code yX12_overs cX12_overs 5 (some .int) ∈ lw_tbl := tt_8 (List.mem_of_getElem? (i := 60) rfl)
theorem mc_270 : Cond.code yX12_run cX12_run 8 (some .int) ∈ lw_tbl := tt_8 (List.mem_of_getElem? (i := 64) rfl)
theorem mc_271 : Cond.code yX12_common cX12_common 5 (some .int) ∈ lw_tbl := tt_8 (List.mem_of_getElem? (i := 74) rfl)
theorem mc_272 : Cond.code yX12_step cX12_step 7 (some .int) ∈ lw_tbl := tt_8 (List.mem_of_getElem? (i := 68) rfl)
theorem mc_273 : Cond.code yX12_counts cX12_counts 8 (some .int) ∈ lw_tbl := tt_8 (List.mem_of_getElem? (i := 78) rfl)
theorem mc_274 : Cond.code yX12_total cX12_total 1 (some .int) ∈ lw_tbl := tt_8 (List.mem_of_getElem? (i := 82) rfl)
theorem mc_275 : Cond.code yX12_undo cX12_undo 5 (some .int) ∈ lw_tbl := tt_8 (List.mem_of_getElem? (i := 86) rfl)
theorem mc_276 : Cond.code yX12_mend cX12_mend 7 (some .int) ∈ lw_tbl := tt_8 (List.mem_of_getElem? (i := 90) rfl)
theorem mc_277 : Cond.code yX12_seamOf cX12_seamOf 4 (some .int) ∈ lw_tbl := tt_8 (List.mem_of_getElem? (i := 98) rfl)
theorem mc_278 : Cond.code yX12_seam cX12_seam 2 (some .int) ∈ lw_tbl := tt_8 (List.mem_of_getElem? (i := 94) rfl)
theorem mc_279 : Cond.code yX12_turn cX12_turn 7 (some .int) ∈ lw_tbl := tt_8 (List.mem_of_getElem? (i := 102) rfl)
theorem mc_280 : Cond.code yX12_spiral cX12_spiral 7 (some .int) ∈ lw_tbl := tt_8 (List.mem_of_getElem? (i := 106) rfl)
theorem mc_281 : Cond.code yX12_isRowAlike cX12_isRowAlike 5 (some .boolean) ∈ lw_tbl := tt_8 (List.mem_of_getElem? (i := 114) rfl)
theorem mc_282 : Cond.code yX12_repeats cX12_repeats 6 (some .int) ∈ lw_tbl := tt_8 (List.mem_of_getElem? (i := 110) rfl)
theorem mc_283 : Cond.code yX12_colour cX12_colour 9 (some .int) ∈ lw_tbl := tt_8 (List.mem_of_getElem? (i := 118) rfl)
theorem mc_284 : Cond.code yX12_floats cX12_floats 7 (some .int) ∈ lw_tbl := tt_8 (List.mem_of_getElem? (i := 122) rfl)
theorem mc_285 : Cond.code yX12_learner cX12_learner 13 (some .int) ∈ lw_tbl := tt_8 (List.mem_of_getElem? (i := 127) rfl)
theorem mc_286 : Cond.code yX12_readsPicture cX12_readsPicture 8 (some .int) ∈ lw_tbl := tt_8 (List.mem_of_getElem? (i := 137) rfl)
theorem mc_287 : Cond.code yX12_wish cX12_wish 2 (some .int) ∈ lw_tbl := tt_8 (List.mem_of_getElem? (i := 133) rfl)
theorem mc_288 : Cond.code yX12_print cX12_print 2 (some .int) ∈ lw_tbl := tt_8 (List.mem_of_getElem? (i := 141) rfl)
theorem mc_289 : Cond.code yX12_strokeOver cX12_strokeOver 6 (some .boolean) ∈ lw_tbl := tt_8 (List.mem_of_getElem? (i := 158) rfl)
theorem mc_290 : Cond.code yX12_makes cX12_makes 4 (some .boolean) ∈ lw_tbl := tt_8 (List.mem_of_getElem? (i := 154) rfl)
theorem mc_291 : Cond.code yX12_mistakes cX12_mistakes 6 (some .int) ∈ lw_tbl := tt_8 (List.mem_of_getElem? (i := 174) rfl)
theorem mc_292 : Cond.code yX12_nextStroke cX12_nextStroke 1 (some .boolean) ∈ lw_tbl := tt_8 (List.mem_of_getElem? (i := 166) rfl)
theorem mc_293 : Cond.code yX12_firstStroke cX12_firstStroke 1 none ∈ lw_tbl := tt_8 (List.mem_of_getElem? (i := 150) rfl)
theorem mc_294 : Cond.code yX12_keepsStroke cX12_keepsStroke 2 none ∈ lw_tbl := tt_8 (List.mem_of_getElem? (i := 162) rfl)
theorem mc_295 : Cond.code yX12_find cX12_find 4 (some .int) ∈ lw_tbl := tt_8 (List.mem_of_getElem? (i := 145) rfl)
theorem mc_296 : Cond.code yX12_reads cX12_reads 5 (some .int) ∈ lw_tbl := tt_8 (List.mem_of_getElem? (i := 170) rfl)
theorem mc_297 : Cond.code yX12_nearest cX12_nearest 6 (some .int) ∈ lw_tbl := tt_8 (List.mem_of_getElem? (i := 178) rfl)
theorem mc_298 : Cond.code yX12_rodsOf cX12_rodsOf 5 (some .int) ∈ lw_tbl := tt_8 (List.mem_of_getElem? (i := 186) rfl)
theorem mc_299 : Cond.code yX12_rods cX12_rods 2 (some .int) ∈ lw_tbl := tt_8 (List.mem_of_getElem? (i := 182) rfl)
theorem mc_300 : Cond.code yX12_waste cX12_waste 6 (some .int) ∈ lw_tbl := tt_8 (List.mem_of_getElem? (i := 190) rfl)
theorem mc_301 : Cond.code yX12_cost cX12_cost 3 (some .int) ∈ lw_tbl := tt_8 (List.mem_of_getElem? (i := 194) rfl)
theorem mc_302 : Cond.code yX12_cheaper cX12_cheaper 6 (some .int) ∈ lw_tbl := tt_8 (List.mem_of_getElem? (i := 198) rfl)
theorem mc_303 : Cond.code yX12_joinsOf cX12_joinsOf 7 (some .int) ∈ lw_tbl := tt_8 (List.mem_of_getElem? (i := 206) rfl)
theorem mc_304 : Cond.code yX12_joins cX12_joins 3 (some .int) ∈ lw_tbl := tt_8 (List.mem_of_getElem? (i := 202) rfl)
theorem mc_305 : Cond.code yX12_hide cX12_hide 8 (some .int) ∈ lw_tbl := tt_8 (List.mem_of_getElem? (i := 210) rfl)
theorem mc_306 : Cond.code yX12_areNumbers cX12_areNumbers 5 (some .boolean) ∈ lw_tbl := tt_8 (List.mem_of_getElem? (i := 218) rfl)
theorem mc_307 : Cond.code yX12_reach cX12_reach 11 (some .int) ∈ lw_tbl := tt_8 (List.mem_of_getElem? (i := 214) rfl)
theorem mc_308 : Cond.code yX12_nest cX12_nest 12 (some .int) ∈ lw_tbl := tt_8 (List.mem_of_getElem? (i := 222) rfl)
theorem mc_309 : Cond.code yX12_plait cX12_plait 10 (some .int) ∈ lw_tbl := tt_8 (List.mem_of_getElem? (i := 228) rfl)
theorem mc_310 : Cond.code yX12_offOf cX12_offOf 6 (some .int) ∈ lw_tbl := tt_9 (List.mem_of_getElem? (i := 4) rfl)
theorem mc_311 : Cond.code yX12_puts cX12_puts 5 none ∈ lw_tbl := tt_9 (List.mem_of_getElem? (i := 0) rfl)
theorem mc_312 : Cond.code yX12_even cX12_even 4 (some .int) ∈ lw_tbl := tt_8 (List.mem_of_getElem? (i := 233) rfl)
theorem mc_313 : Cond.code yX12_heightOf cX12_heightOf 5 (some .int) ∈ lw_tbl := tt_9 (List.mem_of_getElem? (i := 12) rfl)
theorem mc_314 : Cond.code yX12_height cX12_height 5 (some .int) ∈ lw_tbl := tt_9 (List.mem_of_getElem? (i := 8) rfl)
theorem mc_315 : Cond.code yX12_loose cX12_loose 5 (some .int) ∈ lw_tbl := tt_9 (List.mem_of_getElem? (i := 16) rfl)
theorem mc_316 : Cond.code yX12_holdOf cX12_holdOf 6 (some .int) ∈ lw_tbl := tt_9 (List.mem_of_getElem? (i := 24) rfl)
theorem mc_317 : Cond.code yX12_hold cX12_hold 2 (some .int) ∈ lw_tbl := tt_9 (List.mem_of_getElem? (i := 20) rfl)
theorem mc_318 : Cond.code yX12_gives cX12_gives 4 (some .int) ∈ lw_tbl := tt_9 (List.mem_of_getElem? (i := 28) rfl)
theorem mc_319 : Cond.code yX12_atLeastOne cX12_atLeastOne 1 (some .int) ∈ lw_tbl := tt_9 (List.mem_of_getElem? (i := 35) rfl)
theorem mc_320 : Cond.code yX12_width cX12_width 4 (some .int) ∈ lw_tbl := tt_9 (List.mem_of_getElem? (i := 32) rfl)
theorem mc_321 : Cond.code yX12_offAt cX12_offAt 4 (some .int) ∈ lw_tbl := tt_9 (List.mem_of_getElem? (i := 51) rfl)
theorem mc_322 : Cond.code yX12_offBy cX12_offBy 7 (some .int) ∈ lw_tbl := tt_9 (List.mem_of_getElem? (i := 59) rfl)
theorem mc_323 : Cond.code yX12_leastBy cX12_leastBy 9 (some .int) ∈ lw_tbl := tt_9 (List.mem_of_getElem? (i := 55) rfl)
theorem mc_324 : Cond.code yX12_isBowl cX12_isBowl 5 (some .boolean) ∈ lw_tbl := tt_9 (List.mem_of_getElem? (i := 43) rfl)
theorem mc_325 : Cond.code yX12_mostAhead cX12_mostAhead 4 (some .int) ∈ lw_tbl := tt_9 (List.mem_of_getElem? (i := 47) rfl)
theorem mc_326 : Cond.code yX12_bowl cX12_bowl 10 (some .int) ∈ lw_tbl := tt_9 (List.mem_of_getElem? (i := 39) rfl)
theorem mc_327 : Cond.code yX12_wander cX12_wander 9 (some .int) ∈ lw_tbl := tt_9 (List.mem_of_getElem? (i := 63) rfl)
theorem mc_328 : Cond.code yX12_closesBy cX12_closesBy 6 (some .boolean) ∈ lw_tbl := tt_9 (List.mem_of_getElem? (i := 71) rfl)
theorem mc_329 : Cond.code yX12_closes cX12_closes 3 (some .int) ∈ lw_tbl := tt_9 (List.mem_of_getElem? (i := 67) rfl)
theorem mc_330 : Cond.code yX12_border cX12_border 12 (some .int) ∈ lw_tbl := tt_9 (List.mem_of_getElem? (i := 75) rfl)
theorem mc_331 : Cond.code yX12_ways cX12_ways 4 (some .int) ∈ lw_tbl := tt_9 (List.mem_of_getElem? (i := 80) rfl)
theorem mc_332 : Cond.code yX12_bitsOf cX12_bitsOf 3 (some .int) ∈ lw_tbl := tt_9 (List.mem_of_getElem? (i := 92) rfl)
theorem mc_333 : Cond.code yX12_teaches cX12_teaches 9 (some .int) ∈ lw_tbl := tt_9 (List.mem_of_getElem? (i := 89) rfl)
theorem mc_334 : Cond.code yX12_taught cX12_taught 3 (some .int) ∈ lw_tbl := tt_9 (List.mem_of_getElem? (i := 85) rfl)
theorem mc_335 : Cond.code yX12_dried cX12_dried 3 (some .int) ∈ lw_tbl := tt_9 (List.mem_of_getElem? (i := 101) rfl)
theorem mc_336 : Cond.code yX12_lid cX12_lid 11 (some .int) ∈ lw_tbl := tt_9 (List.mem_of_getElem? (i := 96) rfl)
theorem mc_337 : Cond.code yX12_cut cX12_cut 3 (some .long) ∈ lw_tbl := tt_9 (List.mem_of_getElem? (i := 113) rfl)
theorem mc_338 : Cond.code yX12_numbers cX12_numbers 5 (some .int) ∈ lw_tbl := tt_9 (List.mem_of_getElem? (i := 105) rfl)
theorem mc_339 : Cond.code yX12_write cX12_write 5 (some .long) ∈ lw_tbl := tt_9 (List.mem_of_getElem? (i := 110) rfl)
theorem mc_340 : Cond.code yX12_copy cX12_copy 6 (some .int) ∈ lw_tbl := tt_9 (List.mem_of_getElem? (i := 117) rfl)
theorem mc_341 : Cond.code yX12_image cX12_image 3 (some .int) ∈ lw_tbl := tt_9 (List.mem_of_getElem? (i := 121) rfl)
theorem mc_342 : Cond.code yX12_restore cX12_restore 3 (some .int) ∈ lw_tbl := tt_9 (List.mem_of_getElem? (i := 125) rfl)
theorem mc_343 : Cond.code yX12_status cX12_status 2 (some .int) ∈ lw_tbl := tt_9 (List.mem_of_getElem? (i := 129) rfl)
theorem mc_344 : Cond.code yX12_count cX12_count 2 (some .int) ∈ lw_tbl := tt_9 (List.mem_of_getElem? (i := 133) rfl)
theorem mc_345 : Cond.code yJ6_bitCount_0f7a4 cJ6_bitCount_0f7a4 1 (some .int) ∈ lw_tbl := tt_4 (List.mem_of_getElem? (i := 132) rfl)
theorem mc_346 : Cond.code yJ9_floorMod_7cf53 cJ9_floorMod_7cf53 3 (some .int) ∈ lw_tbl := tt_3 (List.mem_of_getElem? (i := 224) rfl)
theorem mc_347 : Cond.code yJ7_rangeCheck_23922 cJ7_rangeCheck_23922 3 none ∈ lw_tbl := tt_6 (List.mem_of_getElem? (i := 71) rfl)
theorem mc_348 : Cond.code yJ7_fill_d0a16 cJ7_fill_d0a16 5 none ∈ lw_tbl := tt_6 (List.mem_of_getElem? (i := 195) rfl)
theorem mc_349 : Cond.code yJ7_fill_bad5a cJ7_fill_bad5a 6 none ∈ lw_tbl := tt_6 (List.mem_of_getElem? (i := 68) rfl)
theorem mc_350 : Cond.code yJ7_fill_53178 cJ7_fill_53178 4 none ∈ lw_tbl := tt_1 (List.mem_of_getElem? (i := 219) rfl)
theorem mc_351 : Cond.code yJ7_fill_fda19 cJ7_fill_fda19 5 none ∈ lw_tbl := tt_6 (List.mem_of_getElem? (i := 138) rfl)
set_option maxRecDepth 20000 in
theorem mcs_0 : ∀ q ∈ MT_0, Cond.code q.1.1 q.1.2.1 q.1.2.2.1 q.1.2.2.2 ∈ lw_tbl := List.forall_mem_cons.mpr ⟨mc_0, List.forall_mem_cons.mpr ⟨mc_1, List.forall_mem_cons.mpr ⟨mc_2, List.forall_mem_cons.mpr ⟨mc_3, List.forall_mem_cons.mpr ⟨mc_4, List.forall_mem_cons.mpr ⟨mc_5, List.forall_mem_cons.mpr ⟨mc_6, List.forall_mem_cons.mpr ⟨mc_7, List.forall_mem_cons.mpr ⟨mc_8, List.forall_mem_cons.mpr ⟨mc_9, List.forall_mem_cons.mpr ⟨mc_10, List.forall_mem_cons.mpr ⟨mc_11, List.forall_mem_cons.mpr ⟨mc_12, List.forall_mem_cons.mpr ⟨mc_13, List.forall_mem_cons.mpr ⟨mc_14, List.forall_mem_cons.mpr ⟨mc_15, List.forall_mem_cons.mpr ⟨mc_16, List.forall_mem_cons.mpr ⟨mc_17, List.forall_mem_cons.mpr ⟨mc_18, List.forall_mem_cons.mpr ⟨mc_19, List.forall_mem_cons.mpr ⟨mc_20, List.forall_mem_cons.mpr ⟨mc_21, List.forall_mem_cons.mpr ⟨mc_22, List.forall_mem_cons.mpr ⟨mc_23, List.forall_mem_cons.mpr ⟨mc_24, List.forall_mem_cons.mpr ⟨mc_25, List.forall_mem_cons.mpr ⟨mc_26, List.forall_mem_cons.mpr ⟨mc_27, List.forall_mem_cons.mpr ⟨mc_28, List.forall_mem_cons.mpr ⟨mc_29, List.forall_mem_cons.mpr ⟨mc_30, List.forall_mem_cons.mpr ⟨mc_31, List.forall_mem_cons.mpr ⟨mc_32, List.forall_mem_cons.mpr ⟨mc_33, List.forall_mem_cons.mpr ⟨mc_34, List.forall_mem_cons.mpr ⟨mc_35, List.forall_mem_cons.mpr ⟨mc_36, List.forall_mem_cons.mpr ⟨mc_37, List.forall_mem_cons.mpr ⟨mc_38, List.forall_mem_cons.mpr ⟨mc_39, List.forall_mem_cons.mpr ⟨mc_40, List.forall_mem_cons.mpr ⟨mc_41, List.forall_mem_cons.mpr ⟨mc_42, List.forall_mem_cons.mpr ⟨mc_43, List.forall_mem_cons.mpr ⟨mc_44, List.forall_mem_cons.mpr ⟨mc_45, List.forall_mem_cons.mpr ⟨mc_46, List.forall_mem_cons.mpr ⟨mc_47, List.forall_mem_cons.mpr ⟨mc_48, List.forall_mem_cons.mpr ⟨mc_49, List.forall_mem_cons.mpr ⟨mc_50, List.forall_mem_cons.mpr ⟨mc_51, List.forall_mem_cons.mpr ⟨mc_52, List.forall_mem_cons.mpr ⟨mc_53, List.forall_mem_cons.mpr ⟨mc_54, List.forall_mem_cons.mpr ⟨mc_55, List.forall_mem_cons.mpr ⟨mc_56, List.forall_mem_cons.mpr ⟨mc_57, List.forall_mem_cons.mpr ⟨mc_58, List.forall_mem_cons.mpr ⟨mc_59, fun _ h => absurd h List.not_mem_nil⟩⟩⟩⟩⟩⟩⟩⟩⟩⟩⟩⟩⟩⟩⟩⟩⟩⟩⟩⟩⟩⟩⟩⟩⟩⟩⟩⟩⟩⟩⟩⟩⟩⟩⟩⟩⟩⟩⟩⟩⟩⟩⟩⟩⟩⟩⟩⟩⟩⟩⟩⟩⟩⟩⟩⟩⟩⟩⟩⟩
set_option maxRecDepth 20000 in
theorem mcs_1 : ∀ q ∈ MT_1, Cond.code q.1.1 q.1.2.1 q.1.2.2.1 q.1.2.2.2 ∈ lw_tbl := List.forall_mem_cons.mpr ⟨mc_60, List.forall_mem_cons.mpr ⟨mc_61, List.forall_mem_cons.mpr ⟨mc_62, List.forall_mem_cons.mpr ⟨mc_63, List.forall_mem_cons.mpr ⟨mc_64, List.forall_mem_cons.mpr ⟨mc_65, List.forall_mem_cons.mpr ⟨mc_66, List.forall_mem_cons.mpr ⟨mc_67, List.forall_mem_cons.mpr ⟨mc_68, List.forall_mem_cons.mpr ⟨mc_69, List.forall_mem_cons.mpr ⟨mc_70, List.forall_mem_cons.mpr ⟨mc_71, List.forall_mem_cons.mpr ⟨mc_72, List.forall_mem_cons.mpr ⟨mc_73, List.forall_mem_cons.mpr ⟨mc_74, List.forall_mem_cons.mpr ⟨mc_75, List.forall_mem_cons.mpr ⟨mc_76, List.forall_mem_cons.mpr ⟨mc_77, List.forall_mem_cons.mpr ⟨mc_78, List.forall_mem_cons.mpr ⟨mc_79, List.forall_mem_cons.mpr ⟨mc_80, List.forall_mem_cons.mpr ⟨mc_81, List.forall_mem_cons.mpr ⟨mc_82, List.forall_mem_cons.mpr ⟨mc_83, List.forall_mem_cons.mpr ⟨mc_84, List.forall_mem_cons.mpr ⟨mc_85, List.forall_mem_cons.mpr ⟨mc_86, List.forall_mem_cons.mpr ⟨mc_87, List.forall_mem_cons.mpr ⟨mc_88, List.forall_mem_cons.mpr ⟨mc_89, List.forall_mem_cons.mpr ⟨mc_90, List.forall_mem_cons.mpr ⟨mc_91, List.forall_mem_cons.mpr ⟨mc_92, List.forall_mem_cons.mpr ⟨mc_93, List.forall_mem_cons.mpr ⟨mc_94, List.forall_mem_cons.mpr ⟨mc_95, List.forall_mem_cons.mpr ⟨mc_96, List.forall_mem_cons.mpr ⟨mc_97, List.forall_mem_cons.mpr ⟨mc_98, List.forall_mem_cons.mpr ⟨mc_99, List.forall_mem_cons.mpr ⟨mc_100, List.forall_mem_cons.mpr ⟨mc_101, List.forall_mem_cons.mpr ⟨mc_102, List.forall_mem_cons.mpr ⟨mc_103, List.forall_mem_cons.mpr ⟨mc_104, List.forall_mem_cons.mpr ⟨mc_105, List.forall_mem_cons.mpr ⟨mc_106, List.forall_mem_cons.mpr ⟨mc_107, List.forall_mem_cons.mpr ⟨mc_108, List.forall_mem_cons.mpr ⟨mc_109, List.forall_mem_cons.mpr ⟨mc_110, List.forall_mem_cons.mpr ⟨mc_111, List.forall_mem_cons.mpr ⟨mc_112, List.forall_mem_cons.mpr ⟨mc_113, List.forall_mem_cons.mpr ⟨mc_114, List.forall_mem_cons.mpr ⟨mc_115, List.forall_mem_cons.mpr ⟨mc_116, List.forall_mem_cons.mpr ⟨mc_117, List.forall_mem_cons.mpr ⟨mc_118, List.forall_mem_cons.mpr ⟨mc_119, fun _ h => absurd h List.not_mem_nil⟩⟩⟩⟩⟩⟩⟩⟩⟩⟩⟩⟩⟩⟩⟩⟩⟩⟩⟩⟩⟩⟩⟩⟩⟩⟩⟩⟩⟩⟩⟩⟩⟩⟩⟩⟩⟩⟩⟩⟩⟩⟩⟩⟩⟩⟩⟩⟩⟩⟩⟩⟩⟩⟩⟩⟩⟩⟩⟩⟩
set_option maxRecDepth 20000 in
theorem mcs_2 : ∀ q ∈ MT_2, Cond.code q.1.1 q.1.2.1 q.1.2.2.1 q.1.2.2.2 ∈ lw_tbl := List.forall_mem_cons.mpr ⟨mc_120, List.forall_mem_cons.mpr ⟨mc_121, List.forall_mem_cons.mpr ⟨mc_122, List.forall_mem_cons.mpr ⟨mc_123, List.forall_mem_cons.mpr ⟨mc_124, List.forall_mem_cons.mpr ⟨mc_125, List.forall_mem_cons.mpr ⟨mc_126, List.forall_mem_cons.mpr ⟨mc_127, List.forall_mem_cons.mpr ⟨mc_128, List.forall_mem_cons.mpr ⟨mc_129, List.forall_mem_cons.mpr ⟨mc_130, List.forall_mem_cons.mpr ⟨mc_131, List.forall_mem_cons.mpr ⟨mc_132, List.forall_mem_cons.mpr ⟨mc_133, List.forall_mem_cons.mpr ⟨mc_134, List.forall_mem_cons.mpr ⟨mc_135, List.forall_mem_cons.mpr ⟨mc_136, List.forall_mem_cons.mpr ⟨mc_137, List.forall_mem_cons.mpr ⟨mc_138, List.forall_mem_cons.mpr ⟨mc_139, List.forall_mem_cons.mpr ⟨mc_140, List.forall_mem_cons.mpr ⟨mc_141, List.forall_mem_cons.mpr ⟨mc_142, List.forall_mem_cons.mpr ⟨mc_143, List.forall_mem_cons.mpr ⟨mc_144, List.forall_mem_cons.mpr ⟨mc_145, List.forall_mem_cons.mpr ⟨mc_146, List.forall_mem_cons.mpr ⟨mc_147, List.forall_mem_cons.mpr ⟨mc_148, List.forall_mem_cons.mpr ⟨mc_149, List.forall_mem_cons.mpr ⟨mc_150, List.forall_mem_cons.mpr ⟨mc_151, List.forall_mem_cons.mpr ⟨mc_152, List.forall_mem_cons.mpr ⟨mc_153, List.forall_mem_cons.mpr ⟨mc_154, List.forall_mem_cons.mpr ⟨mc_155, List.forall_mem_cons.mpr ⟨mc_156, List.forall_mem_cons.mpr ⟨mc_157, List.forall_mem_cons.mpr ⟨mc_158, List.forall_mem_cons.mpr ⟨mc_159, List.forall_mem_cons.mpr ⟨mc_160, List.forall_mem_cons.mpr ⟨mc_161, List.forall_mem_cons.mpr ⟨mc_162, List.forall_mem_cons.mpr ⟨mc_163, List.forall_mem_cons.mpr ⟨mc_164, List.forall_mem_cons.mpr ⟨mc_165, List.forall_mem_cons.mpr ⟨mc_166, List.forall_mem_cons.mpr ⟨mc_167, List.forall_mem_cons.mpr ⟨mc_168, List.forall_mem_cons.mpr ⟨mc_169, List.forall_mem_cons.mpr ⟨mc_170, List.forall_mem_cons.mpr ⟨mc_171, List.forall_mem_cons.mpr ⟨mc_172, List.forall_mem_cons.mpr ⟨mc_173, List.forall_mem_cons.mpr ⟨mc_174, List.forall_mem_cons.mpr ⟨mc_175, List.forall_mem_cons.mpr ⟨mc_176, List.forall_mem_cons.mpr ⟨mc_177, List.forall_mem_cons.mpr ⟨mc_178, List.forall_mem_cons.mpr ⟨mc_179, fun _ h => absurd h List.not_mem_nil⟩⟩⟩⟩⟩⟩⟩⟩⟩⟩⟩⟩⟩⟩⟩⟩⟩⟩⟩⟩⟩⟩⟩⟩⟩⟩⟩⟩⟩⟩⟩⟩⟩⟩⟩⟩⟩⟩⟩⟩⟩⟩⟩⟩⟩⟩⟩⟩⟩⟩⟩⟩⟩⟩⟩⟩⟩⟩⟩⟩
set_option maxRecDepth 20000 in
theorem mcs_3 : ∀ q ∈ MT_3, Cond.code q.1.1 q.1.2.1 q.1.2.2.1 q.1.2.2.2 ∈ lw_tbl := List.forall_mem_cons.mpr ⟨mc_180, List.forall_mem_cons.mpr ⟨mc_181, List.forall_mem_cons.mpr ⟨mc_182, List.forall_mem_cons.mpr ⟨mc_183, List.forall_mem_cons.mpr ⟨mc_184, List.forall_mem_cons.mpr ⟨mc_185, List.forall_mem_cons.mpr ⟨mc_186, List.forall_mem_cons.mpr ⟨mc_187, List.forall_mem_cons.mpr ⟨mc_188, List.forall_mem_cons.mpr ⟨mc_189, List.forall_mem_cons.mpr ⟨mc_190, List.forall_mem_cons.mpr ⟨mc_191, List.forall_mem_cons.mpr ⟨mc_192, List.forall_mem_cons.mpr ⟨mc_193, List.forall_mem_cons.mpr ⟨mc_194, List.forall_mem_cons.mpr ⟨mc_195, List.forall_mem_cons.mpr ⟨mc_196, List.forall_mem_cons.mpr ⟨mc_197, List.forall_mem_cons.mpr ⟨mc_198, List.forall_mem_cons.mpr ⟨mc_199, List.forall_mem_cons.mpr ⟨mc_200, List.forall_mem_cons.mpr ⟨mc_201, List.forall_mem_cons.mpr ⟨mc_202, List.forall_mem_cons.mpr ⟨mc_203, List.forall_mem_cons.mpr ⟨mc_204, List.forall_mem_cons.mpr ⟨mc_205, List.forall_mem_cons.mpr ⟨mc_206, List.forall_mem_cons.mpr ⟨mc_207, List.forall_mem_cons.mpr ⟨mc_208, List.forall_mem_cons.mpr ⟨mc_209, List.forall_mem_cons.mpr ⟨mc_210, List.forall_mem_cons.mpr ⟨mc_211, List.forall_mem_cons.mpr ⟨mc_212, List.forall_mem_cons.mpr ⟨mc_213, List.forall_mem_cons.mpr ⟨mc_214, List.forall_mem_cons.mpr ⟨mc_215, List.forall_mem_cons.mpr ⟨mc_216, List.forall_mem_cons.mpr ⟨mc_217, List.forall_mem_cons.mpr ⟨mc_218, List.forall_mem_cons.mpr ⟨mc_219, List.forall_mem_cons.mpr ⟨mc_220, List.forall_mem_cons.mpr ⟨mc_221, List.forall_mem_cons.mpr ⟨mc_222, List.forall_mem_cons.mpr ⟨mc_223, List.forall_mem_cons.mpr ⟨mc_224, List.forall_mem_cons.mpr ⟨mc_225, List.forall_mem_cons.mpr ⟨mc_226, List.forall_mem_cons.mpr ⟨mc_227, List.forall_mem_cons.mpr ⟨mc_228, List.forall_mem_cons.mpr ⟨mc_229, List.forall_mem_cons.mpr ⟨mc_230, List.forall_mem_cons.mpr ⟨mc_231, List.forall_mem_cons.mpr ⟨mc_232, List.forall_mem_cons.mpr ⟨mc_233, List.forall_mem_cons.mpr ⟨mc_234, List.forall_mem_cons.mpr ⟨mc_235, List.forall_mem_cons.mpr ⟨mc_236, List.forall_mem_cons.mpr ⟨mc_237, List.forall_mem_cons.mpr ⟨mc_238, List.forall_mem_cons.mpr ⟨mc_239, fun _ h => absurd h List.not_mem_nil⟩⟩⟩⟩⟩⟩⟩⟩⟩⟩⟩⟩⟩⟩⟩⟩⟩⟩⟩⟩⟩⟩⟩⟩⟩⟩⟩⟩⟩⟩⟩⟩⟩⟩⟩⟩⟩⟩⟩⟩⟩⟩⟩⟩⟩⟩⟩⟩⟩⟩⟩⟩⟩⟩⟩⟩⟩⟩⟩⟩
set_option maxRecDepth 20000 in
theorem mcs_4 : ∀ q ∈ MT_4, Cond.code q.1.1 q.1.2.1 q.1.2.2.1 q.1.2.2.2 ∈ lw_tbl := List.forall_mem_cons.mpr ⟨mc_240, List.forall_mem_cons.mpr ⟨mc_241, List.forall_mem_cons.mpr ⟨mc_242, List.forall_mem_cons.mpr ⟨mc_243, List.forall_mem_cons.mpr ⟨mc_244, List.forall_mem_cons.mpr ⟨mc_245, List.forall_mem_cons.mpr ⟨mc_246, List.forall_mem_cons.mpr ⟨mc_247, List.forall_mem_cons.mpr ⟨mc_248, List.forall_mem_cons.mpr ⟨mc_249, List.forall_mem_cons.mpr ⟨mc_250, List.forall_mem_cons.mpr ⟨mc_251, List.forall_mem_cons.mpr ⟨mc_252, List.forall_mem_cons.mpr ⟨mc_253, List.forall_mem_cons.mpr ⟨mc_254, List.forall_mem_cons.mpr ⟨mc_255, List.forall_mem_cons.mpr ⟨mc_256, List.forall_mem_cons.mpr ⟨mc_257, List.forall_mem_cons.mpr ⟨mc_258, List.forall_mem_cons.mpr ⟨mc_259, List.forall_mem_cons.mpr ⟨mc_260, List.forall_mem_cons.mpr ⟨mc_261, List.forall_mem_cons.mpr ⟨mc_262, List.forall_mem_cons.mpr ⟨mc_263, List.forall_mem_cons.mpr ⟨mc_264, List.forall_mem_cons.mpr ⟨mc_265, List.forall_mem_cons.mpr ⟨mc_266, List.forall_mem_cons.mpr ⟨mc_267, List.forall_mem_cons.mpr ⟨mc_268, List.forall_mem_cons.mpr ⟨mc_269, List.forall_mem_cons.mpr ⟨mc_270, List.forall_mem_cons.mpr ⟨mc_271, List.forall_mem_cons.mpr ⟨mc_272, List.forall_mem_cons.mpr ⟨mc_273, List.forall_mem_cons.mpr ⟨mc_274, List.forall_mem_cons.mpr ⟨mc_275, List.forall_mem_cons.mpr ⟨mc_276, List.forall_mem_cons.mpr ⟨mc_277, List.forall_mem_cons.mpr ⟨mc_278, List.forall_mem_cons.mpr ⟨mc_279, List.forall_mem_cons.mpr ⟨mc_280, List.forall_mem_cons.mpr ⟨mc_281, List.forall_mem_cons.mpr ⟨mc_282, List.forall_mem_cons.mpr ⟨mc_283, List.forall_mem_cons.mpr ⟨mc_284, List.forall_mem_cons.mpr ⟨mc_285, List.forall_mem_cons.mpr ⟨mc_286, List.forall_mem_cons.mpr ⟨mc_287, List.forall_mem_cons.mpr ⟨mc_288, List.forall_mem_cons.mpr ⟨mc_289, List.forall_mem_cons.mpr ⟨mc_290, List.forall_mem_cons.mpr ⟨mc_291, List.forall_mem_cons.mpr ⟨mc_292, List.forall_mem_cons.mpr ⟨mc_293, List.forall_mem_cons.mpr ⟨mc_294, List.forall_mem_cons.mpr ⟨mc_295, List.forall_mem_cons.mpr ⟨mc_296, List.forall_mem_cons.mpr ⟨mc_297, List.forall_mem_cons.mpr ⟨mc_298, List.forall_mem_cons.mpr ⟨mc_299, fun _ h => absurd h List.not_mem_nil⟩⟩⟩⟩⟩⟩⟩⟩⟩⟩⟩⟩⟩⟩⟩⟩⟩⟩⟩⟩⟩⟩⟩⟩⟩⟩⟩⟩⟩⟩⟩⟩⟩⟩⟩⟩⟩⟩⟩⟩⟩⟩⟩⟩⟩⟩⟩⟩⟩⟩⟩⟩⟩⟩⟩⟩⟩⟩⟩⟩
set_option maxRecDepth 20000 in
theorem mcs_5 : ∀ q ∈ MT_5, Cond.code q.1.1 q.1.2.1 q.1.2.2.1 q.1.2.2.2 ∈ lw_tbl := List.forall_mem_cons.mpr ⟨mc_300, List.forall_mem_cons.mpr ⟨mc_301, List.forall_mem_cons.mpr ⟨mc_302, List.forall_mem_cons.mpr ⟨mc_303, List.forall_mem_cons.mpr ⟨mc_304, List.forall_mem_cons.mpr ⟨mc_305, List.forall_mem_cons.mpr ⟨mc_306, List.forall_mem_cons.mpr ⟨mc_307, List.forall_mem_cons.mpr ⟨mc_308, List.forall_mem_cons.mpr ⟨mc_309, List.forall_mem_cons.mpr ⟨mc_310, List.forall_mem_cons.mpr ⟨mc_311, List.forall_mem_cons.mpr ⟨mc_312, List.forall_mem_cons.mpr ⟨mc_313, List.forall_mem_cons.mpr ⟨mc_314, List.forall_mem_cons.mpr ⟨mc_315, List.forall_mem_cons.mpr ⟨mc_316, List.forall_mem_cons.mpr ⟨mc_317, List.forall_mem_cons.mpr ⟨mc_318, List.forall_mem_cons.mpr ⟨mc_319, List.forall_mem_cons.mpr ⟨mc_320, List.forall_mem_cons.mpr ⟨mc_321, List.forall_mem_cons.mpr ⟨mc_322, List.forall_mem_cons.mpr ⟨mc_323, List.forall_mem_cons.mpr ⟨mc_324, List.forall_mem_cons.mpr ⟨mc_325, List.forall_mem_cons.mpr ⟨mc_326, List.forall_mem_cons.mpr ⟨mc_327, List.forall_mem_cons.mpr ⟨mc_328, List.forall_mem_cons.mpr ⟨mc_329, List.forall_mem_cons.mpr ⟨mc_330, List.forall_mem_cons.mpr ⟨mc_331, List.forall_mem_cons.mpr ⟨mc_332, List.forall_mem_cons.mpr ⟨mc_333, List.forall_mem_cons.mpr ⟨mc_334, List.forall_mem_cons.mpr ⟨mc_335, List.forall_mem_cons.mpr ⟨mc_336, List.forall_mem_cons.mpr ⟨mc_337, List.forall_mem_cons.mpr ⟨mc_338, List.forall_mem_cons.mpr ⟨mc_339, List.forall_mem_cons.mpr ⟨mc_340, List.forall_mem_cons.mpr ⟨mc_341, List.forall_mem_cons.mpr ⟨mc_342, List.forall_mem_cons.mpr ⟨mc_343, List.forall_mem_cons.mpr ⟨mc_344, List.forall_mem_cons.mpr ⟨mc_345, List.forall_mem_cons.mpr ⟨mc_346, List.forall_mem_cons.mpr ⟨mc_347, List.forall_mem_cons.mpr ⟨mc_348, List.forall_mem_cons.mpr ⟨mc_349, List.forall_mem_cons.mpr ⟨mc_350, List.forall_mem_cons.mpr ⟨mc_351, fun _ h => absurd h List.not_mem_nil⟩⟩⟩⟩⟩⟩⟩⟩⟩⟩⟩⟩⟩⟩⟩⟩⟩⟩⟩⟩⟩⟩⟩⟩⟩⟩⟩⟩⟩⟩⟩⟩⟩⟩⟩⟩⟩⟩⟩⟩⟩⟩⟩⟩⟩⟩⟩⟩⟩⟩⟩⟩
theorem mcs : ∀ q ∈ MT, Cond.code q.1.1 q.1.2.1 q.1.2.2.1 q.1.2.2.2 ∈ lw_tbl := List.forall_mem_append.mpr ⟨mcs_0, List.forall_mem_append.mpr ⟨mcs_1, List.forall_mem_append.mpr ⟨mcs_2, List.forall_mem_append.mpr ⟨mcs_3, List.forall_mem_append.mpr ⟨mcs_4, mcs_5⟩⟩⟩⟩⟩
def chM (j : Nat) : Bool := match MT[j]? with
  | some (y, k, c, n) => mC_l.contains j && decide (mN j = y.1) && plainFor y.1 && decide (y.1.cls ≠ "java/lang/invoke/MethodHandle") && decide (y.1.cls ≠ "java/lang/invoke/VarHandle") && decide ((parseMethodDescriptor y.1.desc).map (fun d => d.parameters.length) = some n) && (match k with
    | 0 => mI_l.contains j && mV_l.contains j && decide ((clN c).1 = y.1.cls)
    | 1 => mS_l.contains j
    | 2 => mI_l.contains j && decide (y.1.name = "<init>")
    | _ => false)
  | none => true
theorem chM_0 : ((List.range 60).map (fun j => 0 + j)).all chM = true := by decide +kernel
theorem chM_1 : ((List.range 60).map (fun j => 60 + j)).all chM = true := by decide +kernel
theorem chM_2 : ((List.range 60).map (fun j => 120 + j)).all chM = true := by decide +kernel
theorem chM_3 : ((List.range 60).map (fun j => 180 + j)).all chM = true := by decide +kernel
theorem chM_4 : ((List.range 60).map (fun j => 240 + j)).all chM = true := by decide +kernel
theorem chM_5 : ((List.range 60).map (fun j => 300 + j)).all chM = true := by decide +kernel
theorem chM_6 : ((List.range 60).map (fun j => 360 + j)).all chM = true := by decide +kernel
theorem MT_len : MT.length = 352 := by decide +kernel
theorem chM_of {b : Nat} (h : ((List.range 60).map (fun j => b + j)).all chM = true) {j : Nat} (h1 : b ≤ j) (h2 : j < b + 60) : chM j = true :=
  List.all_eq_true.mp h j (List.mem_map.mpr ⟨j - b, List.mem_range.mpr (by omega), by omega⟩)
theorem chM_all (j : Nat) (hj : j < 352) : chM j = true := by
  by_cases h0 : j < 60
  · exact chM_of chM_0 (by omega) (by omega)
  by_cases h1 : j < 120
  · exact chM_of chM_1 (by omega) (by omega)
  by_cases h2 : j < 180
  · exact chM_of chM_2 (by omega) (by omega)
  by_cases h3 : j < 240
  · exact chM_of chM_3 (by omega) (by omega)
  by_cases h4 : j < 300
  · exact chM_of chM_4 (by omega) (by omega)
  by_cases h5 : j < 360
  · exact chM_of chM_5 (by omega) (by omega)
  omega
theorem mFx {j : Nat} {y : mM} {k c n : Nat} (h : MT[j]? = some (y, k, c, n)) : Cond.code y.1 y.2.1 y.2.2.1 y.2.2.2 ∈ WT ∧ Cond.initialized y.1.cls ∈ WT ∧ mN j = y.1 ∧ plainFor y.1 = true ∧ (y.1.cls ≠ "java/lang/invoke/MethodHandle" ∧ y.1.cls ≠ "java/lang/invoke/VarHandle" ∧ (parseMethodDescriptor y.1.desc).map (fun d => d.parameters.length) = some n) ∧ (k = 1 → Cond.static y.1 ∈ WT) ∧ (k = 0 ∨ k = 2 → Cond.instanceMethod y.1 ∈ WT) ∧ (k = 0 → Cond.selects y.1.cls y.1 y.1 ∈ WT ∧ (clN c).1 = y.1.cls) ∧ (k = 2 → y.1.name = "<init>") := by
  have hj : j < 352 := by
    have := (List.getElem?_eq_some_iff.mp h).1
    rwa [MT_len] at this
  have hc := chM_all j hj
  unfold chM at hc
  rw [h] at hc
  simp only [Bool.and_eq_true, decide_eq_true_eq, List.contains_iff_mem] at hc
  obtain ⟨⟨⟨⟨⟨⟨c1, c2⟩, c3⟩, c4⟩, c5⟩, c6⟩, c7⟩ := hc
  have e1 : Cond.initialized (mN j).cls ∈ WT := mC_ok j c1
  rw [c2] at e1
  refine ⟨WT_of (mcs _ (List.mem_of_getElem? h)) rfl, e1, c2, c3, ⟨c4, c5, c6⟩, fun hk => ?_, fun hk => ?_, fun hk => ?_, fun hk => ?_⟩
  · subst hk
    simp only [List.contains_iff_mem] at c7
    have e2 : Cond.static (mN j) ∈ WT := mS_ok j c7
    rwa [c2] at e2
  · have e2 : Cond.instanceMethod (mN j) ∈ WT := by
      rcases hk with hk | hk
      · subst hk
        simp only [Bool.and_eq_true, decide_eq_true_eq, List.contains_iff_mem] at c7
        exact mI_ok j c7.1.1
      · subst hk
        simp only [Bool.and_eq_true, decide_eq_true_eq, List.contains_iff_mem] at c7
        exact mI_ok j c7.1
    rwa [c2] at e2
  · subst hk
    simp only [Bool.and_eq_true, decide_eq_true_eq, List.contains_iff_mem] at c7
    have e2 : Cond.selects (mN j).cls (mN j) (mN j) ∈ WT := mV_ok j c7.1.2
    rw [c2] at e2
    exact ⟨e2, c7.2⟩
  · subst hk
    simp only [Bool.and_eq_true, decide_eq_true_eq, List.contains_iff_mem] at c7
    exact c7.2
theorem uw_0 : ∀ w ∈ u_ws RX0 TX0 10, w ∈ WT := by
  have h1 : u_ws RX0 TX0 10 = [181, 183, 185, 187, 189, 191, 193, 195, 197, 199].filterMap (fun i => lw_tbl[i]?) := by decide +kernel
  have h2 : (u_ws RX0 TX0 10).all goodWord = true := by decide +kernel
  intro w hw
  have h3 := List.all_eq_true.mp h2 w hw
  rw [h1] at hw
  obtain ⟨i, -, hi⟩ := List.mem_filterMap.mp hw
  exact WT_of (List.mem_of_getElem? hi) h3
theorem uw_1 : ∀ w ∈ u_ws RX1 TX1 17, w ∈ WT := by
  have h1 : u_ws RX1 TX1 17 = [445, 447, 449, 451, 453, 455, 457, 459, 461, 463, 465, 467, 469, 471, 473, 475, 477].filterMap (fun i => lw_tbl[i]?) := by decide +kernel
  have h2 : (u_ws RX1 TX1 17).all goodWord = true := by decide +kernel
  intro w hw
  have h3 := List.all_eq_true.mp h2 w hw
  rw [h1] at hw
  obtain ⟨i, -, hi⟩ := List.mem_filterMap.mp hw
  exact WT_of (List.mem_of_getElem? hi) h3
theorem uw_2 : ∀ w ∈ u_ws RX2 TX2 6, w ∈ WT := by
  have h1 : u_ws RX2 TX2 6 = [409, 411, 413, 415, 417, 419].filterMap (fun i => lw_tbl[i]?) := by decide +kernel
  have h2 : (u_ws RX2 TX2 6).all goodWord = true := by decide +kernel
  intro w hw
  have h3 := List.all_eq_true.mp h2 w hw
  rw [h1] at hw
  obtain ⟨i, -, hi⟩ := List.mem_filterMap.mp hw
  exact WT_of (List.mem_of_getElem? hi) h3
theorem uw_3 : ∀ w ∈ u_ws RX3 TX3 2, w ∈ WT := by
  have h1 : u_ws RX3 TX3 2 = [337, 339].filterMap (fun i => lw_tbl[i]?) := by decide +kernel
  have h2 : (u_ws RX3 TX3 2).all goodWord = true := by decide +kernel
  intro w hw
  have h3 := List.all_eq_true.mp h2 w hw
  rw [h1] at hw
  obtain ⟨i, -, hi⟩ := List.mem_filterMap.mp hw
  exact WT_of (List.mem_of_getElem? hi) h3
theorem uw_4 : ∀ w ∈ u_ws RX4 TX4 5, w ∈ WT := by
  have h1 : u_ws RX4 TX4 5 = [385, 387, 389, 391, 393].filterMap (fun i => lw_tbl[i]?) := by decide +kernel
  have h2 : (u_ws RX4 TX4 5).all goodWord = true := by decide +kernel
  intro w hw
  have h3 := List.all_eq_true.mp h2 w hw
  rw [h1] at hw
  obtain ⟨i, -, hi⟩ := List.mem_filterMap.mp hw
  exact WT_of (List.mem_of_getElem? hi) h3
theorem uw_5 : ∀ w ∈ u_ws RX5 TX5 3, w ∈ WT := by
  have h1 : u_ws RX5 TX5 3 = [355, 357, 359].filterMap (fun i => lw_tbl[i]?) := by decide +kernel
  have h2 : (u_ws RX5 TX5 3).all goodWord = true := by decide +kernel
  intro w hw
  have h3 := List.all_eq_true.mp h2 w hw
  rw [h1] at hw
  obtain ⟨i, -, hi⟩ := List.mem_filterMap.mp hw
  exact WT_of (List.mem_of_getElem? hi) h3
theorem uw_6 : ∀ w ∈ u_ws RX6 TX6 4, w ∈ WT := by
  have h1 : u_ws RX6 TX6 4 = [277, 279, 281, 283].filterMap (fun i => lw_tbl[i]?) := by decide +kernel
  have h2 : (u_ws RX6 TX6 4).all goodWord = true := by decide +kernel
  intro w hw
  have h3 := List.all_eq_true.mp h2 w hw
  rw [h1] at hw
  obtain ⟨i, -, hi⟩ := List.mem_filterMap.mp hw
  exact WT_of (List.mem_of_getElem? hi) h3
theorem uw_7 : ∀ w ∈ u_ws RX7 TX7 2, w ∈ WT := by
  have h1 : u_ws RX7 TX7 2 = [488, 490].filterMap (fun i => lw_tbl[i]?) := by decide +kernel
  have h2 : (u_ws RX7 TX7 2).all goodWord = true := by decide +kernel
  intro w hw
  have h3 := List.all_eq_true.mp h2 w hw
  rw [h1] at hw
  obtain ⟨i, -, hi⟩ := List.mem_filterMap.mp hw
  exact WT_of (List.mem_of_getElem? hi) h3
theorem uw_8 : ∀ w ∈ u_ws RX8 TX8 8, w ∈ WT := by
  have h1 : u_ws RX8 TX8 8 = [220, 222, 224, 226, 228, 230, 232, 234].filterMap (fun i => lw_tbl[i]?) := by decide +kernel
  have h2 : (u_ws RX8 TX8 8).all goodWord = true := by decide +kernel
  intro w hw
  have h3 := List.all_eq_true.mp h2 w hw
  rw [h1] at hw
  obtain ⟨i, -, hi⟩ := List.mem_filterMap.mp hw
  exact WT_of (List.mem_of_getElem? hi) h3
theorem uw_9 : ∀ w ∈ u_ws RX9 TX9 11, w ∈ WT := by
  have h1 : u_ws RX9 TX9 11 = [303, 305, 307, 309, 311, 313, 315, 317, 319, 321, 323].filterMap (fun i => lw_tbl[i]?) := by decide +kernel
  have h2 : (u_ws RX9 TX9 11).all goodWord = true := by decide +kernel
  intro w hw
  have h3 := List.all_eq_true.mp h2 w hw
  rw [h1] at hw
  obtain ⟨i, -, hi⟩ := List.mem_filterMap.mp hw
  exact WT_of (List.mem_of_getElem? hi) h3
theorem uw_10 : ∀ w ∈ u_ws RX10 TX10 6, w ∈ WT := by
  have h1 : u_ws RX10 TX10 6 = [249, 251, 253, 255, 257, 259].filterMap (fun i => lw_tbl[i]?) := by decide +kernel
  have h2 : (u_ws RX10 TX10 6).all goodWord = true := by decide +kernel
  intro w hw
  have h3 := List.all_eq_true.mp h2 w hw
  rw [h1] at hw
  obtain ⟨i, -, hi⟩ := List.mem_filterMap.mp hw
  exact WT_of (List.mem_of_getElem? hi) h3
theorem uw_11 : ∀ w ∈ u_ws RX11 TX11 17, w ∈ WT := by
  have h1 : u_ws RX11 TX11 17 = [510, 512, 514, 516, 518, 520, 522, 524, 526, 528, 530, 532, 534, 536, 538, 540, 542].filterMap (fun i => lw_tbl[i]?) := by decide +kernel
  have h2 : (u_ws RX11 TX11 17).all goodWord = true := by decide +kernel
  intro w hw
  have h3 := List.all_eq_true.mp h2 w hw
  rw [h1] at hw
  obtain ⟨i, -, hi⟩ := List.mem_filterMap.mp hw
  exact WT_of (List.mem_of_getElem? hi) h3
theorem uw_12 : ∀ w ∈ u_ws RX12 TX12 37, w ∈ WT := by
  have h1 : u_ws RX12 TX12 37 = [1601, 1603, 1605, 1607, 1609, 1611, 1613, 1615, 1617, 1619, 1621, 1623, 1625, 1627, 1629, 1631, 1633, 1635, 1637, 1639, 1641, 1643, 1645, 1647, 1649, 1651, 1653, 1655, 1657, 1659, 1661, 1663, 1665, 1667, 1669, 1671, 1673].filterMap (fun i => lw_tbl[i]?) := by decide +kernel
  have h2 : (u_ws RX12 TX12 37).all goodWord = true := by decide +kernel
  intro w hw
  have h3 := List.all_eq_true.mp h2 w hw
  rw [h1] at hw
  obtain ⟨i, -, hi⟩ := List.mem_filterMap.mp hw
  exact WT_of (List.mem_of_getElem? hi) h3
def clsP (ci : Nat) (q : vw_C) : Prop := (∀ w ∈ u_ws q.1 q.2.1 q.2.2, w ∈ WT) ∧ (∀ k, k < q.2.2 → parseFieldDescriptor (q.2.1 k).2.2.1 = some (cty ci k)) ∧ (∀ a, a < q.2.2 → ∀ b, b < q.2.2 → a ≠ b → (q.2.1 a).2.1 ≠ (q.2.1 b).2.1) ∧ Cond.instantiable q.1 q.2.2 ∈ WT ∧ Cond.initialized q.1 ∈ WT ∧ (∀ k, k < q.2.2 → (q.2.1 k).1 = q.1)
theorem cls_0 : clsP 0 (RX0, TX0, 10) := ⟨uw_0, tyX0_ok, nmX0, WT_of (List.mem_of_getElem? (i := 146) (by decide +kernel)) rfl, WT_of (List.mem_of_getElem? (i := 117) (by decide +kernel)) rfl, by decide +kernel⟩
theorem cls_1 : clsP 1 (RX1, TX1, 17) := ⟨uw_1, tyX1_ok, nmX1, WT_of (List.mem_of_getElem? (i := 423) (by decide +kernel)) rfl, WT_of (List.mem_of_getElem? (i := 127) (by decide +kernel)) rfl, by decide +kernel⟩
theorem cls_2 : clsP 2 (RX2, TX2, 6) := ⟨uw_2, tyX2_ok, nmX2, WT_of (List.mem_of_getElem? (i := 397) (by decide +kernel)) rfl, WT_of (List.mem_of_getElem? (i := 126) (by decide +kernel)) rfl, by decide +kernel⟩
theorem cls_3 : clsP 3 (RX3, TX3, 2) := ⟨uw_3, tyX3_ok, nmX3, WT_of (List.mem_of_getElem? (i := 327) (by decide +kernel)) rfl, WT_of (List.mem_of_getElem? (i := 122) (by decide +kernel)) rfl, by decide +kernel⟩
theorem cls_4 : clsP 4 (RX4, TX4, 5) := ⟨uw_4, tyX4_ok, nmX4, WT_of (List.mem_of_getElem? (i := 365) (by decide +kernel)) rfl, WT_of (List.mem_of_getElem? (i := 125) (by decide +kernel)) rfl, by decide +kernel⟩
theorem cls_5 : clsP 5 (RX5, TX5, 3) := ⟨uw_5, tyX5_ok, nmX5, WT_of (List.mem_of_getElem? (i := 344) (by decide +kernel)) rfl, WT_of (List.mem_of_getElem? (i := 124) (by decide +kernel)) rfl, by decide +kernel⟩
theorem cls_6 : clsP 6 (RX6, TX6, 4) := ⟨uw_6, tyX6_ok, nmX6, WT_of (List.mem_of_getElem? (i := 263) (by decide +kernel)) rfl, WT_of (List.mem_of_getElem? (i := 120) (by decide +kernel)) rfl, by decide +kernel⟩
theorem cls_7 : clsP 7 (RX7, TX7, 2) := ⟨uw_7, tyX7_ok, nmX7, WT_of (List.mem_of_getElem? (i := 481) (by decide +kernel)) rfl, WT_of (List.mem_of_getElem? (i := 128) (by decide +kernel)) rfl, by decide +kernel⟩
theorem cls_8 : clsP 8 (RX8, TX8, 8) := ⟨uw_8, tyX8_ok, nmX8, WT_of (List.mem_of_getElem? (i := 205) (by decide +kernel)) rfl, WT_of (List.mem_of_getElem? (i := 118) (by decide +kernel)) rfl, by decide +kernel⟩
theorem cls_9 : clsP 9 (RX9, TX9, 11) := ⟨uw_9, tyX9_ok, nmX9, WT_of (List.mem_of_getElem? (i := 287) (by decide +kernel)) rfl, WT_of (List.mem_of_getElem? (i := 121) (by decide +kernel)) rfl, by decide +kernel⟩
theorem cls_10 : clsP 10 (RX10, TX10, 6) := ⟨uw_10, tyX10_ok, nmX10, WT_of (List.mem_of_getElem? (i := 238) (by decide +kernel)) rfl, WT_of (List.mem_of_getElem? (i := 119) (by decide +kernel)) rfl, by decide +kernel⟩
theorem cls_11 : clsP 11 (RX11, TX11, 17) := ⟨uw_11, tyX11_ok, nmX11, WT_of (List.mem_of_getElem? (i := 138) (by decide +kernel)) rfl, WT_of (List.mem_of_getElem? (i := 116) (by decide +kernel)) rfl, by decide +kernel⟩
theorem cls_12 : clsP 12 (RX12, TX12, 37) := ⟨uw_12, tyX12_ok, nmX12, WT_of (List.mem_of_getElem? (i := 1555) (by decide +kernel)) rfl, WT_of (List.mem_of_getElem? (i := 129) (by decide +kernel)) rfl, by decide +kernel⟩
theorem clsOf {ci : Nat} {q : vw_C} (h : classes[ci]? = some q) : clsP ci q ∧ q = clN ci := by
  match ci, h with
  | 0, h => cases h; exact ⟨cls_0, rfl⟩
  | 1, h => cases h; exact ⟨cls_1, rfl⟩
  | 2, h => cases h; exact ⟨cls_2, rfl⟩
  | 3, h => cases h; exact ⟨cls_3, rfl⟩
  | 4, h => cases h; exact ⟨cls_4, rfl⟩
  | 5, h => cases h; exact ⟨cls_5, rfl⟩
  | 6, h => cases h; exact ⟨cls_6, rfl⟩
  | 7, h => cases h; exact ⟨cls_7, rfl⟩
  | 8, h => cases h; exact ⟨cls_8, rfl⟩
  | 9, h => cases h; exact ⟨cls_9, rfl⟩
  | 10, h => cases h; exact ⟨cls_10, rfl⟩
  | 11, h => cases h; exact ⟨cls_11, rfl⟩
  | 12, h => cases h; exact ⟨cls_12, rfl⟩
  | n + 13, h => simp [classes] at h
