theorem tw_0 : Cond.fieldLink RX0 9 "WallDown$House" "kinds" "[I" ∈ Tg := tg_tab (List.mem_of_getElem? (i := 30) (by decide +kernel)) (by decide +kernel)
theorem tw_1 : Cond.fieldLink RX0 15 "WallDown$House" "highs" "[I" ∈ Tg := tg_tab (List.mem_of_getElem? (i := 33) (by decide +kernel)) (by decide +kernel)
theorem tw_2 : Cond.fieldLink RX0 18 "WallDown$House" "prices" "[I" ∈ Tg := tg_tab (List.mem_of_getElem? (i := 35) (by decide +kernel)) (by decide +kernel)
theorem tw_3 : Cond.fieldLink RX0 21 "WallDown$House" "counts" "[I" ∈ Tg := tg_tab (List.mem_of_getElem? (i := 37) (by decide +kernel)) (by decide +kernel)
theorem tw_4 : Cond.fieldLink RX0 24 "WallDown$House" "wedges" "[I" ∈ Tg := tg_tab (List.mem_of_getElem? (i := 41) (by decide +kernel)) (by decide +kernel)
theorem tw_5 : Cond.fieldLink RX0 27 "WallDown$House" "beams" "I" ∈ Tg := tg_tab (List.mem_of_getElem? (i := 45) (by decide +kernel)) (by decide +kernel)
theorem tw_6 : Cond.fieldLink RX0 31 "WallDown$House" "slack" "I" ∈ Tg := tg_tab (List.mem_of_getElem? (i := 48) (by decide +kernel)) (by decide +kernel)
theorem tw_7 : Cond.fieldLink RX0 40 "WallDown$House" "night" "I" ∈ Tg := tg_tab (List.mem_of_getElem? (i := 52) (by decide +kernel)) (by decide +kernel)
theorem tw_8 : Cond.fieldLink RX0 43 "WallDown$House" "purse" "I" ∈ Tg := tg_tab (List.mem_of_getElem? (i := 54) (by decide +kernel)) (by decide +kernel)
theorem tw_9 : Cond.methodLink RX0 34 arraycopyName ∈ Tg := tg_tab (List.mem_of_getElem? (i := 290) (by decide +kernel)) (by decide +kernel)
theorem tw_10 : Cond.native arraycopyName ∈ Tg := tg_tab (List.mem_of_getElem? (i := 292) (by decide +kernel)) (by decide +kernel)
theorem tw_11 : Cond.static arraycopyName ∈ Tg := tg_tab (List.mem_of_getElem? (i := 291) (by decide +kernel)) (by decide +kernel)
theorem tw_12 : Cond.initialized RJ10 ∈ Tg := tg_tab (List.mem_of_getElem? (i := 10) (by decide +kernel)) (by decide +kernel)
theorem tw_13 : Cond.methodLink RX0 46 yX0_place ∈ Tg := tg_tab (List.mem_of_getElem? (i := 245) (by decide +kernel)) (by decide +kernel)
theorem tw_14 : Cond.initialized RX0 ∈ Tg := tg_tab (List.mem_of_getElem? (i := 2) (by decide +kernel)) (by decide +kernel)
theorem tw_15 : Cond.code yX0_place cX0_place 2 (some .int) ∈ Tg := tg_tab (List.mem_of_getElem? (i := 247) (by decide +kernel)) (by decide +kernel)
theorem tw_16 : Cond.static yX0_place ∈ Tg := tg_tab (List.mem_of_getElem? (i := 246) (by decide +kernel)) (by decide +kernel)
theorem tw_17 : Cond.constant RX0 50 (999999) ∈ Tg := tg_tab (List.mem_of_getElem? (i := 397) (by decide +kernel)) (by decide +kernel)
theorem tw_18 : Cond.methodLink RX0 54 Lib.Math.min.name ∈ Tg := tg_tab (List.mem_of_getElem? (i := 398) (by decide +kernel)) (by decide +kernel)
theorem tw_19 : Cond.static Lib.Math.min.name ∈ Tg := tg_tab (List.mem_of_getElem? (i := 399) (by decide +kernel)) (by decide +kernel)
theorem tw_20 : Cond.initialized RJ9 ∈ Tg := tg_tab (List.mem_of_getElem? (i := 9) (by decide +kernel)) (by decide +kernel)
theorem tw_21 : Cond.code Lib.Math.min.name Lib.Math.min.code 2 (some .int) ∈ Tg := tg_tab (List.mem_of_getElem? (i := 400) (by decide +kernel)) (by decide +kernel)
theorem tw_22 : Cond.methodLink RX0 51 yX0_coinOf ∈ Tg := tg_tab (List.mem_of_getElem? (i := 267) (by decide +kernel)) (by decide +kernel)
theorem tw_23 : Cond.code yX0_coinOf cX0_coinOf 4 (some .int) ∈ Tg := tg_tab (List.mem_of_getElem? (i := 270) (by decide +kernel)) (by decide +kernel)
theorem tw_24 : Cond.instanceMethod yX0_coinOf ∈ Tg := tg_tab (List.mem_of_getElem? (i := 268) (by decide +kernel)) (by decide +kernel)
theorem tw_25 : Cond.selects RX0 yX0_coinOf yX0_coinOf ∈ Tg := tg_tab (List.mem_of_getElem? (i := 269) (by decide +kernel)) (by decide +kernel)
theorem tw_26 : Cond.methodLink RX0 59 Lib.Math.max.name ∈ Tg := tg_tab (List.mem_of_getElem? (i := 260) (by decide +kernel)) (by decide +kernel)
theorem tw_27 : Cond.static Lib.Math.max.name ∈ Tg := tg_tab (List.mem_of_getElem? (i := 261) (by decide +kernel)) (by decide +kernel)
theorem tw_28 : Cond.code Lib.Math.max.name Lib.Math.max.code 2 (some .int) ∈ Tg := tg_tab (List.mem_of_getElem? (i := 262) (by decide +kernel)) (by decide +kernel)
theorem tw_29 : Cond.methodLink RX0 62 yX0_tallOf ∈ Tg := tg_tab (List.mem_of_getElem? (i := 256) (by decide +kernel)) (by decide +kernel)
theorem tw_30 : Cond.code yX0_tallOf cX0_tallOf 5 (some .int) ∈ Tg := tg_tab (List.mem_of_getElem? (i := 259) (by decide +kernel)) (by decide +kernel)
theorem tw_31 : Cond.instanceMethod yX0_tallOf ∈ Tg := tg_tab (List.mem_of_getElem? (i := 257) (by decide +kernel)) (by decide +kernel)
theorem tw_32 : Cond.selects RX0 yX0_tallOf yX0_tallOf ∈ Tg := tg_tab (List.mem_of_getElem? (i := 258) (by decide +kernel)) (by decide +kernel)
theorem tw_33 : Cond.methodLink RX0 65 yX0_topOf ∈ Tg := tg_tab (List.mem_of_getElem? (i := 360) (by decide +kernel)) (by decide +kernel)
theorem tw_34 : Cond.code yX0_topOf cX0_topOf 4 (some .int) ∈ Tg := tg_tab (List.mem_of_getElem? (i := 255) (by decide +kernel)) (by decide +kernel)
theorem tw_35 : Cond.instanceMethod yX0_topOf ∈ Tg := tg_tab (List.mem_of_getElem? (i := 253) (by decide +kernel)) (by decide +kernel)
theorem tw_36 : Cond.selects RX0 yX0_topOf yX0_topOf ∈ Tg := tg_tab (List.mem_of_getElem? (i := 254) (by decide +kernel)) (by decide +kernel)
theorem tw_37 : Cond.methodLink RX0 69 yX0_coinsOf ∈ Tg := tg_tab (List.mem_of_getElem? (i := 791) (by decide +kernel)) (by decide +kernel)
theorem tw_38 : Cond.code yX0_coinsOf cX0_coinsOf 4 (some .int) ∈ Tg := tg_tab (List.mem_of_getElem? (i := 266) (by decide +kernel)) (by decide +kernel)
theorem tw_39 : Cond.instanceMethod yX0_coinsOf ∈ Tg := tg_tab (List.mem_of_getElem? (i := 264) (by decide +kernel)) (by decide +kernel)
theorem tw_40 : Cond.selects RX0 yX0_coinsOf yX0_coinsOf ∈ Tg := tg_tab (List.mem_of_getElem? (i := 265) (by decide +kernel)) (by decide +kernel)
theorem tw_41 : Cond.methodLink RX0 81 yX3_unit ∈ Tg := tg_tab (List.mem_of_getElem? (i := 301) (by decide +kernel)) (by decide +kernel)
theorem tw_42 : Cond.initialized RX3 ∈ Tg := tg_tab (List.mem_of_getElem? (i := 3) (by decide +kernel)) (by decide +kernel)
theorem tw_43 : Cond.code yX3_unit cX3_unit 1 (some .int) ∈ Tg := tg_tab (List.mem_of_getElem? (i := 303) (by decide +kernel)) (by decide +kernel)
theorem tw_44 : Cond.static yX3_unit ∈ Tg := tg_tab (List.mem_of_getElem? (i := 302) (by decide +kernel)) (by decide +kernel)
theorem tw_45 : Cond.methodLink RX3 21 yX3_leftAt ∈ Tg := tg_tab (List.mem_of_getElem? (i := 311) (by decide +kernel)) (by decide +kernel)
theorem tw_46 : Cond.code yX3_leftAt cX3_leftAt 2 (some .int) ∈ Tg := tg_tab (List.mem_of_getElem? (i := 313) (by decide +kernel)) (by decide +kernel)
theorem tw_47 : Cond.static yX3_leftAt ∈ Tg := tg_tab (List.mem_of_getElem? (i := 312) (by decide +kernel)) (by decide +kernel)
theorem tw_48 : Cond.methodLink RX0 76 yX3_stonesAt ∈ Tg := tg_tab (List.mem_of_getElem? (i := 370) (by decide +kernel)) (by decide +kernel)
theorem tw_49 : Cond.code yX3_stonesAt cX3_stonesAt 1 (some .int) ∈ Tg := tg_tab (List.mem_of_getElem? (i := 372) (by decide +kernel)) (by decide +kernel)
theorem tw_50 : Cond.static yX3_stonesAt ∈ Tg := tg_tab (List.mem_of_getElem? (i := 371) (by decide +kernel)) (by decide +kernel)
theorem tw_51 : Cond.methodLink RX0 72 yX0_standNow ∈ Tg := tg_tab (List.mem_of_getElem? (i := 369) (by decide +kernel)) (by decide +kernel)
theorem tw_52 : Cond.code yX0_standNow cX0_standNow 3 (some .int) ∈ Tg := tg_tab (List.mem_of_getElem? (i := 300) (by decide +kernel)) (by decide +kernel)
theorem tw_53 : Cond.instanceMethod yX0_standNow ∈ Tg := tg_tab (List.mem_of_getElem? (i := 298) (by decide +kernel)) (by decide +kernel)
theorem tw_54 : Cond.selects RX0 yX0_standNow yX0_standNow ∈ Tg := tg_tab (List.mem_of_getElem? (i := 299) (by decide +kernel)) (by decide +kernel)
theorem tw_55 : Cond.methodLink RJ7 13 yJ7_rangeCheck_23922 ∈ Tg := tg_tab (List.mem_of_getElem? (i := 431) (by decide +kernel)) (by decide +kernel)
theorem tw_56 : Cond.initialized RJ7 ∈ Tg := tg_tab (List.mem_of_getElem? (i := 11) (by decide +kernel)) (by decide +kernel)
theorem tw_57 : Cond.code yJ7_rangeCheck_23922 cJ7_rangeCheck_23922 3 none ∈ Tg := tg_tab (List.mem_of_getElem? (i := 433) (by decide +kernel)) (by decide +kernel)
theorem tw_58 : Cond.static yJ7_rangeCheck_23922 ∈ Tg := tg_tab (List.mem_of_getElem? (i := 432) (by decide +kernel)) (by decide +kernel)
theorem tw_59 : Cond.fieldLink RX2 19 "WallDown$Sheet" "size" "I" ∈ Tg := tg_tab (List.mem_of_getElem? (i := 182) (by decide +kernel)) (by decide +kernel)
theorem tw_60 : Cond.fieldLink RX2 9 "WallDown$Sheet" "numbers" "[J" ∈ Tg := tg_tab (List.mem_of_getElem? (i := 178) (by decide +kernel)) (by decide +kernel)
theorem tw_61 : Cond.fieldLink RX3 18 "WallDown$Survey" "lowestKinds" "[I" ∈ Tg := tg_tab (List.mem_of_getElem? (i := 84) (by decide +kernel)) (by decide +kernel)
theorem tw_62 : Cond.fieldLink RX3 15 "WallDown$Survey" "coinsOut" "[I" ∈ Tg := tg_tab (List.mem_of_getElem? (i := 83) (by decide +kernel)) (by decide +kernel)
theorem tw_63 : Cond.fieldLink RX3 31 "WallDown$Survey" "now" "I" ∈ Tg := tg_tab (List.mem_of_getElem? (i := 86) (by decide +kernel)) (by decide +kernel)
theorem tw_64 : Cond.methodLink RX3 61 yX3_stonesAt ∈ Tg := tg_tab (List.mem_of_getElem? (i := 440) (by decide +kernel)) (by decide +kernel)
theorem tw_65 : Cond.fieldLink RX3 11 "WallDown$Survey" "tops" "[I" ∈ Tg := tg_tab (List.mem_of_getElem? (i := 82) (by decide +kernel)) (by decide +kernel)
theorem tw_66 : Cond.fieldLink RX3 38 "WallDown$Survey" "beams" "I" ∈ Tg := tg_tab (List.mem_of_getElem? (i := 89) (by decide +kernel)) (by decide +kernel)
theorem tw_67 : Cond.methodLink RX3 70 Lib.Math.max.name ∈ Tg := tg_tab (List.mem_of_getElem? (i := 381) (by decide +kernel)) (by decide +kernel)
theorem tw_68 : Cond.methodLink RX3 65 Lib.Math.abs.name ∈ Tg := tg_tab (List.mem_of_getElem? (i := 378) (by decide +kernel)) (by decide +kernel)
theorem tw_69 : Cond.static Lib.Math.abs.name ∈ Tg := tg_tab (List.mem_of_getElem? (i := 379) (by decide +kernel)) (by decide +kernel)
theorem tw_70 : Cond.code Lib.Math.abs.name Lib.Math.abs.code 1 (some .int) ∈ Tg := tg_tab (List.mem_of_getElem? (i := 380) (by decide +kernel)) (by decide +kernel)
theorem tw_71 : Cond.fieldLink RX1 11 "WallDown$Rows" "ways" "[J" ∈ Tg := tg_tab (List.mem_of_getElem? (i := 111) (by decide +kernel)) (by decide +kernel)
theorem tw_72 : Cond.fieldLink RX1 21 "WallDown$Survey" "now" "I" ∈ Tg := tg_tab (List.mem_of_getElem? (i := 85) (by decide +kernel)) (by decide +kernel)
theorem tw_73 : Cond.methodLink RX1 54 yX3_unit ∈ Tg := tg_tab (List.mem_of_getElem? (i := 449) (by decide +kernel)) (by decide +kernel)
theorem tw_74 : Cond.methodLink RX1 49 yX2_tells ∈ Tg := tg_tab (List.mem_of_getElem? (i := 445) (by decide +kernel)) (by decide +kernel)
theorem tw_75 : Cond.initialized RX2 ∈ Tg := tg_tab (List.mem_of_getElem? (i := 7) (by decide +kernel)) (by decide +kernel)
theorem tw_76 : Cond.code yX2_tells cX2_tells 3 (some .boolean) ∈ Tg := tg_tab (List.mem_of_getElem? (i := 448) (by decide +kernel)) (by decide +kernel)
theorem tw_77 : Cond.instanceMethod yX2_tells ∈ Tg := tg_tab (List.mem_of_getElem? (i := 446) (by decide +kernel)) (by decide +kernel)
theorem tw_78 : Cond.selects RX2 yX2_tells yX2_tells ∈ Tg := tg_tab (List.mem_of_getElem? (i := 447) (by decide +kernel)) (by decide +kernel)
theorem tw_79 : Cond.methodLink RX1 45 yX3_nextCoin ∈ Tg := tg_tab (List.mem_of_getElem? (i := 441) (by decide +kernel)) (by decide +kernel)
theorem tw_80 : Cond.code yX3_nextCoin cX3_nextCoin 4 (some .int) ∈ Tg := tg_tab (List.mem_of_getElem? (i := 444) (by decide +kernel)) (by decide +kernel)
theorem tw_81 : Cond.instanceMethod yX3_nextCoin ∈ Tg := tg_tab (List.mem_of_getElem? (i := 442) (by decide +kernel)) (by decide +kernel)
theorem tw_82 : Cond.selects RX3 yX3_nextCoin yX3_nextCoin ∈ Tg := tg_tab (List.mem_of_getElem? (i := 443) (by decide +kernel)) (by decide +kernel)
theorem tw_83 : Cond.methodLink RX1 42 yX3_pulledAt ∈ Tg := tg_tab (List.mem_of_getElem? (i := 436) (by decide +kernel)) (by decide +kernel)
theorem tw_84 : Cond.code yX3_pulledAt cX3_pulledAt 2 (some .int) ∈ Tg := tg_tab (List.mem_of_getElem? (i := 439) (by decide +kernel)) (by decide +kernel)
theorem tw_85 : Cond.instanceMethod yX3_pulledAt ∈ Tg := tg_tab (List.mem_of_getElem? (i := 437) (by decide +kernel)) (by decide +kernel)
theorem tw_86 : Cond.selects RX3 yX3_pulledAt yX3_pulledAt ∈ Tg := tg_tab (List.mem_of_getElem? (i := 438) (by decide +kernel)) (by decide +kernel)
theorem tw_87 : Cond.methodLink RX1 38 yX3_lowestMayGo ∈ Tg := tg_tab (List.mem_of_getElem? (i := 435) (by decide +kernel)) (by decide +kernel)
theorem tw_88 : Cond.code yX3_lowestMayGo cX3_lowestMayGo 5 (some .boolean) ∈ Tg := tg_tab (List.mem_of_getElem? (i := 310) (by decide +kernel)) (by decide +kernel)
theorem tw_89 : Cond.instanceMethod yX3_lowestMayGo ∈ Tg := tg_tab (List.mem_of_getElem? (i := 308) (by decide +kernel)) (by decide +kernel)
theorem tw_90 : Cond.selects RX3 yX3_lowestMayGo yX3_lowestMayGo ∈ Tg := tg_tab (List.mem_of_getElem? (i := 309) (by decide +kernel)) (by decide +kernel)
theorem tw_91 : Cond.fieldLink RX1 35 "WallDown$Survey" "slack" "I" ∈ Tg := tg_tab (List.mem_of_getElem? (i := 90) (by decide +kernel)) (by decide +kernel)
theorem tw_92 : Cond.methodLink RX1 31 yX3_unlikeAt ∈ Tg := tg_tab (List.mem_of_getElem? (i := 434) (by decide +kernel)) (by decide +kernel)
theorem tw_93 : Cond.code yX3_unlikeAt cX3_unlikeAt 6 (some .int) ∈ Tg := tg_tab (List.mem_of_getElem? (i := 377) (by decide +kernel)) (by decide +kernel)
theorem tw_94 : Cond.instanceMethod yX3_unlikeAt ∈ Tg := tg_tab (List.mem_of_getElem? (i := 375) (by decide +kernel)) (by decide +kernel)
theorem tw_95 : Cond.selects RX3 yX3_unlikeAt yX3_unlikeAt ∈ Tg := tg_tab (List.mem_of_getElem? (i := 376) (by decide +kernel)) (by decide +kernel)
theorem tw_96 : Cond.methodLink RX1 25 yJ7_fill_bad5a ∈ Tg := tg_tab (List.mem_of_getElem? (i := 428) (by decide +kernel)) (by decide +kernel)
theorem tw_97 : Cond.code yJ7_fill_bad5a cJ7_fill_bad5a 6 none ∈ Tg := tg_tab (List.mem_of_getElem? (i := 430) (by decide +kernel)) (by decide +kernel)
theorem tw_98 : Cond.static yJ7_fill_bad5a ∈ Tg := tg_tab (List.mem_of_getElem? (i := 429) (by decide +kernel)) (by decide +kernel)
theorem tw_99 : Cond.fieldLink RX3 42 "WallDown$Survey" "slack" "I" ∈ Tg := tg_tab (List.mem_of_getElem? (i := 91) (by decide +kernel)) (by decide +kernel)
theorem tw_100 : Cond.methodLink RX3 80 yX3_unlikeAt ∈ Tg := tg_tab (List.mem_of_getElem? (i := 392) (by decide +kernel)) (by decide +kernel)
theorem tw_101 : Cond.methodLink RX3 77 yX3_unit ∈ Tg := tg_tab (List.mem_of_getElem? (i := 391) (by decide +kernel)) (by decide +kernel)
theorem tw_102 : Cond.methodLink RX3 73 yX3_lowestMayGo ∈ Tg := tg_tab (List.mem_of_getElem? (i := 390) (by decide +kernel)) (by decide +kernel)
theorem tw_103 : Cond.methodLink RX1 64 yX3_canPullAt ∈ Tg := tg_tab (List.mem_of_getElem? (i := 480) (by decide +kernel)) (by decide +kernel)
theorem tw_104 : Cond.code yX3_canPullAt cX3_canPullAt 3 (some .boolean) ∈ Tg := tg_tab (List.mem_of_getElem? (i := 389) (by decide +kernel)) (by decide +kernel)
theorem tw_105 : Cond.instanceMethod yX3_canPullAt ∈ Tg := tg_tab (List.mem_of_getElem? (i := 387) (by decide +kernel)) (by decide +kernel)
theorem tw_106 : Cond.selects RX3 yX3_canPullAt yX3_canPullAt ∈ Tg := tg_tab (List.mem_of_getElem? (i := 388) (by decide +kernel)) (by decide +kernel)
theorem tw_107 : Cond.methodLink RX1 60 yX1_leadFrom ∈ Tg := tg_tab (List.mem_of_getElem? (i := 476) (by decide +kernel)) (by decide +kernel)
theorem tw_108 : Cond.initialized RX1 ∈ Tg := tg_tab (List.mem_of_getElem? (i := 4) (by decide +kernel)) (by decide +kernel)
theorem tw_109 : Cond.code yX1_leadFrom cX1_leadFrom 4 (some .int) ∈ Tg := tg_tab (List.mem_of_getElem? (i := 479) (by decide +kernel)) (by decide +kernel)
theorem tw_110 : Cond.instanceMethod yX1_leadFrom ∈ Tg := tg_tab (List.mem_of_getElem? (i := 477) (by decide +kernel)) (by decide +kernel)
theorem tw_111 : Cond.selects RX1 yX1_leadFrom yX1_leadFrom ∈ Tg := tg_tab (List.mem_of_getElem? (i := 478) (by decide +kernel)) (by decide +kernel)
theorem tw_112 : Cond.methodLink RX1 57 yX3_isPartOf ∈ Tg := tg_tab (List.mem_of_getElem? (i := 475) (by decide +kernel)) (by decide +kernel)
theorem tw_113 : Cond.code yX3_isPartOf cX3_isPartOf 3 (some .boolean) ∈ Tg := tg_tab (List.mem_of_getElem? (i := 415) (by decide +kernel)) (by decide +kernel)
theorem tw_114 : Cond.static yX3_isPartOf ∈ Tg := tg_tab (List.mem_of_getElem? (i := 414) (by decide +kernel)) (by decide +kernel)
theorem tw_115 : Cond.methodLink RX1 67 yX3_stonesAt ∈ Tg := tg_tab (List.mem_of_getElem? (i := 462) (by decide +kernel)) (by decide +kernel)
theorem tw_116 : Cond.methodLink RX1 73 Lib.Math.min.name ∈ Tg := tg_tab (List.mem_of_getElem? (i := 537) (by decide +kernel)) (by decide +kernel)
theorem tw_117 : Cond.methodLink RX1 70 yX3_leftAt ∈ Tg := tg_tab (List.mem_of_getElem? (i := 536) (by decide +kernel)) (by decide +kernel)
theorem tw_118 : Cond.fieldLink RX1 17 "WallDown$Rows" "best" "[I" ∈ Tg := tg_tab (List.mem_of_getElem? (i := 113) (by decide +kernel)) (by decide +kernel)
theorem tw_119 : Cond.methodLink RX1 81 yX3_coinAt ∈ Tg := tg_tab (List.mem_of_getElem? (i := 515) (by decide +kernel)) (by decide +kernel)
theorem tw_120 : Cond.code yX3_coinAt cX3_coinAt 4 (some .int) ∈ Tg := tg_tab (List.mem_of_getElem? (i := 518) (by decide +kernel)) (by decide +kernel)
theorem tw_121 : Cond.instanceMethod yX3_coinAt ∈ Tg := tg_tab (List.mem_of_getElem? (i := 516) (by decide +kernel)) (by decide +kernel)
theorem tw_122 : Cond.selects RX3 yX3_coinAt yX3_coinAt ∈ Tg := tg_tab (List.mem_of_getElem? (i := 517) (by decide +kernel)) (by decide +kernel)
theorem tw_123 : Cond.methodLink RX1 78 yJ7_fill_53178 ∈ Tg := tg_tab (List.mem_of_getElem? (i := 512) (by decide +kernel)) (by decide +kernel)
theorem tw_124 : Cond.code yJ7_fill_53178 cJ7_fill_53178 4 none ∈ Tg := tg_tab (List.mem_of_getElem? (i := 514) (by decide +kernel)) (by decide +kernel)
theorem tw_125 : Cond.static yJ7_fill_53178 ∈ Tg := tg_tab (List.mem_of_getElem? (i := 513) (by decide +kernel)) (by decide +kernel)
theorem tw_126 : Cond.fieldLink RX2 15 "WallDown$Sheet" "bits" "I" ∈ Tg := tg_tab (List.mem_of_getElem? (i := 180) (by decide +kernel)) (by decide +kernel)
theorem tw_127 : Cond.methodLink RX2 22 yJ7_fill_d0a16 ∈ Tg := tg_tab (List.mem_of_getElem? (i := 728) (by decide +kernel)) (by decide +kernel)
theorem tw_128 : Cond.code yJ7_fill_d0a16 cJ7_fill_d0a16 5 none ∈ Tg := tg_tab (List.mem_of_getElem? (i := 730) (by decide +kernel)) (by decide +kernel)
theorem tw_129 : Cond.static yJ7_fill_d0a16 ∈ Tg := tg_tab (List.mem_of_getElem? (i := 729) (by decide +kernel)) (by decide +kernel)
theorem tw_130 : Cond.fieldLink RX3 35 "WallDown$House" "beams" "I" ∈ Tg := tg_tab (List.mem_of_getElem? (i := 46) (by decide +kernel)) (by decide +kernel)
theorem tw_131 : Cond.fieldLink RX3 39 "WallDown$House" "slack" "I" ∈ Tg := tg_tab (List.mem_of_getElem? (i := 49) (by decide +kernel)) (by decide +kernel)
theorem tw_132 : Cond.fieldLink RX3 43 "WallDown$House" "counts" "[I" ∈ Tg := tg_tab (List.mem_of_getElem? (i := 40) (by decide +kernel)) (by decide +kernel)
theorem tw_133 : Cond.fieldLink RX3 46 "WallDown$House" "wedges" "[I" ∈ Tg := tg_tab (List.mem_of_getElem? (i := 43) (by decide +kernel)) (by decide +kernel)
theorem tw_134 : Cond.fieldLink RX3 52 "WallDown$House" "kinds" "[I" ∈ Tg := tg_tab (List.mem_of_getElem? (i := 32) (by decide +kernel)) (by decide +kernel)
theorem tw_135 : Cond.methodLink RX3 55 yX0_place ∈ Tg := tg_tab (List.mem_of_getElem? (i := 305) (by decide +kernel)) (by decide +kernel)
theorem tw_136 : Cond.methodLink RX3 49 yX0_tallOf ∈ Tg := tg_tab (List.mem_of_getElem? (i := 304) (by decide +kernel)) (by decide +kernel)
theorem tw_137 : Cond.methodLink RX3 58 yX0_coinOf ∈ Tg := tg_tab (List.mem_of_getElem? (i := 306) (by decide +kernel)) (by decide +kernel)
theorem tw_138 : Cond.methodLink RX3 25 yX0_standNow ∈ Tg := tg_tab (List.mem_of_getElem? (i := 297) (by decide +kernel)) (by decide +kernel)
theorem tw_139 : Cond.fieldLink RX4 9 "WallDown$Tape" "bytes" "[I" ∈ Tg := tg_tab (List.mem_of_getElem? (i := 132) (by decide +kernel)) (by decide +kernel)
theorem tw_140 : Cond.fieldLink RX4 15 "WallDown$Tape" "length" "I" ∈ Tg := tg_tab (List.mem_of_getElem? (i := 133) (by decide +kernel)) (by decide +kernel)
theorem tw_141 : Cond.initialized RX6 ∈ Tg := tg_tab (List.mem_of_getElem? (i := 1) (by decide +kernel)) (by decide +kernel)
theorem tw_142 : Cond.code yX6_isWithin cX6_isWithin 3 (some .boolean) ∈ Tg := tg_tab (List.mem_of_getElem? (i := 228) (by decide +kernel)) (by decide +kernel)
theorem tw_143 : Cond.static yX6_isWithin ∈ Tg := tg_tab (List.mem_of_getElem? (i := 227) (by decide +kernel)) (by decide +kernel)
theorem tw_144 : Cond.fieldLink RX4 44 "WallDown$Tape" "number" "I" ∈ Tg := tg_tab (List.mem_of_getElem? (i := 140) (by decide +kernel)) (by decide +kernel)
theorem tw_145 : Cond.fieldLink RX4 19 "WallDown$Tape" "end" "I" ∈ Tg := tg_tab (List.mem_of_getElem? (i := 141) (by decide +kernel)) (by decide +kernel)
theorem tw_146 : Cond.methodLink RX4 47 Lib.Math.min.name ∈ Tg := tg_tab (List.mem_of_getElem? (i := 608) (by decide +kernel)) (by decide +kernel)
theorem tw_147 : Cond.methodLink RX4 38 yX4_isDigit ∈ Tg := tg_tab (List.mem_of_getElem? (i := 600) (by decide +kernel)) (by decide +kernel)
theorem tw_148 : Cond.initialized RX4 ∈ Tg := tg_tab (List.mem_of_getElem? (i := 6) (by decide +kernel)) (by decide +kernel)
theorem tw_149 : Cond.code yX4_isDigit cX4_isDigit 2 (some .boolean) ∈ Tg := tg_tab (List.mem_of_getElem? (i := 603) (by decide +kernel)) (by decide +kernel)
theorem tw_150 : Cond.instanceMethod yX4_isDigit ∈ Tg := tg_tab (List.mem_of_getElem? (i := 602) (by decide +kernel)) (by decide +kernel)
theorem tw_151 : Cond.selects RX4 yX4_isDigit yX4_isDigit ∈ Tg := tg_in (List.mem_of_getElem? (i := 10) (by decide +kernel)) (by decide +kernel)
theorem tw_152 : Cond.methodLink RX4 31 yX4_isLetter ∈ Tg := tg_tab (List.mem_of_getElem? (i := 591) (by decide +kernel)) (by decide +kernel)
theorem tw_153 : Cond.code yX4_isLetter cX4_isLetter 2 (some .boolean) ∈ Tg := tg_tab (List.mem_of_getElem? (i := 594) (by decide +kernel)) (by decide +kernel)
theorem tw_154 : Cond.instanceMethod yX4_isLetter ∈ Tg := tg_tab (List.mem_of_getElem? (i := 593) (by decide +kernel)) (by decide +kernel)
theorem tw_155 : Cond.selects RX4 yX4_isLetter yX4_isLetter ∈ Tg := tg_in (List.mem_of_getElem? (i := 8) (by decide +kernel)) (by decide +kernel)
theorem tw_156 : Cond.fieldLink RX4 25 "WallDown$Tape" "start" "I" ∈ Tg := tg_tab (List.mem_of_getElem? (i := 138) (by decide +kernel)) (by decide +kernel)
theorem tw_157 : Cond.fieldLink RX4 28 "WallDown$Tape" "token" "I" ∈ Tg := tg_tab (List.mem_of_getElem? (i := 136) (by decide +kernel)) (by decide +kernel)
theorem tw_158 : Cond.methodLink RX4 41 yX4_skipDigits ∈ Tg := tg_tab (List.mem_of_getElem? (i := 604) (by decide +kernel)) (by decide +kernel)
theorem tw_159 : Cond.code yX4_skipDigits cX4_skipDigits 1 none ∈ Tg := tg_tab (List.mem_of_getElem? (i := 607) (by decide +kernel)) (by decide +kernel)
theorem tw_160 : Cond.instanceMethod yX4_skipDigits ∈ Tg := tg_tab (List.mem_of_getElem? (i := 606) (by decide +kernel)) (by decide +kernel)
theorem tw_161 : Cond.selects RX4 yX4_skipDigits yX4_skipDigits ∈ Tg := tg_in (List.mem_of_getElem? (i := 11) (by decide +kernel)) (by decide +kernel)
theorem tw_162 : Cond.methodLink RX4 35 yX4_skipLetters ∈ Tg := tg_tab (List.mem_of_getElem? (i := 596) (by decide +kernel)) (by decide +kernel)
theorem tw_163 : Cond.code yX4_skipLetters cX4_skipLetters 1 none ∈ Tg := tg_tab (List.mem_of_getElem? (i := 599) (by decide +kernel)) (by decide +kernel)
theorem tw_164 : Cond.instanceMethod yX4_skipLetters ∈ Tg := tg_tab (List.mem_of_getElem? (i := 598) (by decide +kernel)) (by decide +kernel)
theorem tw_165 : Cond.selects RX4 yX4_skipLetters yX4_skipLetters ∈ Tg := tg_in (List.mem_of_getElem? (i := 9) (by decide +kernel)) (by decide +kernel)
theorem tw_166 : Cond.methodLink RX4 22 yX4_step ∈ Tg := tg_tab (List.mem_of_getElem? (i := 587) (by decide +kernel)) (by decide +kernel)
theorem tw_167 : Cond.code yX4_step cX4_step 1 none ∈ Tg := tg_tab (List.mem_of_getElem? (i := 590) (by decide +kernel)) (by decide +kernel)
theorem tw_168 : Cond.instanceMethod yX4_step ∈ Tg := tg_tab (List.mem_of_getElem? (i := 588) (by decide +kernel)) (by decide +kernel)
theorem tw_169 : Cond.selects RX4 yX4_step yX4_step ∈ Tg := tg_tab (List.mem_of_getElem? (i := 589) (by decide +kernel)) (by decide +kernel)
theorem tw_170 : Cond.fieldLink RJ0 38 "java/lang/String" "COMPACT_STRINGS" "Z" ∈ Tg := tg_tab (List.mem_of_getElem? (i := 634) (by decide +kernel)) (by decide +kernel)
theorem tw_171 : Cond.fieldLink RJ0 15 "java/lang/String" "coder" "B" ∈ Tg := tg_tab (List.mem_of_getElem? (i := 1290) (by decide +kernel)) (by decide +kernel)
theorem tw_172 : Cond.methodLink RJ0 1059 yJ3_checkIndex_8e157 ∈ Tg := tg_tab (List.mem_of_getElem? (i := 652) (by decide +kernel)) (by decide +kernel)
theorem tw_173 : Cond.initialized RJ3 ∈ Tg := tg_tab (List.mem_of_getElem? (i := 14) (by decide +kernel)) (by decide +kernel)
theorem tw_174 : Cond.code yJ3_checkIndex_8e157 cJ3_checkIndex_8e157 3 (some .int) ∈ Tg := tg_tab (List.mem_of_getElem? (i := 654) (by decide +kernel)) (by decide +kernel)
theorem tw_175 : Cond.static yJ3_checkIndex_8e157 ∈ Tg := tg_tab (List.mem_of_getElem? (i := 653) (by decide +kernel)) (by decide +kernel)
theorem tw_176 : Cond.fieldLink RJ0 1053 "jdk/internal/util/Preconditions" "SIOOBE_FORMATTER" "Ljava/util/function/BiFunction;" ∈ Tg := tg_tab (List.mem_of_getElem? (i := 650) (by decide +kernel)) (by decide +kernel)
theorem tw_177 : Cond.methodLink RJ1 9 yJ0_checkIndex_df160 ∈ Tg := tg_tab (List.mem_of_getElem? (i := 647) (by decide +kernel)) (by decide +kernel)
theorem tw_178 : Cond.initialized RJ0 ∈ Tg := tg_tab (List.mem_of_getElem? (i := 12) (by decide +kernel)) (by decide +kernel)
theorem tw_179 : Cond.code yJ0_checkIndex_df160 cJ0_checkIndex_df160 2 none ∈ Tg := tg_tab (List.mem_of_getElem? (i := 649) (by decide +kernel)) (by decide +kernel)
theorem tw_180 : Cond.static yJ0_checkIndex_df160 ∈ Tg := tg_tab (List.mem_of_getElem? (i := 648) (by decide +kernel)) (by decide +kernel)
theorem tw_181 : Cond.fieldLink RJ0 9 "java/lang/String" "value" "[B" ∈ Tg := tg_tab (List.mem_of_getElem? (i := 1289) (by decide +kernel)) (by decide +kernel)
theorem tw_182 : Cond.methodLink RJ0 495 yJ1_charAt_3b067 ∈ Tg := tg_tab (List.mem_of_getElem? (i := 644) (by decide +kernel)) (by decide +kernel)
theorem tw_183 : Cond.initialized RJ1 ∈ Tg := tg_tab (List.mem_of_getElem? (i := 13) (by decide +kernel)) (by decide +kernel)
theorem tw_184 : Cond.code yJ1_charAt_3b067 cJ1_charAt_3b067 2 (some .char) ∈ Tg := tg_tab (List.mem_of_getElem? (i := 646) (by decide +kernel)) (by decide +kernel)
theorem tw_185 : Cond.static yJ1_charAt_3b067 ∈ Tg := tg_tab (List.mem_of_getElem? (i := 645) (by decide +kernel)) (by decide +kernel)
theorem tw_186 : Cond.methodLink RJ0 492 yJ0_isLatin1_aae02 ∈ Tg := tg_tab (List.mem_of_getElem? (i := 640) (by decide +kernel)) (by decide +kernel)
theorem tw_187 : Cond.code yJ0_isLatin1_aae02 cJ0_isLatin1_aae02 1 (some .boolean) ∈ Tg := tg_tab (List.mem_of_getElem? (i := 643) (by decide +kernel)) (by decide +kernel)
theorem tw_188 : Cond.instanceMethod yJ0_isLatin1_aae02 ∈ Tg := tg_tab (List.mem_of_getElem? (i := 641) (by decide +kernel)) (by decide +kernel)
theorem tw_189 : Cond.selects RJ0 yJ0_isLatin1_aae02 yJ0_isLatin1_aae02 ∈ Tg := tg_tab (List.mem_of_getElem? (i := 642) (by decide +kernel)) (by decide +kernel)
theorem tw_190 : Cond.methodLink RJ0 335 yJ0_coder_7d493 ∈ Tg := tg_tab (List.mem_of_getElem? (i := 630) (by decide +kernel)) (by decide +kernel)
theorem tw_191 : Cond.code yJ0_coder_7d493 cJ0_coder_7d493 1 (some .byte) ∈ Tg := tg_tab (List.mem_of_getElem? (i := 633) (by decide +kernel)) (by decide +kernel)
theorem tw_192 : Cond.instanceMethod yJ0_coder_7d493 ∈ Tg := tg_tab (List.mem_of_getElem? (i := 631) (by decide +kernel)) (by decide +kernel)
theorem tw_193 : Cond.selects RJ0 yJ0_coder_7d493 yJ0_coder_7d493 ∈ Tg := tg_tab (List.mem_of_getElem? (i := 632) (by decide +kernel)) (by decide +kernel)
theorem tw_194 : Cond.methodLink RX4 62 yJ0_charAt_5068e ∈ Tg := tg_tab (List.mem_of_getElem? (i := 636) (by decide +kernel)) (by decide +kernel)
theorem tw_195 : Cond.code yJ0_charAt_5068e cJ0_charAt_5068e 2 (some .char) ∈ Tg := tg_tab (List.mem_of_getElem? (i := 639) (by decide +kernel)) (by decide +kernel)
theorem tw_196 : Cond.instanceMethod yJ0_charAt_5068e ∈ Tg := tg_tab (List.mem_of_getElem? (i := 637) (by decide +kernel)) (by decide +kernel)
theorem tw_197 : Cond.selects RJ0 yJ0_charAt_5068e yJ0_charAt_5068e ∈ Tg := tg_tab (List.mem_of_getElem? (i := 638) (by decide +kernel)) (by decide +kernel)
theorem tw_198 : Cond.methodLink RX4 57 yJ0_length_8abf5 ∈ Tg := tg_tab (List.mem_of_getElem? (i := 626) (by decide +kernel)) (by decide +kernel)
theorem tw_199 : Cond.code yJ0_length_8abf5 cJ0_length_8abf5 1 (some .int) ∈ Tg := tg_tab (List.mem_of_getElem? (i := 629) (by decide +kernel)) (by decide +kernel)
theorem tw_200 : Cond.instanceMethod yJ0_length_8abf5 ∈ Tg := tg_tab (List.mem_of_getElem? (i := 627) (by decide +kernel)) (by decide +kernel)
theorem tw_201 : Cond.selects RJ0 yJ0_length_8abf5 yJ0_length_8abf5 ∈ Tg := tg_tab (List.mem_of_getElem? (i := 628) (by decide +kernel)) (by decide +kernel)
theorem tw_202 : Cond.fieldLink RX5 12 "WallDown$Teller" "tape" "LWallDown$Tape;" ∈ Tg := tg_tab (List.mem_of_getElem? (i := 159) (by decide +kernel)) (by decide +kernel)
theorem tw_203 : Cond.fieldLink RX5 105 "WallDown$Tape" "number" "I" ∈ Tg := tg_tab (List.mem_of_getElem? (i := 139) (by decide +kernel)) (by decide +kernel)
theorem tw_204 : Cond.fieldLink RX5 21 "WallDown$Teller" "site" "LWallDown$House;" ∈ Tg := tg_tab (List.mem_of_getElem? (i := 161) (by decide +kernel)) (by decide +kernel)
theorem tw_205 : Cond.methodLink RX5 47 yX4_step ∈ Tg := tg_tab (List.mem_of_getElem? (i := 674) (by decide +kernel)) (by decide +kernel)
theorem tw_206 : Cond.methodLink RX5 120 yX0_layBeam ∈ Tg := tg_tab (List.mem_of_getElem? (i := 693) (by decide +kernel)) (by decide +kernel)
theorem tw_207 : Cond.code yX0_layBeam cX0_layBeam 4 none ∈ Tg := tg_tab (List.mem_of_getElem? (i := 350) (by decide +kernel)) (by decide +kernel)
theorem tw_208 : Cond.instanceMethod yX0_layBeam ∈ Tg := tg_tab (List.mem_of_getElem? (i := 348) (by decide +kernel)) (by decide +kernel)
theorem tw_209 : Cond.selects RX0 yX0_layBeam yX0_layBeam ∈ Tg := tg_tab (List.mem_of_getElem? (i := 349) (by decide +kernel)) (by decide +kernel)
theorem tw_210 : Cond.methodLink RX5 57 yX4_isWord ∈ Tg := tg_tab (List.mem_of_getElem? (i := 622) (by decide +kernel)) (by decide +kernel)
theorem tw_211 : Cond.code yX4_isWord cX4_isWord 3 (some .boolean) ∈ Tg := tg_tab (List.mem_of_getElem? (i := 625) (by decide +kernel)) (by decide +kernel)
theorem tw_212 : Cond.instanceMethod yX4_isWord ∈ Tg := tg_tab (List.mem_of_getElem? (i := 623) (by decide +kernel)) (by decide +kernel)
theorem tw_213 : Cond.selects RX4 yX4_isWord yX4_isWord ∈ Tg := tg_tab (List.mem_of_getElem? (i := 624) (by decide +kernel)) (by decide +kernel)
theorem tw_214 : Cond.methodLink RX5 97 yX4_isNumber ∈ Tg := tg_tab (List.mem_of_getElem? (i := 679) (by decide +kernel)) (by decide +kernel)
theorem tw_215 : Cond.code yX4_isNumber cX4_isNumber 3 (some .boolean) ∈ Tg := tg_tab (List.mem_of_getElem? (i := 682) (by decide +kernel)) (by decide +kernel)
theorem tw_216 : Cond.instanceMethod yX4_isNumber ∈ Tg := tg_tab (List.mem_of_getElem? (i := 680) (by decide +kernel)) (by decide +kernel)
theorem tw_217 : Cond.selects RX4 yX4_isNumber yX4_isNumber ∈ Tg := tg_tab (List.mem_of_getElem? (i := 681) (by decide +kernel)) (by decide +kernel)
theorem tw_218 : Cond.fieldLink RX5 43 "WallDown$Tape" "token" "I" ∈ Tg := tg_tab (List.mem_of_getElem? (i := 135) (by decide +kernel)) (by decide +kernel)
theorem tw_219 : Cond.fieldLink RX5 28 "WallDown$Teller" "survey" "LWallDown$Survey;" ∈ Tg := tg_tab (List.mem_of_getElem? (i := 163) (by decide +kernel)) (by decide +kernel)
theorem tw_220 : Cond.fieldLink RX5 132 "WallDown$Survey" "now" "I" ∈ Tg := tg_tab (List.mem_of_getElem? (i := 87) (by decide +kernel)) (by decide +kernel)
theorem tw_221 : Cond.methodLink RX5 138 yX0_takeLowest ∈ Tg := tg_tab (List.mem_of_getElem? (i := 711) (by decide +kernel)) (by decide +kernel)
theorem tw_222 : Cond.code yX0_takeLowest cX0_takeLowest 3 none ∈ Tg := tg_tab (List.mem_of_getElem? (i := 396) (by decide +kernel)) (by decide +kernel)
theorem tw_223 : Cond.instanceMethod yX0_takeLowest ∈ Tg := tg_tab (List.mem_of_getElem? (i := 394) (by decide +kernel)) (by decide +kernel)
theorem tw_224 : Cond.selects RX0 yX0_takeLowest yX0_takeLowest ∈ Tg := tg_tab (List.mem_of_getElem? (i := 395) (by decide +kernel)) (by decide +kernel)
theorem tw_225 : Cond.methodLink RX5 135 yX3_canPullAt ∈ Tg := tg_tab (List.mem_of_getElem? (i := 710) (by decide +kernel)) (by decide +kernel)
theorem tw_226 : Cond.methodLink RX5 129 yX3_measure ∈ Tg := tg_tab (List.mem_of_getElem? (i := 709) (by decide +kernel)) (by decide +kernel)
theorem tw_227 : Cond.code yX3_measure cX3_measure 6 none ∈ Tg := tg_tab (List.mem_of_getElem? (i := 296) (by decide +kernel)) (by decide +kernel)
theorem tw_228 : Cond.instanceMethod yX3_measure ∈ Tg := tg_tab (List.mem_of_getElem? (i := 294) (by decide +kernel)) (by decide +kernel)
theorem tw_229 : Cond.selects RX3 yX3_measure yX3_measure ∈ Tg := tg_tab (List.mem_of_getElem? (i := 295) (by decide +kernel)) (by decide +kernel)
theorem tw_230 : Cond.fieldLink RX5 127 "WallDown$House" "slack" "I" ∈ Tg := tg_tab (List.mem_of_getElem? (i := 50) (by decide +kernel)) (by decide +kernel)
theorem tw_231 : Cond.fieldLink RX5 101 "WallDown$House" "counts" "[I" ∈ Tg := tg_tab (List.mem_of_getElem? (i := 39) (by decide +kernel)) (by decide +kernel)
theorem tw_232 : Cond.methodLink RX5 112 yX0_put ∈ Tg := tg_tab (List.mem_of_getElem? (i := 685) (by decide +kernel)) (by decide +kernel)
theorem tw_233 : Cond.code yX0_put cX0_put 6 none ∈ Tg := tg_tab (List.mem_of_getElem? (i := 244) (by decide +kernel)) (by decide +kernel)
theorem tw_234 : Cond.instanceMethod yX0_put ∈ Tg := tg_tab (List.mem_of_getElem? (i := 242) (by decide +kernel)) (by decide +kernel)
theorem tw_235 : Cond.selects RX0 yX0_put yX0_put ∈ Tg := tg_tab (List.mem_of_getElem? (i := 243) (by decide +kernel)) (by decide +kernel)
theorem tw_236 : Cond.fieldLink RX5 124 "WallDown$House" "wedges" "[I" ∈ Tg := tg_tab (List.mem_of_getElem? (i := 44) (by decide +kernel)) (by decide +kernel)
theorem tw_237 : Cond.methodLink RX5 61 yX5_tellStone ∈ Tg := tg_tab (List.mem_of_getElem? (i := 675) (by decide +kernel)) (by decide +kernel)
theorem tw_238 : Cond.initialized RX5 ∈ Tg := tg_tab (List.mem_of_getElem? (i := 5) (by decide +kernel)) (by decide +kernel)
theorem tw_239 : Cond.code yX5_tellStone cX5_tellStone 5 (some .boolean) ∈ Tg := tg_tab (List.mem_of_getElem? (i := 678) (by decide +kernel)) (by decide +kernel)
theorem tw_240 : Cond.instanceMethod yX5_tellStone ∈ Tg := tg_tab (List.mem_of_getElem? (i := 677) (by decide +kernel)) (by decide +kernel)
theorem tw_241 : Cond.selects RX5 yX5_tellStone yX5_tellStone ∈ Tg := tg_in (List.mem_of_getElem? (i := 13) (by decide +kernel)) (by decide +kernel)
theorem tw_242 : Cond.methodLink RX5 53 yX5_nameOf ∈ Tg := tg_tab (List.mem_of_getElem? (i := 613) (by decide +kernel)) (by decide +kernel)
theorem tw_243 : Cond.code yX5_nameOf cX5_nameOf 1 (some (.object "java/lang/String")) ∈ Tg := tg_tab (List.mem_of_getElem? (i := 615) (by decide +kernel)) (by decide +kernel)
theorem tw_244 : Cond.static yX5_nameOf ∈ Tg := tg_tab (List.mem_of_getElem? (i := 614) (by decide +kernel)) (by decide +kernel)
theorem tw_245 : Cond.methodLink RX5 82 yX5_tellPulls ∈ Tg := tg_tab (List.mem_of_getElem? (i := 705) (by decide +kernel)) (by decide +kernel)
theorem tw_246 : Cond.code yX5_tellPulls cX5_tellPulls 2 (some .boolean) ∈ Tg := tg_tab (List.mem_of_getElem? (i := 708) (by decide +kernel)) (by decide +kernel)
theorem tw_247 : Cond.instanceMethod yX5_tellPulls ∈ Tg := tg_tab (List.mem_of_getElem? (i := 707) (by decide +kernel)) (by decide +kernel)
theorem tw_248 : Cond.selects RX5 yX5_tellPulls yX5_tellPulls ∈ Tg := tg_in (List.mem_of_getElem? (i := 17) (by decide +kernel)) (by decide +kernel)
theorem tw_249 : Cond.methodLink RX5 77 yX5_tellSlack ∈ Tg := tg_tab (List.mem_of_getElem? (i := 700) (by decide +kernel)) (by decide +kernel)
theorem tw_250 : Cond.code yX5_tellSlack cX5_tellSlack 1 (some .boolean) ∈ Tg := tg_tab (List.mem_of_getElem? (i := 703) (by decide +kernel)) (by decide +kernel)
theorem tw_251 : Cond.instanceMethod yX5_tellSlack ∈ Tg := tg_tab (List.mem_of_getElem? (i := 702) (by decide +kernel)) (by decide +kernel)
theorem tw_252 : Cond.selects RX5 yX5_tellSlack yX5_tellSlack ∈ Tg := tg_in (List.mem_of_getElem? (i := 16) (by decide +kernel)) (by decide +kernel)
theorem tw_253 : Cond.methodLink RX5 72 yX5_tellWedge ∈ Tg := tg_tab (List.mem_of_getElem? (i := 695) (by decide +kernel)) (by decide +kernel)
theorem tw_254 : Cond.code yX5_tellWedge cX5_tellWedge 2 (some .boolean) ∈ Tg := tg_tab (List.mem_of_getElem? (i := 698) (by decide +kernel)) (by decide +kernel)
theorem tw_255 : Cond.instanceMethod yX5_tellWedge ∈ Tg := tg_tab (List.mem_of_getElem? (i := 697) (by decide +kernel)) (by decide +kernel)
theorem tw_256 : Cond.selects RX5 yX5_tellWedge yX5_tellWedge ∈ Tg := tg_in (List.mem_of_getElem? (i := 15) (by decide +kernel)) (by decide +kernel)
theorem tw_257 : Cond.methodLink RX5 67 yX5_tellBeam ∈ Tg := tg_tab (List.mem_of_getElem? (i := 687) (by decide +kernel)) (by decide +kernel)
theorem tw_258 : Cond.code yX5_tellBeam cX5_tellBeam 3 (some .boolean) ∈ Tg := tg_tab (List.mem_of_getElem? (i := 690) (by decide +kernel)) (by decide +kernel)
theorem tw_259 : Cond.instanceMethod yX5_tellBeam ∈ Tg := tg_tab (List.mem_of_getElem? (i := 689) (by decide +kernel)) (by decide +kernel)
theorem tw_260 : Cond.selects RX5 yX5_tellBeam yX5_tellBeam ∈ Tg := tg_in (List.mem_of_getElem? (i := 14) (by decide +kernel)) (by decide +kernel)
theorem tw_261 : Cond.methodLink RX5 39 yX5_tellItem ∈ Tg := tg_tab (List.mem_of_getElem? (i := 609) (by decide +kernel)) (by decide +kernel)
theorem tw_262 : Cond.code yX5_tellItem cX5_tellItem 2 (some .boolean) ∈ Tg := tg_tab (List.mem_of_getElem? (i := 612) (by decide +kernel)) (by decide +kernel)
theorem tw_263 : Cond.instanceMethod yX5_tellItem ∈ Tg := tg_tab (List.mem_of_getElem? (i := 611) (by decide +kernel)) (by decide +kernel)
theorem tw_264 : Cond.selects RX5 yX5_tellItem yX5_tellItem ∈ Tg := tg_in (List.mem_of_getElem? (i := 12) (by decide +kernel)) (by decide +kernel)
theorem tw_265 : Cond.fieldLink RX5 50 "WallDown$Tape" "start" "I" ∈ Tg := tg_tab (List.mem_of_getElem? (i := 137) (by decide +kernel)) (by decide +kernel)
theorem tw_266 : Cond.methodLink RX5 36 yX4_rewind ∈ Tg := tg_tab (List.mem_of_getElem? (i := 583) (by decide +kernel)) (by decide +kernel)
theorem tw_267 : Cond.code yX4_rewind cX4_rewind 1 none ∈ Tg := tg_tab (List.mem_of_getElem? (i := 586) (by decide +kernel)) (by decide +kernel)
theorem tw_268 : Cond.instanceMethod yX4_rewind ∈ Tg := tg_tab (List.mem_of_getElem? (i := 584) (by decide +kernel)) (by decide +kernel)
theorem tw_269 : Cond.selects RX4 yX4_rewind yX4_rewind ∈ Tg := tg_tab (List.mem_of_getElem? (i := 585) (by decide +kernel)) (by decide +kernel)
theorem tw_270 : Cond.methodLink RX5 32 yX0_becomeLike ∈ Tg := tg_tab (List.mem_of_getElem? (i := 582) (by decide +kernel)) (by decide +kernel)
theorem tw_271 : Cond.code yX0_becomeLike cX0_becomeLike 2 none ∈ Tg := tg_tab (List.mem_of_getElem? (i := 289) (by decide +kernel)) (by decide +kernel)
theorem tw_272 : Cond.instanceMethod yX0_becomeLike ∈ Tg := tg_tab (List.mem_of_getElem? (i := 287) (by decide +kernel)) (by decide +kernel)
theorem tw_273 : Cond.selects RX0 yX0_becomeLike yX0_becomeLike ∈ Tg := tg_tab (List.mem_of_getElem? (i := 288) (by decide +kernel)) (by decide +kernel)
theorem tw_274 : Cond.constant RX6 64 (-1000000001) ∈ Tg := tg_tab (List.mem_of_getElem? (i := 235) (by decide +kernel)) (by decide +kernel)
theorem tw_275 : Cond.fieldLink RX6 49 "WallDown" "found" "[I" ∈ Tg := tg_tab (List.mem_of_getElem? (i := 198) (by decide +kernel)) (by decide +kernel)
theorem tw_276 : Cond.methodLink RX6 116 yX6_isWithin ∈ Tg := tg_tab (List.mem_of_getElem? (i := 226) (by decide +kernel)) (by decide +kernel)
theorem tw_277 : Cond.methodLink RX6 65 yX6_finding ∈ Tg := tg_tab (List.mem_of_getElem? (i := 236) (by decide +kernel)) (by decide +kernel)
theorem tw_278 : Cond.code yX6_finding cX6_finding 3 (some .int) ∈ Tg := tg_tab (List.mem_of_getElem? (i := 239) (by decide +kernel)) (by decide +kernel)
theorem tw_279 : Cond.instanceMethod yX6_finding ∈ Tg := tg_tab (List.mem_of_getElem? (i := 238) (by decide +kernel)) (by decide +kernel)
theorem tw_280 : Cond.selects RX6 yX6_finding yX6_finding ∈ Tg := tg_in (List.mem_of_getElem? (i := 0) (by decide +kernel)) (by decide +kernel)
theorem tw_281 : Cond.fieldLink RX6 12 "WallDown" "house" "LWallDown$House;" ∈ Tg := tg_tab (List.mem_of_getElem? (i := 191) (by decide +kernel)) (by decide +kernel)
theorem tw_282 : Cond.fieldLink RX6 69 "WallDown$House" "counts" "[I" ∈ Tg := tg_tab (List.mem_of_getElem? (i := 38) (by decide +kernel)) (by decide +kernel)
theorem tw_283 : Cond.methodLink RX6 73 yX0_put ∈ Tg := tg_tab (List.mem_of_getElem? (i := 241) (by decide +kernel)) (by decide +kernel)
theorem tw_284 : Cond.constant RX6 72 (-1000000002) ∈ Tg := tg_tab (List.mem_of_getElem? (i := 240) (by decide +kernel)) (by decide +kernel)
theorem tw_285 : Cond.methodLink RX6 61 yX6_isHigh ∈ Tg := tg_tab (List.mem_of_getElem? (i := 232) (by decide +kernel)) (by decide +kernel)
theorem tw_286 : Cond.code yX6_isHigh cX6_isHigh 1 (some .boolean) ∈ Tg := tg_tab (List.mem_of_getElem? (i := 234) (by decide +kernel)) (by decide +kernel)
theorem tw_287 : Cond.static yX6_isHigh ∈ Tg := tg_tab (List.mem_of_getElem? (i := 233) (by decide +kernel)) (by decide +kernel)
theorem tw_288 : Cond.methodLink RX6 58 yX6_isWall ∈ Tg := tg_tab (List.mem_of_getElem? (i := 229) (by decide +kernel)) (by decide +kernel)
theorem tw_289 : Cond.code yX6_isWall cX6_isWall 1 (some .boolean) ∈ Tg := tg_tab (List.mem_of_getElem? (i := 231) (by decide +kernel)) (by decide +kernel)
theorem tw_290 : Cond.static yX6_isWall ∈ Tg := tg_tab (List.mem_of_getElem? (i := 230) (by decide +kernel)) (by decide +kernel)
theorem tw_291 : Cond.methodLink RX6 54 yX6_isKind ∈ Tg := tg_tab (List.mem_of_getElem? (i := 223) (by decide +kernel)) (by decide +kernel)
theorem tw_292 : Cond.code yX6_isKind cX6_isKind 1 (some .boolean) ∈ Tg := tg_tab (List.mem_of_getElem? (i := 225) (by decide +kernel)) (by decide +kernel)
theorem tw_293 : Cond.static yX6_isKind ∈ Tg := tg_tab (List.mem_of_getElem? (i := 224) (by decide +kernel)) (by decide +kernel)
theorem tw_294 : Cond.fieldLink RX6 77 "WallDown$House" "wedges" "[I" ∈ Tg := tg_tab (List.mem_of_getElem? (i := 42) (by decide +kernel)) (by decide +kernel)
theorem tw_295 : Cond.methodLink RX6 80 yX0_topOf ∈ Tg := tg_tab (List.mem_of_getElem? (i := 252) (by decide +kernel)) (by decide +kernel)
theorem tw_296 : Cond.methodLink RX6 83 yX0_coinsOf ∈ Tg := tg_tab (List.mem_of_getElem? (i := 263) (by decide +kernel)) (by decide +kernel)
theorem tw_297 : Cond.fieldLink RX6 19 "WallDown" "trial" "LWallDown$House;" ∈ Tg := tg_tab (List.mem_of_getElem? (i := 193) (by decide +kernel)) (by decide +kernel)
theorem tw_298 : Cond.fieldLink RX6 94 "WallDown$House" "kinds" "[I" ∈ Tg := tg_tab (List.mem_of_getElem? (i := 31) (by decide +kernel)) (by decide +kernel)
theorem tw_299 : Cond.fieldLink RX6 25 "WallDown" "survey" "LWallDown$Survey;" ∈ Tg := tg_tab (List.mem_of_getElem? (i := 194) (by decide +kernel)) (by decide +kernel)
theorem tw_300 : Cond.fieldLink RX6 156 "WallDown$Survey" "now" "I" ∈ Tg := tg_tab (List.mem_of_getElem? (i := 88) (by decide +kernel)) (by decide +kernel)
theorem tw_301 : Cond.methodLink RX6 305 yX3_lowestMayGo ∈ Tg := tg_tab (List.mem_of_getElem? (i := 307) (by decide +kernel)) (by decide +kernel)
theorem tw_302 : Cond.methodLink RX6 152 yX3_measure ∈ Tg := tg_tab (List.mem_of_getElem? (i := 293) (by decide +kernel)) (by decide +kernel)
theorem tw_303 : Cond.methodLink RX6 90 yX0_place ∈ Tg := tg_tab (List.mem_of_getElem? (i := 279) (by decide +kernel)) (by decide +kernel)
theorem tw_304 : Cond.methodLink RX6 216 yX0_becomeLike ∈ Tg := tg_tab (List.mem_of_getElem? (i := 286) (by decide +kernel)) (by decide +kernel)
theorem tw_305 : Cond.fieldLink RX6 97 "WallDown$House" "highs" "[I" ∈ Tg := tg_tab (List.mem_of_getElem? (i := 34) (by decide +kernel)) (by decide +kernel)
theorem tw_306 : Cond.fieldLink RX6 100 "WallDown$House" "prices" "[I" ∈ Tg := tg_tab (List.mem_of_getElem? (i := 36) (by decide +kernel)) (by decide +kernel)
theorem tw_307 : Cond.methodLink RX6 103 yX0_tallOf ∈ Tg := tg_tab (List.mem_of_getElem? (i := 280) (by decide +kernel)) (by decide +kernel)
theorem tw_308 : Cond.methodLink RX6 106 yX0_coinOf ∈ Tg := tg_tab (List.mem_of_getElem? (i := 281) (by decide +kernel)) (by decide +kernel)
theorem tw_309 : Cond.methodLink RX6 112 yX6_asNumber ∈ Tg := tg_tab (List.mem_of_getElem? (i := 314) (by decide +kernel)) (by decide +kernel)
theorem tw_310 : Cond.code yX6_asNumber cX6_asNumber 1 (some .int) ∈ Tg := tg_tab (List.mem_of_getElem? (i := 316) (by decide +kernel)) (by decide +kernel)
theorem tw_311 : Cond.static yX6_asNumber ∈ Tg := tg_tab (List.mem_of_getElem? (i := 315) (by decide +kernel)) (by decide +kernel)
theorem tw_312 : Cond.methodLink RX6 109 yX6_mayGoAsLowest ∈ Tg := tg_tab (List.mem_of_getElem? (i := 282) (by decide +kernel)) (by decide +kernel)
theorem tw_313 : Cond.code yX6_mayGoAsLowest cX6_mayGoAsLowest 3 (some .boolean) ∈ Tg := tg_tab (List.mem_of_getElem? (i := 285) (by decide +kernel)) (by decide +kernel)
theorem tw_314 : Cond.instanceMethod yX6_mayGoAsLowest ∈ Tg := tg_tab (List.mem_of_getElem? (i := 284) (by decide +kernel)) (by decide +kernel)
theorem tw_315 : Cond.selects RX6 yX6_mayGoAsLowest yX6_mayGoAsLowest ∈ Tg := tg_in (List.mem_of_getElem? (i := 2) (by decide +kernel)) (by decide +kernel)
theorem tw_316 : Cond.methodLink RX6 86 yX6_isStone ∈ Tg := tg_tab (List.mem_of_getElem? (i := 275) (by decide +kernel)) (by decide +kernel)
theorem tw_317 : Cond.code yX6_isStone cX6_isStone 3 (some .boolean) ∈ Tg := tg_tab (List.mem_of_getElem? (i := 278) (by decide +kernel)) (by decide +kernel)
theorem tw_318 : Cond.instanceMethod yX6_isStone ∈ Tg := tg_tab (List.mem_of_getElem? (i := 277) (by decide +kernel)) (by decide +kernel)
theorem tw_319 : Cond.selects RX6 yX6_isStone yX6_isStone ∈ Tg := tg_in (List.mem_of_getElem? (i := 1) (by decide +kernel)) (by decide +kernel)
theorem tw_320 : Cond.fieldLink RX6 308 "WallDown" "ABOVE" "[I" ∈ Tg := tg_tab (List.mem_of_getElem? (i := 332) (by decide +kernel)) (by decide +kernel)
theorem tw_321 : Cond.constant RX6 123 (-1000000003) ∈ Tg := tg_tab (List.mem_of_getElem? (i := 334) (by decide +kernel)) (by decide +kernel)
theorem tw_322 : Cond.methodLink RX6 120 yX6_isUnder ∈ Tg := tg_tab (List.mem_of_getElem? (i := 329) (by decide +kernel)) (by decide +kernel)
theorem tw_323 : Cond.code yX6_isUnder cX6_isUnder 4 (some .boolean) ∈ Tg := tg_tab (List.mem_of_getElem? (i := 331) (by decide +kernel)) (by decide +kernel)
theorem tw_324 : Cond.static yX6_isUnder ∈ Tg := tg_tab (List.mem_of_getElem? (i := 330) (by decide +kernel)) (by decide +kernel)
theorem tw_325 : Cond.fieldLink RX6 124 "WallDown$House" "slack" "I" ∈ Tg := tg_tab (List.mem_of_getElem? (i := 51) (by decide +kernel)) (by decide +kernel)
theorem tw_326 : Cond.fieldLink RX6 128 "WallDown$House" "beams" "I" ∈ Tg := tg_tab (List.mem_of_getElem? (i := 47) (by decide +kernel)) (by decide +kernel)
theorem tw_327 : Cond.methodLink RX6 131 yX0_layBeam ∈ Tg := tg_tab (List.mem_of_getElem? (i := 347) (by decide +kernel)) (by decide +kernel)
theorem tw_328 : Cond.fieldLink RX6 135 "WallDown$House" "night" "I" ∈ Tg := tg_tab (List.mem_of_getElem? (i := 53) (by decide +kernel)) (by decide +kernel)
theorem tw_329 : Cond.methodLink RX6 139 yX0_allTops ∈ Tg := tg_tab (List.mem_of_getElem? (i := 356) (by decide +kernel)) (by decide +kernel)
theorem tw_330 : Cond.code yX0_allTops cX0_allTops 3 (some .int) ∈ Tg := tg_tab (List.mem_of_getElem? (i := 359) (by decide +kernel)) (by decide +kernel)
theorem tw_331 : Cond.instanceMethod yX0_allTops ∈ Tg := tg_tab (List.mem_of_getElem? (i := 357) (by decide +kernel)) (by decide +kernel)
theorem tw_332 : Cond.selects RX0 yX0_allTops yX0_allTops ∈ Tg := tg_tab (List.mem_of_getElem? (i := 358) (by decide +kernel)) (by decide +kernel)
theorem tw_333 : Cond.constant RX6 138 (-1000000005) ∈ Tg := tg_tab (List.mem_of_getElem? (i := 355) (by decide +kernel)) (by decide +kernel)
theorem tw_334 : Cond.fieldLink RX6 143 "WallDown$House" "purse" "I" ∈ Tg := tg_tab (List.mem_of_getElem? (i := 55) (by decide +kernel)) (by decide +kernel)
theorem tw_335 : Cond.methodLink RX6 146 yX0_allStones ∈ Tg := tg_tab (List.mem_of_getElem? (i := 365) (by decide +kernel)) (by decide +kernel)
theorem tw_336 : Cond.code yX0_allStones cX0_allStones 1 (some .int) ∈ Tg := tg_tab (List.mem_of_getElem? (i := 368) (by decide +kernel)) (by decide +kernel)
theorem tw_337 : Cond.instanceMethod yX0_allStones ∈ Tg := tg_tab (List.mem_of_getElem? (i := 366) (by decide +kernel)) (by decide +kernel)
theorem tw_338 : Cond.selects RX0 yX0_allStones yX0_allStones ∈ Tg := tg_tab (List.mem_of_getElem? (i := 367) (by decide +kernel)) (by decide +kernel)
theorem tw_339 : Cond.methodLink RX6 149 yX0_standNow ∈ Tg := tg_tab (List.mem_of_getElem? (i := 373) (by decide +kernel)) (by decide +kernel)
theorem tw_340 : Cond.methodLink RX6 159 yX3_unlikeAt ∈ Tg := tg_tab (List.mem_of_getElem? (i := 374) (by decide +kernel)) (by decide +kernel)
theorem tw_341 : Cond.methodLink RX6 165 yX0_takeLowest ∈ Tg := tg_tab (List.mem_of_getElem? (i := 393) (by decide +kernel)) (by decide +kernel)
theorem tw_342 : Cond.methodLink RX6 162 yX3_canPullAt ∈ Tg := tg_tab (List.mem_of_getElem? (i := 386) (by decide +kernel)) (by decide +kernel)
theorem tw_343 : Cond.fieldLink RX6 32 "WallDown" "rows" "LWallDown$Rows;" ∈ Tg := tg_tab (List.mem_of_getElem? (i := 195) (by decide +kernel)) (by decide +kernel)
theorem tw_344 : Cond.methodLink RX6 287 yX1_fill ∈ Tg := tg_tab (List.mem_of_getElem? (i := 424) (by decide +kernel)) (by decide +kernel)
theorem tw_345 : Cond.code yX1_fill cX1_fill 6 (some .int) ∈ Tg := tg_tab (List.mem_of_getElem? (i := 427) (by decide +kernel)) (by decide +kernel)
theorem tw_346 : Cond.instanceMethod yX1_fill ∈ Tg := tg_tab (List.mem_of_getElem? (i := 425) (by decide +kernel)) (by decide +kernel)
theorem tw_347 : Cond.selects RX1 yX1_fill yX1_fill ∈ Tg := tg_tab (List.mem_of_getElem? (i := 426) (by decide +kernel)) (by decide +kernel)
theorem tw_348 : Cond.fieldLink RX6 184 "WallDown$Rows" "ways" "[J" ∈ Tg := tg_tab (List.mem_of_getElem? (i := 112) (by decide +kernel)) (by decide +kernel)
theorem tw_349 : Cond.methodLink RX6 176 yX6_standsOf ∈ Tg := tg_tab (List.mem_of_getElem? (i := 420) (by decide +kernel)) (by decide +kernel)
theorem tw_350 : Cond.code yX6_standsOf cX6_standsOf 2 (some .int) ∈ Tg := tg_tab (List.mem_of_getElem? (i := 423) (by decide +kernel)) (by decide +kernel)
theorem tw_351 : Cond.instanceMethod yX6_standsOf ∈ Tg := tg_tab (List.mem_of_getElem? (i := 422) (by decide +kernel)) (by decide +kernel)
theorem tw_352 : Cond.selects RX6 yX6_standsOf yX6_standsOf ∈ Tg := tg_in (List.mem_of_getElem? (i := 5) (by decide +kernel)) (by decide +kernel)
theorem tw_353 : Cond.methodLink RX6 302 yX3_isPartOf ∈ Tg := tg_tab (List.mem_of_getElem? (i := 413) (by decide +kernel)) (by decide +kernel)
theorem tw_354 : Cond.methodLink RX6 172 yX6_canBe ∈ Tg := tg_tab (List.mem_of_getElem? (i := 416) (by decide +kernel)) (by decide +kernel)
theorem tw_355 : Cond.code yX6_canBe cX6_canBe 3 (some .boolean) ∈ Tg := tg_tab (List.mem_of_getElem? (i := 419) (by decide +kernel)) (by decide +kernel)
theorem tw_356 : Cond.instanceMethod yX6_canBe ∈ Tg := tg_tab (List.mem_of_getElem? (i := 418) (by decide +kernel)) (by decide +kernel)
theorem tw_357 : Cond.selects RX6 yX6_canBe yX6_canBe ∈ Tg := tg_in (List.mem_of_getElem? (i := 4) (by decide +kernel)) (by decide +kernel)
theorem tw_358 : Cond.methodLink RX6 169 yX6_isStand ∈ Tg := tg_tab (List.mem_of_getElem? (i := 409) (by decide +kernel)) (by decide +kernel)
theorem tw_359 : Cond.code yX6_isStand cX6_isStand 2 (some .boolean) ∈ Tg := tg_tab (List.mem_of_getElem? (i := 412) (by decide +kernel)) (by decide +kernel)
theorem tw_360 : Cond.instanceMethod yX6_isStand ∈ Tg := tg_tab (List.mem_of_getElem? (i := 411) (by decide +kernel)) (by decide +kernel)
theorem tw_361 : Cond.selects RX6 yX6_isStand yX6_isStand ∈ Tg := tg_in (List.mem_of_getElem? (i := 3) (by decide +kernel)) (by decide +kernel)
theorem tw_362 : Cond.methodLink RX6 180 yX1_leastStand ∈ Tg := tg_tab (List.mem_of_getElem? (i := 458) (by decide +kernel)) (by decide +kernel)
theorem tw_363 : Cond.code yX1_leastStand cX1_leastStand 4 (some .int) ∈ Tg := tg_tab (List.mem_of_getElem? (i := 461) (by decide +kernel)) (by decide +kernel)
theorem tw_364 : Cond.instanceMethod yX1_leastStand ∈ Tg := tg_tab (List.mem_of_getElem? (i := 459) (by decide +kernel)) (by decide +kernel)
theorem tw_365 : Cond.selects RX1 yX1_leastStand yX1_leastStand ∈ Tg := tg_tab (List.mem_of_getElem? (i := 460) (by decide +kernel)) (by decide +kernel)
theorem tw_366 : Cond.constant RX6 196 (-1000000004) ∈ Tg := tg_tab (List.mem_of_getElem? (i := 482) (by decide +kernel)) (by decide +kernel)
theorem tw_367 : Cond.methodLink RX6 192 yX1_leadFrom ∈ Tg := tg_tab (List.mem_of_getElem? (i := 481) (by decide +kernel)) (by decide +kernel)
theorem tw_368 : Cond.methodLink RX6 188 yX1_lead ∈ Tg := tg_tab (List.mem_of_getElem? (i := 471) (by decide +kernel)) (by decide +kernel)
theorem tw_369 : Cond.code yX1_lead cX1_lead 4 none ∈ Tg := tg_tab (List.mem_of_getElem? (i := 474) (by decide +kernel)) (by decide +kernel)
theorem tw_370 : Cond.instanceMethod yX1_lead ∈ Tg := tg_tab (List.mem_of_getElem? (i := 472) (by decide +kernel)) (by decide +kernel)
theorem tw_371 : Cond.selects RX1 yX1_lead yX1_lead ∈ Tg := tg_tab (List.mem_of_getElem? (i := 473) (by decide +kernel)) (by decide +kernel)
theorem tw_372 : Cond.methodLink RX6 197 yX3_unit ∈ Tg := tg_tab (List.mem_of_getElem? (i := 487) (by decide +kernel)) (by decide +kernel)
theorem tw_373 : Cond.methodLink RX6 200 yX6_leastSlack ∈ Tg := tg_tab (List.mem_of_getElem? (i := 492) (by decide +kernel)) (by decide +kernel)
theorem tw_374 : Cond.code yX6_leastSlack cX6_leastSlack 4 (some .int) ∈ Tg := tg_tab (List.mem_of_getElem? (i := 495) (by decide +kernel)) (by decide +kernel)
theorem tw_375 : Cond.instanceMethod yX6_leastSlack ∈ Tg := tg_tab (List.mem_of_getElem? (i := 494) (by decide +kernel)) (by decide +kernel)
theorem tw_376 : Cond.selects RX6 yX6_leastSlack yX6_leastSlack ∈ Tg := tg_in (List.mem_of_getElem? (i := 6) (by decide +kernel)) (by decide +kernel)
theorem tw_377 : Cond.methodLink RX6 284 yX1_bestUpTo ∈ Tg := tg_tab (List.mem_of_getElem? (i := 519) (by decide +kernel)) (by decide +kernel)
theorem tw_378 : Cond.code yX1_bestUpTo cX1_bestUpTo 6 (some .int) ∈ Tg := tg_tab (List.mem_of_getElem? (i := 522) (by decide +kernel)) (by decide +kernel)
theorem tw_379 : Cond.instanceMethod yX1_bestUpTo ∈ Tg := tg_tab (List.mem_of_getElem? (i := 520) (by decide +kernel)) (by decide +kernel)
theorem tw_380 : Cond.selects RX1 yX1_bestUpTo yX1_bestUpTo ∈ Tg := tg_tab (List.mem_of_getElem? (i := 521) (by decide +kernel)) (by decide +kernel)
theorem tw_381 : Cond.methodLink RX6 280 yX1_rank ∈ Tg := tg_tab (List.mem_of_getElem? (i := 508) (by decide +kernel)) (by decide +kernel)
theorem tw_382 : Cond.code yX1_rank cX1_rank 4 none ∈ Tg := tg_tab (List.mem_of_getElem? (i := 511) (by decide +kernel)) (by decide +kernel)
theorem tw_383 : Cond.instanceMethod yX1_rank ∈ Tg := tg_tab (List.mem_of_getElem? (i := 509) (by decide +kernel)) (by decide +kernel)
theorem tw_384 : Cond.selects RX1 yX1_rank yX1_rank ∈ Tg := tg_tab (List.mem_of_getElem? (i := 510) (by decide +kernel)) (by decide +kernel)
theorem tw_385 : Cond.methodLink RX6 206 yX3_coinAt ∈ Tg := tg_tab (List.mem_of_getElem? (i := 523) (by decide +kernel)) (by decide +kernel)
theorem tw_386 : Cond.methodLink RX6 203 yX6_bestStand ∈ Tg := tg_tab (List.mem_of_getElem? (i := 504) (by decide +kernel)) (by decide +kernel)
theorem tw_387 : Cond.code yX6_bestStand cX6_bestStand 2 (some .int) ∈ Tg := tg_tab (List.mem_of_getElem? (i := 507) (by decide +kernel)) (by decide +kernel)
theorem tw_388 : Cond.instanceMethod yX6_bestStand ∈ Tg := tg_tab (List.mem_of_getElem? (i := 506) (by decide +kernel)) (by decide +kernel)
theorem tw_389 : Cond.selects RX6 yX6_bestStand yX6_bestStand ∈ Tg := tg_in (List.mem_of_getElem? (i := 7) (by decide +kernel)) (by decide +kernel)
theorem tw_390 : Cond.methodLink RX6 209 yX1_fewestPulls ∈ Tg := tg_tab (List.mem_of_getElem? (i := 532) (by decide +kernel)) (by decide +kernel)
theorem tw_391 : Cond.code yX1_fewestPulls cX1_fewestPulls 7 (some .int) ∈ Tg := tg_tab (List.mem_of_getElem? (i := 535) (by decide +kernel)) (by decide +kernel)
theorem tw_392 : Cond.instanceMethod yX1_fewestPulls ∈ Tg := tg_tab (List.mem_of_getElem? (i := 533) (by decide +kernel)) (by decide +kernel)
theorem tw_393 : Cond.selects RX1 yX1_fewestPulls yX1_fewestPulls ∈ Tg := tg_tab (List.mem_of_getElem? (i := 534) (by decide +kernel)) (by decide +kernel)
theorem tw_394 : Cond.methodLink RX6 213 yX1_fewestLeft ∈ Tg := tg_tab (List.mem_of_getElem? (i := 542) (by decide +kernel)) (by decide +kernel)
theorem tw_395 : Cond.code yX1_fewestLeft cX1_fewestLeft 5 (some .int) ∈ Tg := tg_tab (List.mem_of_getElem? (i := 545) (by decide +kernel)) (by decide +kernel)
theorem tw_396 : Cond.instanceMethod yX1_fewestLeft ∈ Tg := tg_tab (List.mem_of_getElem? (i := 543) (by decide +kernel)) (by decide +kernel)
theorem tw_397 : Cond.selects RX1 yX1_fewestLeft yX1_fewestLeft ∈ Tg := tg_tab (List.mem_of_getElem? (i := 544) (by decide +kernel)) (by decide +kernel)
theorem tw_398 : Cond.fieldLink RX6 39 "WallDown" "teller" "LWallDown$Teller;" ∈ Tg := tg_tab (List.mem_of_getElem? (i := 196) (by decide +kernel)) (by decide +kernel)
theorem tw_399 : Cond.fieldLink RX6 219 "WallDown$Teller" "tape" "LWallDown$Tape;" ∈ Tg := tg_tab (List.mem_of_getElem? (i := 160) (by decide +kernel)) (by decide +kernel)
theorem tw_400 : Cond.fieldLink RX6 223 "WallDown$Tape" "length" "I" ∈ Tg := tg_tab (List.mem_of_getElem? (i := 134) (by decide +kernel)) (by decide +kernel)
theorem tw_401 : Cond.methodLink RX6 228 yX4_append ∈ Tg := tg_tab (List.mem_of_getElem? (i := 566) (by decide +kernel)) (by decide +kernel)
theorem tw_402 : Cond.code yX4_append cX4_append 2 none ∈ Tg := tg_tab (List.mem_of_getElem? (i := 569) (by decide +kernel)) (by decide +kernel)
theorem tw_403 : Cond.instanceMethod yX4_append ∈ Tg := tg_tab (List.mem_of_getElem? (i := 567) (by decide +kernel)) (by decide +kernel)
theorem tw_404 : Cond.selects RX4 yX4_append yX4_append ∈ Tg := tg_tab (List.mem_of_getElem? (i := 568) (by decide +kernel)) (by decide +kernel)
theorem tw_405 : Cond.fieldLink RX6 234 "WallDown$Teller" "site" "LWallDown$House;" ∈ Tg := tg_tab (List.mem_of_getElem? (i := 162) (by decide +kernel)) (by decide +kernel)
theorem tw_406 : Cond.methodLink RX6 231 yX5_tell ∈ Tg := tg_tab (List.mem_of_getElem? (i := 578) (by decide +kernel)) (by decide +kernel)
theorem tw_407 : Cond.code yX5_tell cX5_tell 3 (some .int) ∈ Tg := tg_tab (List.mem_of_getElem? (i := 581) (by decide +kernel)) (by decide +kernel)
theorem tw_408 : Cond.instanceMethod yX5_tell ∈ Tg := tg_tab (List.mem_of_getElem? (i := 579) (by decide +kernel)) (by decide +kernel)
theorem tw_409 : Cond.selects RX5 yX5_tell yX5_tell ∈ Tg := tg_tab (List.mem_of_getElem? (i := 580) (by decide +kernel)) (by decide +kernel)
theorem tw_410 : Cond.fieldLink RX6 45 "WallDown" "sheets" "[LWallDown$Sheet;" ∈ Tg := tg_tab (List.mem_of_getElem? (i := 197) (by decide +kernel)) (by decide +kernel)
theorem tw_411 : Cond.fieldLink RX6 248 "WallDown$Sheet" "size" "I" ∈ Tg := tg_tab (List.mem_of_getElem? (i := 183) (by decide +kernel)) (by decide +kernel)
theorem tw_412 : Cond.methodLink RX6 244 yX2_layOut ∈ Tg := tg_tab (List.mem_of_getElem? (i := 724) (by decide +kernel)) (by decide +kernel)
theorem tw_413 : Cond.code yX2_layOut cX2_layOut 3 none ∈ Tg := tg_tab (List.mem_of_getElem? (i := 727) (by decide +kernel)) (by decide +kernel)
theorem tw_414 : Cond.instanceMethod yX2_layOut ∈ Tg := tg_tab (List.mem_of_getElem? (i := 725) (by decide +kernel)) (by decide +kernel)
theorem tw_415 : Cond.selects RX2 yX2_layOut yX2_layOut ∈ Tg := tg_tab (List.mem_of_getElem? (i := 726) (by decide +kernel)) (by decide +kernel)
theorem tw_416 : Cond.constant RX6 243 (-1000000007) ∈ Tg := tg_tab (List.mem_of_getElem? (i := 723) (by decide +kernel)) (by decide +kernel)
theorem tw_417 : Cond.methodLink RX6 240 yX6_isWidth ∈ Tg := tg_tab (List.mem_of_getElem? (i := 720) (by decide +kernel)) (by decide +kernel)
theorem tw_418 : Cond.code yX6_isWidth cX6_isWidth 1 (some .boolean) ∈ Tg := tg_tab (List.mem_of_getElem? (i := 722) (by decide +kernel)) (by decide +kernel)
theorem tw_419 : Cond.static yX6_isWidth ∈ Tg := tg_tab (List.mem_of_getElem? (i := 721) (by decide +kernel)) (by decide +kernel)
theorem tw_420 : Cond.methodLink RX6 237 yX6_isSheet ∈ Tg := tg_tab (List.mem_of_getElem? (i := 717) (by decide +kernel)) (by decide +kernel)
theorem tw_421 : Cond.code yX6_isSheet cX6_isSheet 1 (some .boolean) ∈ Tg := tg_tab (List.mem_of_getElem? (i := 719) (by decide +kernel)) (by decide +kernel)
theorem tw_422 : Cond.static yX6_isSheet ∈ Tg := tg_tab (List.mem_of_getElem? (i := 718) (by decide +kernel)) (by decide +kernel)
theorem tw_423 : Cond.fieldLink RX6 260 "WallDown$Sheet" "bits" "I" ∈ Tg := tg_tab (List.mem_of_getElem? (i := 181) (by decide +kernel)) (by decide +kernel)
theorem tw_424 : Cond.constant RX6 263 (-1000000006) ∈ Tg := tg_tab (List.mem_of_getElem? (i := 739) (by decide +kernel)) (by decide +kernel)
theorem tw_425 : Cond.fieldLink RX6 254 "WallDown$Sheet" "numbers" "[J" ∈ Tg := tg_tab (List.mem_of_getElem? (i := 179) (by decide +kernel)) (by decide +kernel)
theorem tw_426 : Cond.methodLink RX6 257 yX2_put ∈ Tg := tg_tab (List.mem_of_getElem? (i := 740) (by decide +kernel)) (by decide +kernel)
theorem tw_427 : Cond.code yX2_put cX2_put 5 none ∈ Tg := tg_tab (List.mem_of_getElem? (i := 743) (by decide +kernel)) (by decide +kernel)
theorem tw_428 : Cond.instanceMethod yX2_put ∈ Tg := tg_tab (List.mem_of_getElem? (i := 741) (by decide +kernel)) (by decide +kernel)
theorem tw_429 : Cond.selects RX2 yX2_put yX2_put ∈ Tg := tg_tab (List.mem_of_getElem? (i := 742) (by decide +kernel)) (by decide +kernel)
theorem tw_430 : Cond.methodLink RX6 251 yX6_sheetFinding ∈ Tg := tg_tab (List.mem_of_getElem? (i := 735) (by decide +kernel)) (by decide +kernel)
theorem tw_431 : Cond.code yX6_sheetFinding cX6_sheetFinding 2 (some .int) ∈ Tg := tg_tab (List.mem_of_getElem? (i := 738) (by decide +kernel)) (by decide +kernel)
theorem tw_432 : Cond.instanceMethod yX6_sheetFinding ∈ Tg := tg_tab (List.mem_of_getElem? (i := 737) (by decide +kernel)) (by decide +kernel)
theorem tw_433 : Cond.selects RX6 yX6_sheetFinding yX6_sheetFinding ∈ Tg := tg_in (List.mem_of_getElem? (i := 18) (by decide +kernel)) (by decide +kernel)
theorem tw_434 : Cond.methodLink RX6 267 arraycopyName ∈ Tg := tg_tab (List.mem_of_getElem? (i := 752) (by decide +kernel)) (by decide +kernel)
theorem tw_435 : Cond.methodLink RX6 264 yX2_hasPart ∈ Tg := tg_tab (List.mem_of_getElem? (i := 748) (by decide +kernel)) (by decide +kernel)
theorem tw_436 : Cond.code yX2_hasPart cX2_hasPart 3 (some .boolean) ∈ Tg := tg_tab (List.mem_of_getElem? (i := 751) (by decide +kernel)) (by decide +kernel)
theorem tw_437 : Cond.instanceMethod yX2_hasPart ∈ Tg := tg_tab (List.mem_of_getElem? (i := 749) (by decide +kernel)) (by decide +kernel)
theorem tw_438 : Cond.selects RX2 yX2_hasPart yX2_hasPart ∈ Tg := tg_tab (List.mem_of_getElem? (i := 750) (by decide +kernel)) (by decide +kernel)
theorem tw_439 : Cond.constantLong RX6 273 (4) ∈ Tg := tg_tab (List.mem_of_getElem? (i := 757) (by decide +kernel)) (by decide +kernel)
theorem tw_440 : Cond.methodLink RX6 275 Lib.Math.min.name ∈ Tg := tg_tab (List.mem_of_getElem? (i := 762) (by decide +kernel)) (by decide +kernel)
theorem tw_441 : Cond.methodLink RX6 291 yX1_waysBy ∈ Tg := tg_tab (List.mem_of_getElem? (i := 767) (by decide +kernel)) (by decide +kernel)
theorem tw_442 : Cond.code yX1_waysBy cX1_waysBy 6 (some .long) ∈ Tg := tg_tab (List.mem_of_getElem? (i := 770) (by decide +kernel)) (by decide +kernel)
theorem tw_443 : Cond.instanceMethod yX1_waysBy ∈ Tg := tg_tab (List.mem_of_getElem? (i := 768) (by decide +kernel)) (by decide +kernel)
theorem tw_444 : Cond.selects RX1 yX1_waysBy yX1_waysBy ∈ Tg := tg_tab (List.mem_of_getElem? (i := 769) (by decide +kernel)) (by decide +kernel)
theorem tw_445 : Cond.fieldLink RX6 16 "WallDown" "kept" "LWallDown$House;" ∈ Tg := tg_tab (List.mem_of_getElem? (i := 192) (by decide +kernel)) (by decide +kernel)
theorem tw_446 : Cond.fieldLink RX6 295 "WallDown" "keeps" "Z" ∈ Tg := tg_tab (List.mem_of_getElem? (i := 199) (by decide +kernel)) (by decide +kernel)
theorem tw_447 : Cond.methodLink RX6 299 yX0_allCoins ∈ Tg := tg_tab (List.mem_of_getElem? (i := 787) (by decide +kernel)) (by decide +kernel)
theorem tw_448 : Cond.code yX0_allCoins cX0_allCoins 3 (some .int) ∈ Tg := tg_tab (List.mem_of_getElem? (i := 790) (by decide +kernel)) (by decide +kernel)
theorem tw_449 : Cond.instanceMethod yX0_allCoins ∈ Tg := tg_tab (List.mem_of_getElem? (i := 788) (by decide +kernel)) (by decide +kernel)
theorem tw_450 : Cond.selects RX0 yX0_allCoins yX0_allCoins ∈ Tg := tg_tab (List.mem_of_getElem? (i := 789) (by decide +kernel)) (by decide +kernel)
theorem tw_451 : Cond.fieldLink RX7 13 "WallDownModel" "found" "[I" ∈ Tg := tg_tab (List.mem_of_getElem? (i := 803) (by decide +kernel)) (by decide +kernel)
theorem tw_452 : Cond.constant RX7 57 (-1000000001) ∈ Tg := tg_tab (List.mem_of_getElem? (i := 886) (by decide +kernel)) (by decide +kernel)
theorem tw_453 : Cond.methodLink RX7 58 yX7_in ∈ Tg := tg_tab (List.mem_of_getElem? (i := 880) (by decide +kernel)) (by decide +kernel)
theorem tw_454 : Cond.initialized RX7 ∈ Tg := tg_tab (List.mem_of_getElem? (i := 8) (by decide +kernel)) (by decide +kernel)
theorem tw_455 : Cond.code yX7_in cX7_in 3 (some .boolean) ∈ Tg := tg_tab (List.mem_of_getElem? (i := 882) (by decide +kernel)) (by decide +kernel)
theorem tw_456 : Cond.static yX7_in ∈ Tg := tg_tab (List.mem_of_getElem? (i := 881) (by decide +kernel)) (by decide +kernel)
theorem tw_457 : Cond.fieldLink RX7 7 "WallDownModel" "row" "[I" ∈ Tg := tg_tab (List.mem_of_getElem? (i := 802) (by decide +kernel)) (by decide +kernel)
theorem tw_458 : Cond.methodLink RX7 66 yX7_many ∈ Tg := tg_tab (List.mem_of_getElem? (i := 891) (by decide +kernel)) (by decide +kernel)
theorem tw_459 : Cond.code yX7_many cX7_many 2 (some .int) ∈ Tg := tg_tab (List.mem_of_getElem? (i := 894) (by decide +kernel)) (by decide +kernel)
theorem tw_460 : Cond.instanceMethod yX7_many ∈ Tg := tg_tab (List.mem_of_getElem? (i := 893) (by decide +kernel)) (by decide +kernel)
theorem tw_461 : Cond.selects RX7 yX7_many yX7_many ∈ Tg := tg_in (List.mem_of_getElem? (i := 20) (by decide +kernel)) (by decide +kernel)
theorem tw_462 : Cond.methodLink RX7 62 yX7_isWall ∈ Tg := tg_tab (List.mem_of_getElem? (i := 883) (by decide +kernel)) (by decide +kernel)
theorem tw_463 : Cond.code yX7_isWall cX7_isWall 1 (some .boolean) ∈ Tg := tg_tab (List.mem_of_getElem? (i := 885) (by decide +kernel)) (by decide +kernel)
theorem tw_464 : Cond.static yX7_isWall ∈ Tg := tg_tab (List.mem_of_getElem? (i := 884) (by decide +kernel)) (by decide +kernel)
theorem tw_465 : Cond.methodLink RX7 70 yX7_at ∈ Tg := tg_tab (List.mem_of_getElem? (i := 900) (by decide +kernel)) (by decide +kernel)
theorem tw_466 : Cond.code yX7_at cX7_at 3 (some .int) ∈ Tg := tg_tab (List.mem_of_getElem? (i := 902) (by decide +kernel)) (by decide +kernel)
theorem tw_467 : Cond.static yX7_at ∈ Tg := tg_tab (List.mem_of_getElem? (i := 901) (by decide +kernel)) (by decide +kernel)
theorem tw_468 : Cond.methodLink RX7 74 yX7_its ∈ Tg := tg_tab (List.mem_of_getElem? (i := 915) (by decide +kernel)) (by decide +kernel)
theorem tw_469 : Cond.code yX7_its cX7_its 4 (some .int) ∈ Tg := tg_tab (List.mem_of_getElem? (i := 918) (by decide +kernel)) (by decide +kernel)
theorem tw_470 : Cond.instanceMethod yX7_its ∈ Tg := tg_tab (List.mem_of_getElem? (i := 917) (by decide +kernel)) (by decide +kernel)
theorem tw_471 : Cond.selects RX7 yX7_its yX7_its ∈ Tg := tg_in (List.mem_of_getElem? (i := 24) (by decide +kernel)) (by decide +kernel)
theorem tw_472 : Cond.methodLink RX7 77 yX7_left ∈ Tg := tg_tab (List.mem_of_getElem? (i := 939) (by decide +kernel)) (by decide +kernel)
theorem tw_473 : Cond.code yX7_left cX7_left 2 (some .int) ∈ Tg := tg_tab (List.mem_of_getElem? (i := 941) (by decide +kernel)) (by decide +kernel)
theorem tw_474 : Cond.static yX7_left ∈ Tg := tg_tab (List.mem_of_getElem? (i := 940) (by decide +kernel)) (by decide +kernel)
theorem tw_475 : Cond.fieldLink RX7 16 "WallDownModel" "top" "[I" ∈ Tg := tg_tab (List.mem_of_getElem? (i := 804) (by decide +kernel)) (by decide +kernel)
theorem tw_476 : Cond.methodLink RX7 81 yX7_tall ∈ Tg := tg_tab (List.mem_of_getElem? (i := 911) (by decide +kernel)) (by decide +kernel)
theorem tw_477 : Cond.code yX7_tall cX7_tall 6 (some .int) ∈ Tg := tg_tab (List.mem_of_getElem? (i := 914) (by decide +kernel)) (by decide +kernel)
theorem tw_478 : Cond.instanceMethod yX7_tall ∈ Tg := tg_tab (List.mem_of_getElem? (i := 913) (by decide +kernel)) (by decide +kernel)
theorem tw_479 : Cond.selects RX7 yX7_tall yX7_tall ∈ Tg := tg_in (List.mem_of_getElem? (i := 23) (by decide +kernel)) (by decide +kernel)
theorem tw_480 : Cond.fieldLink RX7 19 "WallDownModel" "paid" "[I" ∈ Tg := tg_tab (List.mem_of_getElem? (i := 805) (by decide +kernel)) (by decide +kernel)
theorem tw_481 : Cond.methodLink RX7 84 yX7_coin ∈ Tg := tg_tab (List.mem_of_getElem? (i := 919) (by decide +kernel)) (by decide +kernel)
theorem tw_482 : Cond.code yX7_coin cX7_coin 4 (some .int) ∈ Tg := tg_tab (List.mem_of_getElem? (i := 922) (by decide +kernel)) (by decide +kernel)
theorem tw_483 : Cond.instanceMethod yX7_coin ∈ Tg := tg_tab (List.mem_of_getElem? (i := 921) (by decide +kernel)) (by decide +kernel)
theorem tw_484 : Cond.selects RX7 yX7_coin yX7_coin ∈ Tg := tg_in (List.mem_of_getElem? (i := 25) (by decide +kernel)) (by decide +kernel)
theorem tw_485 : Cond.methodLink RX7 87 yX7_topIn ∈ Tg := tg_tab (List.mem_of_getElem? (i := 998) (by decide +kernel)) (by decide +kernel)
theorem tw_486 : Cond.code yX7_topIn cX7_topIn 3 (some .int) ∈ Tg := tg_tab (List.mem_of_getElem? (i := 1001) (by decide +kernel)) (by decide +kernel)
theorem tw_487 : Cond.instanceMethod yX7_topIn ∈ Tg := tg_tab (List.mem_of_getElem? (i := 1000) (by decide +kernel)) (by decide +kernel)
theorem tw_488 : Cond.selects RX7 yX7_topIn yX7_topIn ∈ Tg := tg_in (List.mem_of_getElem? (i := 33) (by decide +kernel)) (by decide +kernel)
theorem tw_489 : Cond.methodLink RX7 93 yX7_unlikeAt ∈ Tg := tg_tab (List.mem_of_getElem? (i := 994) (by decide +kernel)) (by decide +kernel)
theorem tw_490 : Cond.code yX7_unlikeAt cX7_unlikeAt 4 (some .int) ∈ Tg := tg_tab (List.mem_of_getElem? (i := 997) (by decide +kernel)) (by decide +kernel)
theorem tw_491 : Cond.instanceMethod yX7_unlikeAt ∈ Tg := tg_tab (List.mem_of_getElem? (i := 996) (by decide +kernel)) (by decide +kernel)
theorem tw_492 : Cond.selects RX7 yX7_unlikeAt yX7_unlikeAt ∈ Tg := tg_in (List.mem_of_getElem? (i := 32) (by decide +kernel)) (by decide +kernel)
theorem tw_493 : Cond.methodLink RX7 90 yX7_lies ∈ Tg := tg_tab (List.mem_of_getElem? (i := 970) (by decide +kernel)) (by decide +kernel)
theorem tw_494 : Cond.code yX7_lies cX7_lies 2 (some .boolean) ∈ Tg := tg_tab (List.mem_of_getElem? (i := 973) (by decide +kernel)) (by decide +kernel)
theorem tw_495 : Cond.instanceMethod yX7_lies ∈ Tg := tg_tab (List.mem_of_getElem? (i := 972) (by decide +kernel)) (by decide +kernel)
theorem tw_496 : Cond.selects RX7 yX7_lies yX7_lies ∈ Tg := tg_in (List.mem_of_getElem? (i := 29) (by decide +kernel)) (by decide +kernel)
theorem tw_497 : Cond.methodLink RX7 99 yX7_isSafe ∈ Tg := tg_tab (List.mem_of_getElem? (i := 1014) (by decide +kernel)) (by decide +kernel)
theorem tw_498 : Cond.code yX7_isSafe cX7_isSafe 4 (some .boolean) ∈ Tg := tg_tab (List.mem_of_getElem? (i := 1017) (by decide +kernel)) (by decide +kernel)
theorem tw_499 : Cond.instanceMethod yX7_isSafe ∈ Tg := tg_tab (List.mem_of_getElem? (i := 1016) (by decide +kernel)) (by decide +kernel)
theorem tw_500 : Cond.selects RX7 yX7_isSafe yX7_isSafe ∈ Tg := tg_in (List.mem_of_getElem? (i := 36) (by decide +kernel)) (by decide +kernel)
theorem tw_501 : Cond.methodLink RX7 96 yX7_mayGo ∈ Tg := tg_tab (List.mem_of_getElem? (i := 935) (by decide +kernel)) (by decide +kernel)
theorem tw_502 : Cond.code yX7_mayGo cX7_mayGo 8 (some .boolean) ∈ Tg := tg_tab (List.mem_of_getElem? (i := 938) (by decide +kernel)) (by decide +kernel)
theorem tw_503 : Cond.instanceMethod yX7_mayGo ∈ Tg := tg_tab (List.mem_of_getElem? (i := 937) (by decide +kernel)) (by decide +kernel)
theorem tw_504 : Cond.selects RX7 yX7_mayGo yX7_mayGo ∈ Tg := tg_in (List.mem_of_getElem? (i := 28) (by decide +kernel)) (by decide +kernel)
theorem tw_505 : Cond.methodLink RX7 105 yX7_finds ∈ Tg := tg_tab (List.mem_of_getElem? (i := 887) (by decide +kernel)) (by decide +kernel)
theorem tw_506 : Cond.code yX7_finds cX7_finds 2 (some .int) ∈ Tg := tg_tab (List.mem_of_getElem? (i := 890) (by decide +kernel)) (by decide +kernel)
theorem tw_507 : Cond.instanceMethod yX7_finds ∈ Tg := tg_tab (List.mem_of_getElem? (i := 889) (by decide +kernel)) (by decide +kernel)
theorem tw_508 : Cond.selects RX7 yX7_finds yX7_finds ∈ Tg := tg_in (List.mem_of_getElem? (i := 19) (by decide +kernel)) (by decide +kernel)
theorem tw_509 : Cond.methodLink RX7 109 yX7_addStone ∈ Tg := tg_tab (List.mem_of_getElem? (i := 896) (by decide +kernel)) (by decide +kernel)
theorem tw_510 : Cond.code yX7_addStone cX7_addStone 6 none ∈ Tg := tg_tab (List.mem_of_getElem? (i := 899) (by decide +kernel)) (by decide +kernel)
theorem tw_511 : Cond.instanceMethod yX7_addStone ∈ Tg := tg_tab (List.mem_of_getElem? (i := 898) (by decide +kernel)) (by decide +kernel)
theorem tw_512 : Cond.selects RX7 yX7_addStone yX7_addStone ∈ Tg := tg_in (List.mem_of_getElem? (i := 21) (by decide +kernel)) (by decide +kernel)
theorem tw_513 : Cond.constant RX7 108 (-1000000002) ∈ Tg := tg_tab (List.mem_of_getElem? (i := 895) (by decide +kernel)) (by decide +kernel)
theorem tw_514 : Cond.methodLink RX7 102 yX7_isKind ∈ Tg := tg_tab (List.mem_of_getElem? (i := 877) (by decide +kernel)) (by decide +kernel)
theorem tw_515 : Cond.code yX7_isKind cX7_isKind 1 (some .boolean) ∈ Tg := tg_tab (List.mem_of_getElem? (i := 879) (by decide +kernel)) (by decide +kernel)
theorem tw_516 : Cond.static yX7_isKind ∈ Tg := tg_tab (List.mem_of_getElem? (i := 878) (by decide +kernel)) (by decide +kernel)
theorem tw_517 : Cond.methodLink RX7 113 yX7_findTops ∈ Tg := tg_tab (List.mem_of_getElem? (i := 907) (by decide +kernel)) (by decide +kernel)
theorem tw_518 : Cond.code yX7_findTops cX7_findTops 4 none ∈ Tg := tg_tab (List.mem_of_getElem? (i := 910) (by decide +kernel)) (by decide +kernel)
theorem tw_519 : Cond.instanceMethod yX7_findTops ∈ Tg := tg_tab (List.mem_of_getElem? (i := 909) (by decide +kernel)) (by decide +kernel)
theorem tw_520 : Cond.selects RX7 yX7_findTops yX7_findTops ∈ Tg := tg_in (List.mem_of_getElem? (i := 22) (by decide +kernel)) (by decide +kernel)
theorem tw_521 : Cond.methodLink RX7 120 yX7_standNow ∈ Tg := tg_tab (List.mem_of_getElem? (i := 931) (by decide +kernel)) (by decide +kernel)
theorem tw_522 : Cond.code yX7_standNow cX7_standNow 3 (some .int) ∈ Tg := tg_tab (List.mem_of_getElem? (i := 934) (by decide +kernel)) (by decide +kernel)
theorem tw_523 : Cond.instanceMethod yX7_standNow ∈ Tg := tg_tab (List.mem_of_getElem? (i := 933) (by decide +kernel)) (by decide +kernel)
theorem tw_524 : Cond.selects RX7 yX7_standNow yX7_standNow ∈ Tg := tg_in (List.mem_of_getElem? (i := 27) (by decide +kernel)) (by decide +kernel)
theorem tw_525 : Cond.methodLink RX7 116 yX7_isStone ∈ Tg := tg_tab (List.mem_of_getElem? (i := 927) (by decide +kernel)) (by decide +kernel)
theorem tw_526 : Cond.code yX7_isStone cX7_isStone 3 (some .boolean) ∈ Tg := tg_tab (List.mem_of_getElem? (i := 930) (by decide +kernel)) (by decide +kernel)
theorem tw_527 : Cond.instanceMethod yX7_isStone ∈ Tg := tg_tab (List.mem_of_getElem? (i := 929) (by decide +kernel)) (by decide +kernel)
theorem tw_528 : Cond.selects RX7 yX7_isStone yX7_isStone ∈ Tg := tg_in (List.mem_of_getElem? (i := 26) (by decide +kernel)) (by decide +kernel)
theorem tw_529 : Cond.constant RX7 127 (-1000000003) ∈ Tg := tg_tab (List.mem_of_getElem? (i := 957) (by decide +kernel)) (by decide +kernel)
theorem tw_530 : Cond.methodLink RX7 124 yX7_isUnder ∈ Tg := tg_tab (List.mem_of_getElem? (i := 954) (by decide +kernel)) (by decide +kernel)
theorem tw_531 : Cond.code yX7_isUnder cX7_isUnder 2 (some .boolean) ∈ Tg := tg_tab (List.mem_of_getElem? (i := 956) (by decide +kernel)) (by decide +kernel)
theorem tw_532 : Cond.static yX7_isUnder ∈ Tg := tg_tab (List.mem_of_getElem? (i := 955) (by decide +kernel)) (by decide +kernel)
theorem tw_533 : Cond.methodLink RX7 129 yX7_allTops ∈ Tg := tg_tab (List.mem_of_getElem? (i := 979) (by decide +kernel)) (by decide +kernel)
theorem tw_534 : Cond.code yX7_allTops cX7_allTops 3 (some .int) ∈ Tg := tg_tab (List.mem_of_getElem? (i := 982) (by decide +kernel)) (by decide +kernel)
theorem tw_535 : Cond.instanceMethod yX7_allTops ∈ Tg := tg_tab (List.mem_of_getElem? (i := 981) (by decide +kernel)) (by decide +kernel)
theorem tw_536 : Cond.selects RX7 yX7_allTops yX7_allTops ∈ Tg := tg_in (List.mem_of_getElem? (i := 30) (by decide +kernel)) (by decide +kernel)
theorem tw_537 : Cond.constant RX7 128 (-1000000005) ∈ Tg := tg_tab (List.mem_of_getElem? (i := 978) (by decide +kernel)) (by decide +kernel)
theorem tw_538 : Cond.methodLink RX7 132 yX7_stones ∈ Tg := tg_tab (List.mem_of_getElem? (i := 987) (by decide +kernel)) (by decide +kernel)
theorem tw_539 : Cond.code yX7_stones cX7_stones 1 (some .int) ∈ Tg := tg_tab (List.mem_of_getElem? (i := 989) (by decide +kernel)) (by decide +kernel)
theorem tw_540 : Cond.static yX7_stones ∈ Tg := tg_tab (List.mem_of_getElem? (i := 988) (by decide +kernel)) (by decide +kernel)
theorem tw_541 : Cond.methodLink RX7 135 yX7_mostUnlike ∈ Tg := tg_tab (List.mem_of_getElem? (i := 990) (by decide +kernel)) (by decide +kernel)
theorem tw_542 : Cond.code yX7_mostUnlike cX7_mostUnlike 4 (some .int) ∈ Tg := tg_tab (List.mem_of_getElem? (i := 993) (by decide +kernel)) (by decide +kernel)
theorem tw_543 : Cond.instanceMethod yX7_mostUnlike ∈ Tg := tg_tab (List.mem_of_getElem? (i := 992) (by decide +kernel)) (by decide +kernel)
theorem tw_544 : Cond.selects RX7 yX7_mostUnlike yX7_mostUnlike ∈ Tg := tg_in (List.mem_of_getElem? (i := 31) (by decide +kernel)) (by decide +kernel)
theorem tw_545 : Cond.constant RX7 138 (999999) ∈ Tg := tg_tab (List.mem_of_getElem? (i := 1022) (by decide +kernel)) (by decide +kernel)
theorem tw_546 : Cond.methodLink RX7 139 yX7_canPull ∈ Tg := tg_tab (List.mem_of_getElem? (i := 1010) (by decide +kernel)) (by decide +kernel)
theorem tw_547 : Cond.code yX7_canPull cX7_canPull 4 (some .boolean) ∈ Tg := tg_tab (List.mem_of_getElem? (i := 1013) (by decide +kernel)) (by decide +kernel)
theorem tw_548 : Cond.instanceMethod yX7_canPull ∈ Tg := tg_tab (List.mem_of_getElem? (i := 1012) (by decide +kernel)) (by decide +kernel)
theorem tw_549 : Cond.selects RX7 yX7_canPull yX7_canPull ∈ Tg := tg_in (List.mem_of_getElem? (i := 35) (by decide +kernel)) (by decide +kernel)
theorem tw_550 : Cond.methodLink RX7 145 yX7_takeOut ∈ Tg := tg_tab (List.mem_of_getElem? (i := 1018) (by decide +kernel)) (by decide +kernel)
theorem tw_551 : Cond.code yX7_takeOut cX7_takeOut 4 none ∈ Tg := tg_tab (List.mem_of_getElem? (i := 1021) (by decide +kernel)) (by decide +kernel)
theorem tw_552 : Cond.instanceMethod yX7_takeOut ∈ Tg := tg_tab (List.mem_of_getElem? (i := 1020) (by decide +kernel)) (by decide +kernel)
theorem tw_553 : Cond.selects RX7 yX7_takeOut yX7_takeOut ∈ Tg := tg_in (List.mem_of_getElem? (i := 37) (by decide +kernel)) (by decide +kernel)
theorem tw_554 : Cond.methodLink RX7 142 yX7_canPullNow ∈ Tg := tg_tab (List.mem_of_getElem? (i := 1006) (by decide +kernel)) (by decide +kernel)
theorem tw_555 : Cond.code yX7_canPullNow cX7_canPullNow 2 (some .boolean) ∈ Tg := tg_tab (List.mem_of_getElem? (i := 1009) (by decide +kernel)) (by decide +kernel)
theorem tw_556 : Cond.instanceMethod yX7_canPullNow ∈ Tg := tg_tab (List.mem_of_getElem? (i := 1008) (by decide +kernel)) (by decide +kernel)
theorem tw_557 : Cond.selects RX7 yX7_canPullNow yX7_canPullNow ∈ Tg := tg_in (List.mem_of_getElem? (i := 34) (by decide +kernel)) (by decide +kernel)
theorem tw_558 : Cond.fieldLink RX7 26 "WallDownModel" "goes" "[I" ∈ Tg := tg_tab (List.mem_of_getElem? (i := 807) (by decide +kernel)) (by decide +kernel)
theorem tw_559 : Cond.methodLink RX7 149 yX7_isStand ∈ Tg := tg_tab (List.mem_of_getElem? (i := 1031) (by decide +kernel)) (by decide +kernel)
theorem tw_560 : Cond.code yX7_isStand cX7_isStand 4 (some .boolean) ∈ Tg := tg_tab (List.mem_of_getElem? (i := 1034) (by decide +kernel)) (by decide +kernel)
theorem tw_561 : Cond.instanceMethod yX7_isStand ∈ Tg := tg_tab (List.mem_of_getElem? (i := 1033) (by decide +kernel)) (by decide +kernel)
theorem tw_562 : Cond.selects RX7 yX7_isStand yX7_isStand ∈ Tg := tg_in (List.mem_of_getElem? (i := 38) (by decide +kernel)) (by decide +kernel)
theorem tw_563 : Cond.fieldLink RX7 22 "WallDownModel" "rows" "[J" ∈ Tg := tg_tab (List.mem_of_getElem? (i := 806) (by decide +kernel)) (by decide +kernel)
theorem tw_564 : Cond.methodLink RX7 155 yX7_countRows ∈ Tg := tg_tab (List.mem_of_getElem? (i := 1043) (by decide +kernel)) (by decide +kernel)
theorem tw_565 : Cond.code yX7_countRows cX7_countRows 4 none ∈ Tg := tg_tab (List.mem_of_getElem? (i := 1046) (by decide +kernel)) (by decide +kernel)
theorem tw_566 : Cond.instanceMethod yX7_countRows ∈ Tg := tg_tab (List.mem_of_getElem? (i := 1045) (by decide +kernel)) (by decide +kernel)
theorem tw_567 : Cond.selects RX7 yX7_countRows yX7_countRows ∈ Tg := tg_in (List.mem_of_getElem? (i := 41) (by decide +kernel)) (by decide +kernel)
theorem tw_568 : Cond.methodLink RX7 152 yX7_findGoes ∈ Tg := tg_tab (List.mem_of_getElem? (i := 1039) (by decide +kernel)) (by decide +kernel)
theorem tw_569 : Cond.code yX7_findGoes cX7_findGoes 4 none ∈ Tg := tg_tab (List.mem_of_getElem? (i := 1042) (by decide +kernel)) (by decide +kernel)
theorem tw_570 : Cond.instanceMethod yX7_findGoes ∈ Tg := tg_tab (List.mem_of_getElem? (i := 1041) (by decide +kernel)) (by decide +kernel)
theorem tw_571 : Cond.selects RX7 yX7_findGoes yX7_findGoes ∈ Tg := tg_in (List.mem_of_getElem? (i := 40) (by decide +kernel)) (by decide +kernel)
theorem tw_572 : Cond.methodLink RX7 158 yX7_findRows ∈ Tg := tg_tab (List.mem_of_getElem? (i := 1035) (by decide +kernel)) (by decide +kernel)
theorem tw_573 : Cond.code yX7_findRows cX7_findRows 1 none ∈ Tg := tg_tab (List.mem_of_getElem? (i := 1038) (by decide +kernel)) (by decide +kernel)
theorem tw_574 : Cond.instanceMethod yX7_findRows ∈ Tg := tg_tab (List.mem_of_getElem? (i := 1037) (by decide +kernel)) (by decide +kernel)
theorem tw_575 : Cond.selects RX7 yX7_findRows yX7_findRows ∈ Tg := tg_in (List.mem_of_getElem? (i := 39) (by decide +kernel)) (by decide +kernel)
theorem tw_576 : Cond.methodLink RX7 161 yX7_howManyNow ∈ Tg := tg_tab (List.mem_of_getElem? (i := 1055) (by decide +kernel)) (by decide +kernel)
theorem tw_577 : Cond.code yX7_howManyNow cX7_howManyNow 3 (some .int) ∈ Tg := tg_tab (List.mem_of_getElem? (i := 1058) (by decide +kernel)) (by decide +kernel)
theorem tw_578 : Cond.instanceMethod yX7_howManyNow ∈ Tg := tg_tab (List.mem_of_getElem? (i := 1057) (by decide +kernel)) (by decide +kernel)
theorem tw_579 : Cond.selects RX7 yX7_howManyNow yX7_howManyNow ∈ Tg := tg_in (List.mem_of_getElem? (i := 43) (by decide +kernel)) (by decide +kernel)
theorem tw_580 : Cond.methodLink RX7 164 yX7_howMany ∈ Tg := tg_tab (List.mem_of_getElem? (i := 1051) (by decide +kernel)) (by decide +kernel)
theorem tw_581 : Cond.code yX7_howMany cX7_howMany 1 (some .int) ∈ Tg := tg_tab (List.mem_of_getElem? (i := 1054) (by decide +kernel)) (by decide +kernel)
theorem tw_582 : Cond.instanceMethod yX7_howMany ∈ Tg := tg_tab (List.mem_of_getElem? (i := 1053) (by decide +kernel)) (by decide +kernel)
theorem tw_583 : Cond.selects RX7 yX7_howMany yX7_howMany ∈ Tg := tg_in (List.mem_of_getElem? (i := 42) (by decide +kernel)) (by decide +kernel)
theorem tw_584 : Cond.fieldLink RX7 29 "WallDownModel" "leads" "[Z" ∈ Tg := tg_tab (List.mem_of_getElem? (i := 808) (by decide +kernel)) (by decide +kernel)
theorem tw_585 : Cond.constant RX7 170 (-1000000004) ∈ Tg := tg_tab (List.mem_of_getElem? (i := 1075) (by decide +kernel)) (by decide +kernel)
theorem tw_586 : Cond.methodLink RX7 171 yX7_firstFrom ∈ Tg := tg_tab (List.mem_of_getElem? (i := 1076) (by decide +kernel)) (by decide +kernel)
theorem tw_587 : Cond.code yX7_firstFrom cX7_firstFrom 3 (some .int) ∈ Tg := tg_tab (List.mem_of_getElem? (i := 1079) (by decide +kernel)) (by decide +kernel)
theorem tw_588 : Cond.instanceMethod yX7_firstFrom ∈ Tg := tg_tab (List.mem_of_getElem? (i := 1078) (by decide +kernel)) (by decide +kernel)
theorem tw_589 : Cond.selects RX7 yX7_firstFrom yX7_firstFrom ∈ Tg := tg_in (List.mem_of_getElem? (i := 45) (by decide +kernel)) (by decide +kernel)
theorem tw_590 : Cond.methodLink RX7 167 yX7_findLeads ∈ Tg := tg_tab (List.mem_of_getElem? (i := 1071) (by decide +kernel)) (by decide +kernel)
theorem tw_591 : Cond.code yX7_findLeads cX7_findLeads 5 none ∈ Tg := tg_tab (List.mem_of_getElem? (i := 1074) (by decide +kernel)) (by decide +kernel)
theorem tw_592 : Cond.instanceMethod yX7_findLeads ∈ Tg := tg_tab (List.mem_of_getElem? (i := 1073) (by decide +kernel)) (by decide +kernel)
theorem tw_593 : Cond.selects RX7 yX7_findLeads yX7_findLeads ∈ Tg := tg_in (List.mem_of_getElem? (i := 44) (by decide +kernel)) (by decide +kernel)
theorem tw_594 : Cond.fieldLink RX7 33 "WallDownModel" "need" "[I" ∈ Tg := tg_tab (List.mem_of_getElem? (i := 809) (by decide +kernel)) (by decide +kernel)
theorem tw_595 : Cond.methodLink RX7 174 yX7_widest ∈ Tg := tg_tab (List.mem_of_getElem? (i := 1092) (by decide +kernel)) (by decide +kernel)
theorem tw_596 : Cond.code yX7_widest cX7_widest 4 (some .int) ∈ Tg := tg_tab (List.mem_of_getElem? (i := 1095) (by decide +kernel)) (by decide +kernel)
theorem tw_597 : Cond.instanceMethod yX7_widest ∈ Tg := tg_tab (List.mem_of_getElem? (i := 1094) (by decide +kernel)) (by decide +kernel)
theorem tw_598 : Cond.selects RX7 yX7_widest yX7_widest ∈ Tg := tg_in (List.mem_of_getElem? (i := 47) (by decide +kernel)) (by decide +kernel)
theorem tw_599 : Cond.methodLink RX7 177 yX7_slackTo ∈ Tg := tg_tab (List.mem_of_getElem? (i := 1088) (by decide +kernel)) (by decide +kernel)
theorem tw_600 : Cond.code yX7_slackTo cX7_slackTo 7 (some .int) ∈ Tg := tg_tab (List.mem_of_getElem? (i := 1091) (by decide +kernel)) (by decide +kernel)
theorem tw_601 : Cond.instanceMethod yX7_slackTo ∈ Tg := tg_tab (List.mem_of_getElem? (i := 1090) (by decide +kernel)) (by decide +kernel)
theorem tw_602 : Cond.selects RX7 yX7_slackTo yX7_slackTo ∈ Tg := tg_in (List.mem_of_getElem? (i := 46) (by decide +kernel)) (by decide +kernel)
theorem tw_603 : Cond.methodLink RX7 183 yX7_paidIn ∈ Tg := tg_tab (List.mem_of_getElem? (i := 1112) (by decide +kernel)) (by decide +kernel)
theorem tw_604 : Cond.code yX7_paidIn cX7_paidIn 4 (some .int) ∈ Tg := tg_tab (List.mem_of_getElem? (i := 1115) (by decide +kernel)) (by decide +kernel)
theorem tw_605 : Cond.instanceMethod yX7_paidIn ∈ Tg := tg_tab (List.mem_of_getElem? (i := 1114) (by decide +kernel)) (by decide +kernel)
theorem tw_606 : Cond.selects RX7 yX7_paidIn yX7_paidIn ∈ Tg := tg_in (List.mem_of_getElem? (i := 50) (by decide +kernel)) (by decide +kernel)
theorem tw_607 : Cond.methodLink RX7 180 yX7_richestNow ∈ Tg := tg_tab (List.mem_of_getElem? (i := 1108) (by decide +kernel)) (by decide +kernel)
theorem tw_608 : Cond.code yX7_richestNow cX7_richestNow 6 (some .int) ∈ Tg := tg_tab (List.mem_of_getElem? (i := 1111) (by decide +kernel)) (by decide +kernel)
theorem tw_609 : Cond.instanceMethod yX7_richestNow ∈ Tg := tg_tab (List.mem_of_getElem? (i := 1110) (by decide +kernel)) (by decide +kernel)
theorem tw_610 : Cond.selects RX7 yX7_richestNow yX7_richestNow ∈ Tg := tg_in (List.mem_of_getElem? (i := 49) (by decide +kernel)) (by decide +kernel)
theorem tw_611 : Cond.methodLink RX7 186 yX7_richest ∈ Tg := tg_tab (List.mem_of_getElem? (i := 1104) (by decide +kernel)) (by decide +kernel)
theorem tw_612 : Cond.code yX7_richest cX7_richest 2 (some .int) ∈ Tg := tg_tab (List.mem_of_getElem? (i := 1107) (by decide +kernel)) (by decide +kernel)
theorem tw_613 : Cond.instanceMethod yX7_richest ∈ Tg := tg_tab (List.mem_of_getElem? (i := 1106) (by decide +kernel)) (by decide +kernel)
theorem tw_614 : Cond.selects RX7 yX7_richest yX7_richest ∈ Tg := tg_in (List.mem_of_getElem? (i := 48) (by decide +kernel)) (by decide +kernel)
theorem tw_615 : Cond.fieldLink RX7 189 "WallDownModel" "tapeMany" "I" ∈ Tg := tg_tab (List.mem_of_getElem? (i := 811) (by decide +kernel)) (by decide +kernel)
theorem tw_616 : Cond.fieldLink RX7 36 "WallDownModel" "tape" "[I" ∈ Tg := tg_tab (List.mem_of_getElem? (i := 810) (by decide +kernel)) (by decide +kernel)
theorem tw_617 : Cond.fieldLink RX7 193 "WallDownModel" "tokenEnds" "I" ∈ Tg := tg_tab (List.mem_of_getElem? (i := 814) (by decide +kernel)) (by decide +kernel)
theorem tw_618 : Cond.fieldLink RX7 196 "WallDownModel" "begins" "I" ∈ Tg := tg_tab (List.mem_of_getElem? (i := 813) (by decide +kernel)) (by decide +kernel)
theorem tw_619 : Cond.methodLink RX7 199 yX7_byteAt ∈ Tg := tg_tab (List.mem_of_getElem? (i := 1164) (by decide +kernel)) (by decide +kernel)
theorem tw_620 : Cond.code yX7_byteAt cX7_byteAt 2 (some .int) ∈ Tg := tg_tab (List.mem_of_getElem? (i := 1167) (by decide +kernel)) (by decide +kernel)
theorem tw_621 : Cond.instanceMethod yX7_byteAt ∈ Tg := tg_tab (List.mem_of_getElem? (i := 1166) (by decide +kernel)) (by decide +kernel)
theorem tw_622 : Cond.selects RX7 yX7_byteAt yX7_byteAt ∈ Tg := tg_in (List.mem_of_getElem? (i := 53) (by decide +kernel)) (by decide +kernel)
theorem tw_623 : Cond.fieldLink RX7 208 "WallDownModel" "sort" "I" ∈ Tg := tg_tab (List.mem_of_getElem? (i := 812) (by decide +kernel)) (by decide +kernel)
theorem tw_624 : Cond.fieldLink RX7 211 "WallDownModel" "word" "J" ∈ Tg := tg_tab (List.mem_of_getElem? (i := 815) (by decide +kernel)) (by decide +kernel)
theorem tw_625 : Cond.fieldLink RX7 215 "WallDownModel" "value" "I" ∈ Tg := tg_tab (List.mem_of_getElem? (i := 816) (by decide +kernel)) (by decide +kernel)
theorem tw_626 : Cond.constantLong RX7 222 (-1) ∈ Tg := tg_tab (List.mem_of_getElem? (i := 1176) (by decide +kernel)) (by decide +kernel)
theorem tw_627 : Cond.constantLong RX7 218 (27) ∈ Tg := tg_tab (List.mem_of_getElem? (i := 1174) (by decide +kernel)) (by decide +kernel)
theorem tw_628 : Cond.constantLong RX7 220 (96) ∈ Tg := tg_tab (List.mem_of_getElem? (i := 1175) (by decide +kernel)) (by decide +kernel)
theorem tw_629 : Cond.methodLink RX7 202 yX7_isLetter ∈ Tg := tg_tab (List.mem_of_getElem? (i := 1168) (by decide +kernel)) (by decide +kernel)
theorem tw_630 : Cond.code yX7_isLetter cX7_isLetter 1 (some .boolean) ∈ Tg := tg_tab (List.mem_of_getElem? (i := 1170) (by decide +kernel)) (by decide +kernel)
theorem tw_631 : Cond.static yX7_isLetter ∈ Tg := tg_tab (List.mem_of_getElem? (i := 1169) (by decide +kernel)) (by decide +kernel)
theorem tw_632 : Cond.methodLink RX7 205 yX7_isDigit ∈ Tg := tg_tab (List.mem_of_getElem? (i := 1171) (by decide +kernel)) (by decide +kernel)
theorem tw_633 : Cond.code yX7_isDigit cX7_isDigit 1 (some .boolean) ∈ Tg := tg_tab (List.mem_of_getElem? (i := 1173) (by decide +kernel)) (by decide +kernel)
theorem tw_634 : Cond.static yX7_isDigit ∈ Tg := tg_tab (List.mem_of_getElem? (i := 1172) (by decide +kernel)) (by decide +kernel)
theorem tw_635 : Cond.constantLong RX7 224 (10502357) ∈ Tg := tg_tab (List.mem_of_getElem? (i := 1185) (by decide +kernel)) (by decide +kernel)
theorem tw_636 : Cond.constantLong RX7 230 (8179) ∈ Tg := tg_tab (List.mem_of_getElem? (i := 1190) (by decide +kernel)) (by decide +kernel)
theorem tw_637 : Cond.constantLong RX7 232 (266660330) ∈ Tg := tg_tab (List.mem_of_getElem? (i := 1191) (by decide +kernel)) (by decide +kernel)
theorem tw_638 : Cond.constantLong RX7 234 (7873077725) ∈ Tg := tg_tab (List.mem_of_getElem? (i := 1192) (by decide +kernel)) (by decide +kernel)
theorem tw_639 : Cond.constantLong RX7 236 (43948633) ∈ Tg := tg_tab (List.mem_of_getElem? (i := 1193) (by decide +kernel)) (by decide +kernel)
theorem tw_640 : Cond.constantLong RX7 238 (3217595) ∈ Tg := tg_tab (List.mem_of_getElem? (i := 1194) (by decide +kernel)) (by decide +kernel)
theorem tw_641 : Cond.methodLink RX7 226 yX7_isWord ∈ Tg := tg_tab (List.mem_of_getElem? (i := 1186) (by decide +kernel)) (by decide +kernel)
theorem tw_642 : Cond.code yX7_isWord cX7_isWord 3 (some .boolean) ∈ Tg := tg_tab (List.mem_of_getElem? (i := 1189) (by decide +kernel)) (by decide +kernel)
theorem tw_643 : Cond.instanceMethod yX7_isWord ∈ Tg := tg_tab (List.mem_of_getElem? (i := 1188) (by decide +kernel)) (by decide +kernel)
theorem tw_644 : Cond.selects RX7 yX7_isWord yX7_isWord ∈ Tg := tg_in (List.mem_of_getElem? (i := 56) (by decide +kernel)) (by decide +kernel)
theorem tw_645 : Cond.fieldLink RX7 240 "WallDownModel" "good" "Z" ∈ Tg := tg_tab (List.mem_of_getElem? (i := 817) (by decide +kernel)) (by decide +kernel)
theorem tw_646 : Cond.methodLink RX7 244 yX7_advance ∈ Tg := tg_tab (List.mem_of_getElem? (i := 1160) (by decide +kernel)) (by decide +kernel)
theorem tw_647 : Cond.code yX7_advance cX7_advance 2 none ∈ Tg := tg_tab (List.mem_of_getElem? (i := 1163) (by decide +kernel)) (by decide +kernel)
theorem tw_648 : Cond.instanceMethod yX7_advance ∈ Tg := tg_tab (List.mem_of_getElem? (i := 1162) (by decide +kernel)) (by decide +kernel)
theorem tw_649 : Cond.selects RX7 yX7_advance yX7_advance ∈ Tg := tg_in (List.mem_of_getElem? (i := 52) (by decide +kernel)) (by decide +kernel)
theorem tw_650 : Cond.methodLink RX7 247 yX7_wantNumber ∈ Tg := tg_tab (List.mem_of_getElem? (i := 1199) (by decide +kernel)) (by decide +kernel)
theorem tw_651 : Cond.code yX7_wantNumber cX7_wantNumber 4 (some .int) ∈ Tg := tg_tab (List.mem_of_getElem? (i := 1202) (by decide +kernel)) (by decide +kernel)
theorem tw_652 : Cond.instanceMethod yX7_wantNumber ∈ Tg := tg_tab (List.mem_of_getElem? (i := 1201) (by decide +kernel)) (by decide +kernel)
theorem tw_653 : Cond.selects RX7 yX7_wantNumber yX7_wantNumber ∈ Tg := tg_in (List.mem_of_getElem? (i := 58) (by decide +kernel)) (by decide +kernel)
theorem tw_654 : Cond.constantLong RX7 250 (164222) ∈ Tg := tg_tab (List.mem_of_getElem? (i := 1203) (by decide +kernel)) (by decide +kernel)
theorem tw_655 : Cond.constantLong RX7 256 (8863997) ∈ Tg := tg_tab (List.mem_of_getElem? (i := 1208) (by decide +kernel)) (by decide +kernel)
theorem tw_656 : Cond.methodLink RX7 252 yX7_mayWant ∈ Tg := tg_tab (List.mem_of_getElem? (i := 1204) (by decide +kernel)) (by decide +kernel)
theorem tw_657 : Cond.code yX7_mayWant cX7_mayWant 6 (some .int) ∈ Tg := tg_tab (List.mem_of_getElem? (i := 1207) (by decide +kernel)) (by decide +kernel)
theorem tw_658 : Cond.instanceMethod yX7_mayWant ∈ Tg := tg_tab (List.mem_of_getElem? (i := 1206) (by decide +kernel)) (by decide +kernel)
theorem tw_659 : Cond.selects RX7 yX7_mayWant yX7_mayWant ∈ Tg := tg_in (List.mem_of_getElem? (i := 59) (by decide +kernel)) (by decide +kernel)
theorem tw_660 : Cond.constantLong RX7 260 (11103) ∈ Tg := tg_tab (List.mem_of_getElem? (i := 1215) (by decide +kernel)) (by decide +kernel)
theorem tw_661 : Cond.constantLong RX7 258 (419) ∈ Tg := tg_tab (List.mem_of_getElem? (i := 1214) (by decide +kernel)) (by decide +kernel)
theorem tw_662 : Cond.constantLong RX7 268 (43051) ∈ Tg := tg_tab (List.mem_of_getElem? (i := 1209) (by decide +kernel)) (by decide +kernel)
theorem tw_663 : Cond.constantLong RX7 273 (12324668) ∈ Tg := tg_tab (List.mem_of_getElem? (i := 1216) (by decide +kernel)) (by decide +kernel)
theorem tw_664 : Cond.constantLong RX7 278 (10334396) ∈ Tg := tg_tab (List.mem_of_getElem? (i := 1221) (by decide +kernel)) (by decide +kernel)
theorem tw_665 : Cond.constantLong RX7 283 (330573) ∈ Tg := tg_tab (List.mem_of_getElem? (i := 1226) (by decide +kernel)) (by decide +kernel)
theorem tw_666 : Cond.methodLink RX7 285 yX7_wantPulls ∈ Tg := tg_tab (List.mem_of_getElem? (i := 1227) (by decide +kernel)) (by decide +kernel)
theorem tw_667 : Cond.code yX7_wantPulls cX7_wantPulls 2 none ∈ Tg := tg_tab (List.mem_of_getElem? (i := 1230) (by decide +kernel)) (by decide +kernel)
theorem tw_668 : Cond.instanceMethod yX7_wantPulls ∈ Tg := tg_tab (List.mem_of_getElem? (i := 1229) (by decide +kernel)) (by decide +kernel)
theorem tw_669 : Cond.selects RX7 yX7_wantPulls yX7_wantPulls ∈ Tg := tg_in (List.mem_of_getElem? (i := 63) (by decide +kernel)) (by decide +kernel)
theorem tw_670 : Cond.methodLink RX7 280 yX7_wantSlack ∈ Tg := tg_tab (List.mem_of_getElem? (i := 1222) (by decide +kernel)) (by decide +kernel)
theorem tw_671 : Cond.code yX7_wantSlack cX7_wantSlack 2 none ∈ Tg := tg_tab (List.mem_of_getElem? (i := 1225) (by decide +kernel)) (by decide +kernel)
theorem tw_672 : Cond.instanceMethod yX7_wantSlack ∈ Tg := tg_tab (List.mem_of_getElem? (i := 1224) (by decide +kernel)) (by decide +kernel)
theorem tw_673 : Cond.selects RX7 yX7_wantSlack yX7_wantSlack ∈ Tg := tg_in (List.mem_of_getElem? (i := 62) (by decide +kernel)) (by decide +kernel)
theorem tw_674 : Cond.methodLink RX7 275 yX7_wantWedge ∈ Tg := tg_tab (List.mem_of_getElem? (i := 1217) (by decide +kernel)) (by decide +kernel)
theorem tw_675 : Cond.code yX7_wantWedge cX7_wantWedge 3 none ∈ Tg := tg_tab (List.mem_of_getElem? (i := 1220) (by decide +kernel)) (by decide +kernel)
theorem tw_676 : Cond.instanceMethod yX7_wantWedge ∈ Tg := tg_tab (List.mem_of_getElem? (i := 1219) (by decide +kernel)) (by decide +kernel)
theorem tw_677 : Cond.selects RX7 yX7_wantWedge yX7_wantWedge ∈ Tg := tg_in (List.mem_of_getElem? (i := 61) (by decide +kernel)) (by decide +kernel)
theorem tw_678 : Cond.methodLink RX7 270 yX7_wantBeam ∈ Tg := tg_tab (List.mem_of_getElem? (i := 1210) (by decide +kernel)) (by decide +kernel)
theorem tw_679 : Cond.code yX7_wantBeam cX7_wantBeam 3 none ∈ Tg := tg_tab (List.mem_of_getElem? (i := 1213) (by decide +kernel)) (by decide +kernel)
theorem tw_680 : Cond.instanceMethod yX7_wantBeam ∈ Tg := tg_tab (List.mem_of_getElem? (i := 1212) (by decide +kernel)) (by decide +kernel)
theorem tw_681 : Cond.selects RX7 yX7_wantBeam yX7_wantBeam ∈ Tg := tg_in (List.mem_of_getElem? (i := 60) (by decide +kernel)) (by decide +kernel)
theorem tw_682 : Cond.methodLink RX7 265 yX7_wantStone ∈ Tg := tg_tab (List.mem_of_getElem? (i := 1195) (by decide +kernel)) (by decide +kernel)
theorem tw_683 : Cond.code yX7_wantStone cX7_wantStone 5 none ∈ Tg := tg_tab (List.mem_of_getElem? (i := 1198) (by decide +kernel)) (by decide +kernel)
theorem tw_684 : Cond.instanceMethod yX7_wantStone ∈ Tg := tg_tab (List.mem_of_getElem? (i := 1197) (by decide +kernel)) (by decide +kernel)
theorem tw_685 : Cond.selects RX7 yX7_wantStone yX7_wantStone ∈ Tg := tg_in (List.mem_of_getElem? (i := 57) (by decide +kernel)) (by decide +kernel)
theorem tw_686 : Cond.methodLink RX7 262 yX7_kindHere ∈ Tg := tg_tab (List.mem_of_getElem? (i := 1181) (by decide +kernel)) (by decide +kernel)
theorem tw_687 : Cond.code yX7_kindHere cX7_kindHere 1 (some .int) ∈ Tg := tg_tab (List.mem_of_getElem? (i := 1184) (by decide +kernel)) (by decide +kernel)
theorem tw_688 : Cond.instanceMethod yX7_kindHere ∈ Tg := tg_tab (List.mem_of_getElem? (i := 1183) (by decide +kernel)) (by decide +kernel)
theorem tw_689 : Cond.selects RX7 yX7_kindHere yX7_kindHere ∈ Tg := tg_in (List.mem_of_getElem? (i := 55) (by decide +kernel)) (by decide +kernel)
theorem tw_690 : Cond.fieldLink RX7 54 "WallDownModel" "before" "[I" ∈ Tg := tg_tab (List.mem_of_getElem? (i := 823) (by decide +kernel)) (by decide +kernel)
theorem tw_691 : Cond.methodLink RX7 292 yX7_wantItem ∈ Tg := tg_tab (List.mem_of_getElem? (i := 1177) (by decide +kernel)) (by decide +kernel)
theorem tw_692 : Cond.code yX7_wantItem cX7_wantItem 1 none ∈ Tg := tg_tab (List.mem_of_getElem? (i := 1180) (by decide +kernel)) (by decide +kernel)
theorem tw_693 : Cond.instanceMethod yX7_wantItem ∈ Tg := tg_tab (List.mem_of_getElem? (i := 1179) (by decide +kernel)) (by decide +kernel)
theorem tw_694 : Cond.selects RX7 yX7_wantItem yX7_wantItem ∈ Tg := tg_in (List.mem_of_getElem? (i := 54) (by decide +kernel)) (by decide +kernel)
theorem tw_695 : Cond.methodLink RX7 288 yX7_moveAll ∈ Tg := tg_tab (List.mem_of_getElem? (i := 1156) (by decide +kernel)) (by decide +kernel)
theorem tw_696 : Cond.code yX7_moveAll cX7_moveAll 4 none ∈ Tg := tg_tab (List.mem_of_getElem? (i := 1159) (by decide +kernel)) (by decide +kernel)
theorem tw_697 : Cond.instanceMethod yX7_moveAll ∈ Tg := tg_tab (List.mem_of_getElem? (i := 1158) (by decide +kernel)) (by decide +kernel)
theorem tw_698 : Cond.selects RX7 yX7_moveAll yX7_moveAll ∈ Tg := tg_in (List.mem_of_getElem? (i := 51) (by decide +kernel)) (by decide +kernel)
theorem tw_699 : Cond.fieldLink RX7 39 "WallDownModel" "bitsOf" "[I" ∈ Tg := tg_tab (List.mem_of_getElem? (i := 818) (by decide +kernel)) (by decide +kernel)
theorem tw_700 : Cond.fieldLink RX7 42 "WallDownModel" "sizeOf" "[I" ∈ Tg := tg_tab (List.mem_of_getElem? (i := 819) (by decide +kernel)) (by decide +kernel)
theorem tw_701 : Cond.fieldLink RX7 45 "WallDownModel" "sheets" "[J" ∈ Tg := tg_tab (List.mem_of_getElem? (i := 820) (by decide +kernel)) (by decide +kernel)
theorem tw_702 : Cond.constant RX7 298 (-1000000007) ∈ Tg := tg_tab (List.mem_of_getElem? (i := 1238) (by decide +kernel)) (by decide +kernel)
theorem tw_703 : Cond.methodLink RX7 295 yX7_isSheet ∈ Tg := tg_tab (List.mem_of_getElem? (i := 1235) (by decide +kernel)) (by decide +kernel)
theorem tw_704 : Cond.code yX7_isSheet cX7_isSheet 1 (some .boolean) ∈ Tg := tg_tab (List.mem_of_getElem? (i := 1237) (by decide +kernel)) (by decide +kernel)
theorem tw_705 : Cond.static yX7_isSheet ∈ Tg := tg_tab (List.mem_of_getElem? (i := 1236) (by decide +kernel)) (by decide +kernel)
theorem tw_706 : Cond.methodLink RX7 300 yX7_narrow ∈ Tg := tg_tab (List.mem_of_getElem? (i := 1244) (by decide +kernel)) (by decide +kernel)
theorem tw_707 : Cond.code yX7_narrow cX7_narrow 3 (some .long) ∈ Tg := tg_tab (List.mem_of_getElem? (i := 1246) (by decide +kernel)) (by decide +kernel)
theorem tw_708 : Cond.static yX7_narrow ∈ Tg := tg_tab (List.mem_of_getElem? (i := 1245) (by decide +kernel)) (by decide +kernel)
theorem tw_709 : Cond.constant RX7 299 (-1000000006) ∈ Tg := tg_tab (List.mem_of_getElem? (i := 1243) (by decide +kernel)) (by decide +kernel)
theorem tw_710 : Cond.fieldLink RX7 48 "WallDownModel" "lent" "[J" ∈ Tg := tg_tab (List.mem_of_getElem? (i := 821) (by decide +kernel)) (by decide +kernel)
theorem tw_711 : Cond.methodLink RX7 304 yX7_isPart ∈ Tg := tg_tab (List.mem_of_getElem? (i := 1251) (by decide +kernel)) (by decide +kernel)
theorem tw_712 : Cond.code yX7_isPart cX7_isPart 4 (some .boolean) ∈ Tg := tg_tab (List.mem_of_getElem? (i := 1254) (by decide +kernel)) (by decide +kernel)
theorem tw_713 : Cond.instanceMethod yX7_isPart ∈ Tg := tg_tab (List.mem_of_getElem? (i := 1253) (by decide +kernel)) (by decide +kernel)
theorem tw_714 : Cond.selects RX7 yX7_isPart yX7_isPart ∈ Tg := tg_in (List.mem_of_getElem? (i := 64) (by decide +kernel)) (by decide +kernel)
theorem tw_715 : Cond.constantLong RX7 307 (4) ∈ Tg := tg_tab (List.mem_of_getElem? (i := 1259) (by decide +kernel)) (by decide +kernel)
theorem tw_716 : Cond.fieldLink RX7 51 "WallDownModel" "image" "[I" ∈ Tg := tg_tab (List.mem_of_getElem? (i := 822) (by decide +kernel)) (by decide +kernel)
theorem tw_717 : Cond.fieldLink RX7 309 "WallDownModel" "isKept" "Z" ∈ Tg := tg_tab (List.mem_of_getElem? (i := 824) (by decide +kernel)) (by decide +kernel)
theorem tw_718 : u_lay RX0 TX0 0 ∈ Tg := tg_tab (List.mem_of_getElem? (i := 56) (by decide +kernel)) (by decide +kernel)
theorem tw_719 : u_lay RX0 TX0 1 ∈ Tg := tg_tab (List.mem_of_getElem? (i := 58) (by decide +kernel)) (by decide +kernel)
theorem tw_720 : u_lay RX0 TX0 2 ∈ Tg := tg_tab (List.mem_of_getElem? (i := 60) (by decide +kernel)) (by decide +kernel)
theorem tw_721 : u_lay RX0 TX0 3 ∈ Tg := tg_tab (List.mem_of_getElem? (i := 62) (by decide +kernel)) (by decide +kernel)
theorem tw_722 : u_lay RX0 TX0 4 ∈ Tg := tg_tab (List.mem_of_getElem? (i := 64) (by decide +kernel)) (by decide +kernel)
theorem tw_723 : u_lay RX0 TX0 5 ∈ Tg := tg_tab (List.mem_of_getElem? (i := 66) (by decide +kernel)) (by decide +kernel)
theorem tw_724 : u_lay RX0 TX0 6 ∈ Tg := tg_tab (List.mem_of_getElem? (i := 68) (by decide +kernel)) (by decide +kernel)
theorem tw_725 : u_lay RX0 TX0 7 ∈ Tg := tg_tab (List.mem_of_getElem? (i := 70) (by decide +kernel)) (by decide +kernel)
theorem tw_726 : u_lay RX0 TX0 8 ∈ Tg := tg_tab (List.mem_of_getElem? (i := 72) (by decide +kernel)) (by decide +kernel)
theorem tw_727 : u_lay RX1 TX1 0 ∈ Tg := tg_tab (List.mem_of_getElem? (i := 114) (by decide +kernel)) (by decide +kernel)
theorem tw_728 : u_lay RX1 TX1 1 ∈ Tg := tg_tab (List.mem_of_getElem? (i := 116) (by decide +kernel)) (by decide +kernel)
theorem tw_729 : u_lay RX2 TX2 0 ∈ Tg := tg_tab (List.mem_of_getElem? (i := 184) (by decide +kernel)) (by decide +kernel)
theorem tw_730 : u_lay RX2 TX2 1 ∈ Tg := tg_tab (List.mem_of_getElem? (i := 186) (by decide +kernel)) (by decide +kernel)
theorem tw_731 : u_lay RX2 TX2 2 ∈ Tg := tg_tab (List.mem_of_getElem? (i := 188) (by decide +kernel)) (by decide +kernel)
theorem tw_732 : u_lay RX3 TX3 0 ∈ Tg := tg_tab (List.mem_of_getElem? (i := 92) (by decide +kernel)) (by decide +kernel)
theorem tw_733 : u_lay RX3 TX3 1 ∈ Tg := tg_tab (List.mem_of_getElem? (i := 94) (by decide +kernel)) (by decide +kernel)
theorem tw_734 : u_lay RX3 TX3 2 ∈ Tg := tg_tab (List.mem_of_getElem? (i := 96) (by decide +kernel)) (by decide +kernel)
theorem tw_735 : u_lay RX3 TX3 3 ∈ Tg := tg_tab (List.mem_of_getElem? (i := 98) (by decide +kernel)) (by decide +kernel)
theorem tw_736 : u_lay RX3 TX3 4 ∈ Tg := tg_tab (List.mem_of_getElem? (i := 100) (by decide +kernel)) (by decide +kernel)
theorem tw_737 : u_lay RX3 TX3 5 ∈ Tg := tg_tab (List.mem_of_getElem? (i := 102) (by decide +kernel)) (by decide +kernel)
theorem tw_738 : u_lay RX4 TX4 0 ∈ Tg := tg_tab (List.mem_of_getElem? (i := 142) (by decide +kernel)) (by decide +kernel)
theorem tw_739 : u_lay RX4 TX4 1 ∈ Tg := tg_tab (List.mem_of_getElem? (i := 144) (by decide +kernel)) (by decide +kernel)
theorem tw_740 : u_lay RX4 TX4 2 ∈ Tg := tg_tab (List.mem_of_getElem? (i := 146) (by decide +kernel)) (by decide +kernel)
theorem tw_741 : u_lay RX4 TX4 3 ∈ Tg := tg_tab (List.mem_of_getElem? (i := 148) (by decide +kernel)) (by decide +kernel)
theorem tw_742 : u_lay RX4 TX4 4 ∈ Tg := tg_tab (List.mem_of_getElem? (i := 150) (by decide +kernel)) (by decide +kernel)
theorem tw_743 : u_lay RX4 TX4 5 ∈ Tg := tg_tab (List.mem_of_getElem? (i := 152) (by decide +kernel)) (by decide +kernel)
theorem tw_744 : u_lay RX5 TX5 0 ∈ Tg := tg_tab (List.mem_of_getElem? (i := 164) (by decide +kernel)) (by decide +kernel)
theorem tw_745 : u_lay RX5 TX5 1 ∈ Tg := tg_tab (List.mem_of_getElem? (i := 166) (by decide +kernel)) (by decide +kernel)
theorem tw_746 : u_lay RX5 TX5 2 ∈ Tg := tg_tab (List.mem_of_getElem? (i := 168) (by decide +kernel)) (by decide +kernel)
theorem tw_747 : u_lay RX6 TX6 0 ∈ Tg := tg_tab (List.mem_of_getElem? (i := 200) (by decide +kernel)) (by decide +kernel)
theorem tw_748 : u_lay RX6 TX6 1 ∈ Tg := tg_tab (List.mem_of_getElem? (i := 202) (by decide +kernel)) (by decide +kernel)
theorem tw_749 : u_lay RX6 TX6 2 ∈ Tg := tg_tab (List.mem_of_getElem? (i := 204) (by decide +kernel)) (by decide +kernel)
theorem tw_750 : u_lay RX6 TX6 3 ∈ Tg := tg_tab (List.mem_of_getElem? (i := 206) (by decide +kernel)) (by decide +kernel)
theorem tw_751 : u_lay RX6 TX6 4 ∈ Tg := tg_tab (List.mem_of_getElem? (i := 208) (by decide +kernel)) (by decide +kernel)
theorem tw_752 : u_lay RX6 TX6 5 ∈ Tg := tg_tab (List.mem_of_getElem? (i := 210) (by decide +kernel)) (by decide +kernel)
theorem tw_753 : u_lay RX6 TX6 6 ∈ Tg := tg_tab (List.mem_of_getElem? (i := 212) (by decide +kernel)) (by decide +kernel)
theorem tw_754 : u_lay RX6 TX6 7 ∈ Tg := tg_tab (List.mem_of_getElem? (i := 214) (by decide +kernel)) (by decide +kernel)
theorem tw_755 : u_lay RX6 TX6 8 ∈ Tg := tg_tab (List.mem_of_getElem? (i := 216) (by decide +kernel)) (by decide +kernel)
theorem tw_756 : u_lay RX7 TX7 0 ∈ Tg := tg_tab (List.mem_of_getElem? (i := 825) (by decide +kernel)) (by decide +kernel)
theorem tw_757 : u_lay RX7 TX7 1 ∈ Tg := tg_tab (List.mem_of_getElem? (i := 827) (by decide +kernel)) (by decide +kernel)
theorem tw_758 : u_lay RX7 TX7 2 ∈ Tg := tg_tab (List.mem_of_getElem? (i := 829) (by decide +kernel)) (by decide +kernel)
theorem tw_759 : u_lay RX7 TX7 3 ∈ Tg := tg_tab (List.mem_of_getElem? (i := 831) (by decide +kernel)) (by decide +kernel)
theorem tw_760 : u_lay RX7 TX7 4 ∈ Tg := tg_tab (List.mem_of_getElem? (i := 833) (by decide +kernel)) (by decide +kernel)
theorem tw_761 : u_lay RX7 TX7 5 ∈ Tg := tg_tab (List.mem_of_getElem? (i := 835) (by decide +kernel)) (by decide +kernel)
theorem tw_762 : u_lay RX7 TX7 6 ∈ Tg := tg_tab (List.mem_of_getElem? (i := 837) (by decide +kernel)) (by decide +kernel)
theorem tw_763 : u_lay RX7 TX7 7 ∈ Tg := tg_tab (List.mem_of_getElem? (i := 839) (by decide +kernel)) (by decide +kernel)
theorem tw_764 : u_lay RX7 TX7 8 ∈ Tg := tg_tab (List.mem_of_getElem? (i := 841) (by decide +kernel)) (by decide +kernel)
theorem tw_765 : u_lay RX7 TX7 9 ∈ Tg := tg_tab (List.mem_of_getElem? (i := 843) (by decide +kernel)) (by decide +kernel)
theorem tw_766 : u_lay RX7 TX7 10 ∈ Tg := tg_tab (List.mem_of_getElem? (i := 845) (by decide +kernel)) (by decide +kernel)
theorem tw_767 : u_lay RX7 TX7 11 ∈ Tg := tg_tab (List.mem_of_getElem? (i := 847) (by decide +kernel)) (by decide +kernel)
theorem tw_768 : u_lay RX7 TX7 12 ∈ Tg := tg_tab (List.mem_of_getElem? (i := 849) (by decide +kernel)) (by decide +kernel)
theorem tw_769 : u_lay RX7 TX7 13 ∈ Tg := tg_tab (List.mem_of_getElem? (i := 851) (by decide +kernel)) (by decide +kernel)
theorem tw_770 : u_lay RX7 TX7 14 ∈ Tg := tg_tab (List.mem_of_getElem? (i := 853) (by decide +kernel)) (by decide +kernel)
theorem tw_771 : u_lay RX7 TX7 15 ∈ Tg := tg_tab (List.mem_of_getElem? (i := 855) (by decide +kernel)) (by decide +kernel)
theorem tw_772 : u_lay RX7 TX7 16 ∈ Tg := tg_tab (List.mem_of_getElem? (i := 857) (by decide +kernel)) (by decide +kernel)
theorem tw_773 : u_lay RX7 TX7 17 ∈ Tg := tg_tab (List.mem_of_getElem? (i := 859) (by decide +kernel)) (by decide +kernel)
theorem tw_774 : u_lay RX7 TX7 18 ∈ Tg := tg_tab (List.mem_of_getElem? (i := 861) (by decide +kernel)) (by decide +kernel)
theorem tw_775 : u_lay RX7 TX7 19 ∈ Tg := tg_tab (List.mem_of_getElem? (i := 863) (by decide +kernel)) (by decide +kernel)
theorem tw_776 : u_lay RX7 TX7 20 ∈ Tg := tg_tab (List.mem_of_getElem? (i := 865) (by decide +kernel)) (by decide +kernel)
theorem tw_777 : u_lay RX7 TX7 21 ∈ Tg := tg_tab (List.mem_of_getElem? (i := 867) (by decide +kernel)) (by decide +kernel)
theorem tw_778 : u_lay RX7 TX7 22 ∈ Tg := tg_tab (List.mem_of_getElem? (i := 869) (by decide +kernel)) (by decide +kernel)
theorem in_0 : ∀ w ∈ u_ws RX0 TX0 9, w ∈ Tg := by
  intro w hw
  obtain ⟨k, hk, rfl⟩ := List.mem_map.mp hw
  have hk := List.mem_range.mp hk
  match k, hk with
  | 0, _ => exact tw_718
  | 1, _ => exact tw_719
  | 2, _ => exact tw_720
  | 3, _ => exact tw_721
  | 4, _ => exact tw_722
  | 5, _ => exact tw_723
  | 6, _ => exact tw_724
  | 7, _ => exact tw_725
  | 8, _ => exact tw_726
  | k + 9, hk => omega
theorem in_1 : ∀ w ∈ u_ws RX1 TX1 2, w ∈ Tg := by
  intro w hw
  obtain ⟨k, hk, rfl⟩ := List.mem_map.mp hw
  have hk := List.mem_range.mp hk
  match k, hk with
  | 0, _ => exact tw_727
  | 1, _ => exact tw_728
  | k + 2, hk => omega
theorem in_2 : ∀ w ∈ u_ws RX2 TX2 3, w ∈ Tg := by
  intro w hw
  obtain ⟨k, hk, rfl⟩ := List.mem_map.mp hw
  have hk := List.mem_range.mp hk
  match k, hk with
  | 0, _ => exact tw_729
  | 1, _ => exact tw_730
  | 2, _ => exact tw_731
  | k + 3, hk => omega
theorem in_3 : ∀ w ∈ u_ws RX3 TX3 6, w ∈ Tg := by
  intro w hw
  obtain ⟨k, hk, rfl⟩ := List.mem_map.mp hw
  have hk := List.mem_range.mp hk
  match k, hk with
  | 0, _ => exact tw_732
  | 1, _ => exact tw_733
  | 2, _ => exact tw_734
  | 3, _ => exact tw_735
  | 4, _ => exact tw_736
  | 5, _ => exact tw_737
  | k + 6, hk => omega
theorem in_4 : ∀ w ∈ u_ws RX4 TX4 6, w ∈ Tg := by
  intro w hw
  obtain ⟨k, hk, rfl⟩ := List.mem_map.mp hw
  have hk := List.mem_range.mp hk
  match k, hk with
  | 0, _ => exact tw_738
  | 1, _ => exact tw_739
  | 2, _ => exact tw_740
  | 3, _ => exact tw_741
  | 4, _ => exact tw_742
  | 5, _ => exact tw_743
  | k + 6, hk => omega
theorem in_5 : ∀ w ∈ u_ws RX5 TX5 3, w ∈ Tg := by
  intro w hw
  obtain ⟨k, hk, rfl⟩ := List.mem_map.mp hw
  have hk := List.mem_range.mp hk
  match k, hk with
  | 0, _ => exact tw_744
  | 1, _ => exact tw_745
  | 2, _ => exact tw_746
  | k + 3, hk => omega
theorem in_6 : ∀ w ∈ u_ws RX6 TX6 9, w ∈ Tg := by
  intro w hw
  obtain ⟨k, hk, rfl⟩ := List.mem_map.mp hw
  have hk := List.mem_range.mp hk
  match k, hk with
  | 0, _ => exact tw_747
  | 1, _ => exact tw_748
  | 2, _ => exact tw_749
  | 3, _ => exact tw_750
  | 4, _ => exact tw_751
  | 5, _ => exact tw_752
  | 6, _ => exact tw_753
  | 7, _ => exact tw_754
  | 8, _ => exact tw_755
  | k + 9, hk => omega
theorem in_7 : ∀ w ∈ u_ws RX7 TX7 23, w ∈ Tg := by
  intro w hw
  obtain ⟨k, hk, rfl⟩ := List.mem_map.mp hw
  have hk := List.mem_range.mp hk
  match k, hk with
  | 0, _ => exact tw_756
  | 1, _ => exact tw_757
  | 2, _ => exact tw_758
  | 3, _ => exact tw_759
  | 4, _ => exact tw_760
  | 5, _ => exact tw_761
  | 6, _ => exact tw_762
  | 7, _ => exact tw_763
  | 8, _ => exact tw_764
  | 9, _ => exact tw_765
  | 10, _ => exact tw_766
  | 11, _ => exact tw_767
  | 12, _ => exact tw_768
  | 13, _ => exact tw_769
  | 14, _ => exact tw_770
  | 15, _ => exact tw_771
  | 16, _ => exact tw_772
  | 17, _ => exact tw_773
  | 18, _ => exact tw_774
  | 19, _ => exact tw_775
  | 20, _ => exact tw_776
  | 21, _ => exact tw_777
  | 22, _ => exact tw_778
  | k + 23, hk => omega
theorem fd_RX0_9 : FdO RX0 9 0 0 := ⟨(RX0, TX0, 9), rfl, in_0, by decide, tw_0⟩
theorem fd_RX0_15 : FdO RX0 15 0 1 := ⟨(RX0, TX0, 9), rfl, in_0, by decide, tw_1⟩
theorem fd_RX0_18 : FdO RX0 18 0 2 := ⟨(RX0, TX0, 9), rfl, in_0, by decide, tw_2⟩
theorem fd_RX0_21 : FdO RX0 21 0 3 := ⟨(RX0, TX0, 9), rfl, in_0, by decide, tw_3⟩
theorem fd_RX0_24 : FdO RX0 24 0 4 := ⟨(RX0, TX0, 9), rfl, in_0, by decide, tw_4⟩
theorem fd_RX0_27 : FdO RX0 27 0 5 := ⟨(RX0, TX0, 9), rfl, in_0, by decide, tw_5⟩
theorem fd_RX0_31 : FdO RX0 31 0 6 := ⟨(RX0, TX0, 9), rfl, in_0, by decide, tw_6⟩
theorem fd_RX0_40 : FdO RX0 40 0 7 := ⟨(RX0, TX0, 9), rfl, in_0, by decide, tw_7⟩
theorem fd_RX0_43 : FdO RX0 43 0 8 := ⟨(RX0, TX0, 9), rfl, in_0, by decide, tw_8⟩
theorem fd_RX2_19 : FdO RX2 19 2 2 := ⟨(RX2, TX2, 3), rfl, in_2, by decide, tw_59⟩
theorem fd_RX2_9 : FdO RX2 9 2 0 := ⟨(RX2, TX2, 3), rfl, in_2, by decide, tw_60⟩
theorem fd_RX3_18 : FdO RX3 18 3 2 := ⟨(RX3, TX3, 6), rfl, in_3, by decide, tw_61⟩
theorem fd_RX3_15 : FdO RX3 15 3 1 := ⟨(RX3, TX3, 6), rfl, in_3, by decide, tw_62⟩
theorem fd_RX3_31 : FdO RX3 31 3 3 := ⟨(RX3, TX3, 6), rfl, in_3, by decide, tw_63⟩
theorem fd_RX3_11 : FdO RX3 11 3 0 := ⟨(RX3, TX3, 6), rfl, in_3, by decide, tw_65⟩
theorem fd_RX3_38 : FdO RX3 38 3 4 := ⟨(RX3, TX3, 6), rfl, in_3, by decide, tw_66⟩
theorem fd_RX1_11 : FdO RX1 11 1 0 := ⟨(RX1, TX1, 2), rfl, in_1, by decide, tw_71⟩
theorem fd_RX1_21 : FdO RX1 21 3 3 := ⟨(RX3, TX3, 6), rfl, in_3, by decide, tw_72⟩
theorem fd_RX1_35 : FdO RX1 35 3 5 := ⟨(RX3, TX3, 6), rfl, in_3, by decide, tw_91⟩
theorem fd_RX3_42 : FdO RX3 42 3 5 := ⟨(RX3, TX3, 6), rfl, in_3, by decide, tw_99⟩
theorem fd_RX1_17 : FdO RX1 17 1 1 := ⟨(RX1, TX1, 2), rfl, in_1, by decide, tw_118⟩
theorem fd_RX2_15 : FdO RX2 15 2 1 := ⟨(RX2, TX2, 3), rfl, in_2, by decide, tw_126⟩
theorem fd_RX3_35 : FdO RX3 35 0 5 := ⟨(RX0, TX0, 9), rfl, in_0, by decide, tw_130⟩
theorem fd_RX3_39 : FdO RX3 39 0 6 := ⟨(RX0, TX0, 9), rfl, in_0, by decide, tw_131⟩
theorem fd_RX3_43 : FdO RX3 43 0 3 := ⟨(RX0, TX0, 9), rfl, in_0, by decide, tw_132⟩
theorem fd_RX3_46 : FdO RX3 46 0 4 := ⟨(RX0, TX0, 9), rfl, in_0, by decide, tw_133⟩
theorem fd_RX3_52 : FdO RX3 52 0 0 := ⟨(RX0, TX0, 9), rfl, in_0, by decide, tw_134⟩
theorem fd_RX4_9 : FdO RX4 9 4 0 := ⟨(RX4, TX4, 6), rfl, in_4, by decide, tw_139⟩
theorem fd_RX4_15 : FdO RX4 15 4 1 := ⟨(RX4, TX4, 6), rfl, in_4, by decide, tw_140⟩
theorem fd_RX4_44 : FdO RX4 44 4 4 := ⟨(RX4, TX4, 6), rfl, in_4, by decide, tw_144⟩
theorem fd_RX4_19 : FdO RX4 19 4 5 := ⟨(RX4, TX4, 6), rfl, in_4, by decide, tw_145⟩
theorem fd_RX4_25 : FdO RX4 25 4 3 := ⟨(RX4, TX4, 6), rfl, in_4, by decide, tw_156⟩
theorem fd_RX4_28 : FdO RX4 28 4 2 := ⟨(RX4, TX4, 6), rfl, in_4, by decide, tw_157⟩
theorem fd_RX5_12 : FdO RX5 12 5 0 := ⟨(RX5, TX5, 3), rfl, in_5, by decide, tw_202⟩
theorem fd_RX5_105 : FdO RX5 105 4 4 := ⟨(RX4, TX4, 6), rfl, in_4, by decide, tw_203⟩
theorem fd_RX5_21 : FdO RX5 21 5 1 := ⟨(RX5, TX5, 3), rfl, in_5, by decide, tw_204⟩
theorem fd_RX5_43 : FdO RX5 43 4 2 := ⟨(RX4, TX4, 6), rfl, in_4, by decide, tw_218⟩
theorem fd_RX5_28 : FdO RX5 28 5 2 := ⟨(RX5, TX5, 3), rfl, in_5, by decide, tw_219⟩
theorem fd_RX5_132 : FdO RX5 132 3 3 := ⟨(RX3, TX3, 6), rfl, in_3, by decide, tw_220⟩
theorem fd_RX5_127 : FdO RX5 127 0 6 := ⟨(RX0, TX0, 9), rfl, in_0, by decide, tw_230⟩
theorem fd_RX5_101 : FdO RX5 101 0 3 := ⟨(RX0, TX0, 9), rfl, in_0, by decide, tw_231⟩
theorem fd_RX5_124 : FdO RX5 124 0 4 := ⟨(RX0, TX0, 9), rfl, in_0, by decide, tw_236⟩
theorem fd_RX5_50 : FdO RX5 50 4 3 := ⟨(RX4, TX4, 6), rfl, in_4, by decide, tw_265⟩
theorem fd_RX6_49 : FdO RX6 49 6 7 := ⟨(RX6, TX6, 9), rfl, in_6, by decide, tw_275⟩
theorem fd_RX6_12 : FdO RX6 12 6 0 := ⟨(RX6, TX6, 9), rfl, in_6, by decide, tw_281⟩
theorem fd_RX6_69 : FdO RX6 69 0 3 := ⟨(RX0, TX0, 9), rfl, in_0, by decide, tw_282⟩
theorem fd_RX6_77 : FdO RX6 77 0 4 := ⟨(RX0, TX0, 9), rfl, in_0, by decide, tw_294⟩
theorem fd_RX6_19 : FdO RX6 19 6 2 := ⟨(RX6, TX6, 9), rfl, in_6, by decide, tw_297⟩
theorem fd_RX6_94 : FdO RX6 94 0 0 := ⟨(RX0, TX0, 9), rfl, in_0, by decide, tw_298⟩
theorem fd_RX6_25 : FdO RX6 25 6 3 := ⟨(RX6, TX6, 9), rfl, in_6, by decide, tw_299⟩
theorem fd_RX6_156 : FdO RX6 156 3 3 := ⟨(RX3, TX3, 6), rfl, in_3, by decide, tw_300⟩
theorem fd_RX6_97 : FdO RX6 97 0 1 := ⟨(RX0, TX0, 9), rfl, in_0, by decide, tw_305⟩
theorem fd_RX6_100 : FdO RX6 100 0 2 := ⟨(RX0, TX0, 9), rfl, in_0, by decide, tw_306⟩
theorem fd_RX6_124 : FdO RX6 124 0 6 := ⟨(RX0, TX0, 9), rfl, in_0, by decide, tw_325⟩
theorem fd_RX6_128 : FdO RX6 128 0 5 := ⟨(RX0, TX0, 9), rfl, in_0, by decide, tw_326⟩
theorem fd_RX6_135 : FdO RX6 135 0 7 := ⟨(RX0, TX0, 9), rfl, in_0, by decide, tw_328⟩
theorem fd_RX6_143 : FdO RX6 143 0 8 := ⟨(RX0, TX0, 9), rfl, in_0, by decide, tw_334⟩
theorem fd_RX6_32 : FdO RX6 32 6 4 := ⟨(RX6, TX6, 9), rfl, in_6, by decide, tw_343⟩
theorem fd_RX6_184 : FdO RX6 184 1 0 := ⟨(RX1, TX1, 2), rfl, in_1, by decide, tw_348⟩
theorem fd_RX6_39 : FdO RX6 39 6 5 := ⟨(RX6, TX6, 9), rfl, in_6, by decide, tw_398⟩
theorem fd_RX6_219 : FdO RX6 219 5 0 := ⟨(RX5, TX5, 3), rfl, in_5, by decide, tw_399⟩
theorem fd_RX6_223 : FdO RX6 223 4 1 := ⟨(RX4, TX4, 6), rfl, in_4, by decide, tw_400⟩
theorem fd_RX6_234 : FdO RX6 234 5 1 := ⟨(RX5, TX5, 3), rfl, in_5, by decide, tw_405⟩
theorem fd_RX6_45 : FdO RX6 45 6 6 := ⟨(RX6, TX6, 9), rfl, in_6, by decide, tw_410⟩
theorem fd_RX6_248 : FdO RX6 248 2 2 := ⟨(RX2, TX2, 3), rfl, in_2, by decide, tw_411⟩
theorem fd_RX6_260 : FdO RX6 260 2 1 := ⟨(RX2, TX2, 3), rfl, in_2, by decide, tw_423⟩
theorem fd_RX6_254 : FdO RX6 254 2 0 := ⟨(RX2, TX2, 3), rfl, in_2, by decide, tw_425⟩
theorem fd_RX6_16 : FdO RX6 16 6 1 := ⟨(RX6, TX6, 9), rfl, in_6, by decide, tw_445⟩
theorem fd_RX6_295 : FdO RX6 295 6 8 := ⟨(RX6, TX6, 9), rfl, in_6, by decide, tw_446⟩
theorem fd_RX7_13 : FdO RX7 13 7 1 := ⟨(RX7, TX7, 23), rfl, in_7, by decide, tw_451⟩
theorem fd_RX7_7 : FdO RX7 7 7 0 := ⟨(RX7, TX7, 23), rfl, in_7, by decide, tw_457⟩
theorem fd_RX7_16 : FdO RX7 16 7 2 := ⟨(RX7, TX7, 23), rfl, in_7, by decide, tw_475⟩
theorem fd_RX7_19 : FdO RX7 19 7 3 := ⟨(RX7, TX7, 23), rfl, in_7, by decide, tw_480⟩
theorem fd_RX7_26 : FdO RX7 26 7 5 := ⟨(RX7, TX7, 23), rfl, in_7, by decide, tw_558⟩
theorem fd_RX7_22 : FdO RX7 22 7 4 := ⟨(RX7, TX7, 23), rfl, in_7, by decide, tw_563⟩
theorem fd_RX7_29 : FdO RX7 29 7 6 := ⟨(RX7, TX7, 23), rfl, in_7, by decide, tw_584⟩
theorem fd_RX7_33 : FdO RX7 33 7 7 := ⟨(RX7, TX7, 23), rfl, in_7, by decide, tw_594⟩
theorem fd_RX7_189 : FdO RX7 189 7 9 := ⟨(RX7, TX7, 23), rfl, in_7, by decide, tw_615⟩
theorem fd_RX7_36 : FdO RX7 36 7 8 := ⟨(RX7, TX7, 23), rfl, in_7, by decide, tw_616⟩
theorem fd_RX7_193 : FdO RX7 193 7 12 := ⟨(RX7, TX7, 23), rfl, in_7, by decide, tw_617⟩
theorem fd_RX7_196 : FdO RX7 196 7 11 := ⟨(RX7, TX7, 23), rfl, in_7, by decide, tw_618⟩
theorem fd_RX7_208 : FdO RX7 208 7 10 := ⟨(RX7, TX7, 23), rfl, in_7, by decide, tw_623⟩
theorem fd_RX7_211 : FdO RX7 211 7 13 := ⟨(RX7, TX7, 23), rfl, in_7, by decide, tw_624⟩
theorem fd_RX7_215 : FdO RX7 215 7 14 := ⟨(RX7, TX7, 23), rfl, in_7, by decide, tw_625⟩
theorem fd_RX7_240 : FdO RX7 240 7 15 := ⟨(RX7, TX7, 23), rfl, in_7, by decide, tw_645⟩
theorem fd_RX7_54 : FdO RX7 54 7 21 := ⟨(RX7, TX7, 23), rfl, in_7, by decide, tw_690⟩
theorem fd_RX7_39 : FdO RX7 39 7 16 := ⟨(RX7, TX7, 23), rfl, in_7, by decide, tw_699⟩
theorem fd_RX7_42 : FdO RX7 42 7 17 := ⟨(RX7, TX7, 23), rfl, in_7, by decide, tw_700⟩
theorem fd_RX7_45 : FdO RX7 45 7 18 := ⟨(RX7, TX7, 23), rfl, in_7, by decide, tw_701⟩
theorem fd_RX7_48 : FdO RX7 48 7 19 := ⟨(RX7, TX7, 23), rfl, in_7, by decide, tw_710⟩
theorem fd_RX7_51 : FdO RX7 51 7 20 := ⟨(RX7, TX7, 23), rfl, in_7, by decide, tw_716⟩
theorem fd_RX7_309 : FdO RX7 309 7 22 := ⟨(RX7, TX7, 23), rfl, in_7, by decide, tw_717⟩
theorem fp_0_5 : FpO 0 5 .int := ⟨(RX0, TX0, 9), tyX0, rfl, tyX0_ok, nmX0, rfl, by decide +kernel⟩
theorem fp_0_6 : FpO 0 6 .int := ⟨(RX0, TX0, 9), tyX0, rfl, tyX0_ok, nmX0, rfl, by decide +kernel⟩
theorem fp_0_7 : FpO 0 7 .int := ⟨(RX0, TX0, 9), tyX0, rfl, tyX0_ok, nmX0, rfl, by decide +kernel⟩
theorem fp_0_8 : FpO 0 8 .int := ⟨(RX0, TX0, 9), tyX0, rfl, tyX0_ok, nmX0, rfl, by decide +kernel⟩
theorem fp_2_1 : FpO 2 1 .int := ⟨(RX2, TX2, 3), tyX2, rfl, tyX2_ok, nmX2, rfl, by decide +kernel⟩
theorem fp_2_2 : FpO 2 2 .int := ⟨(RX2, TX2, 3), tyX2, rfl, tyX2_ok, nmX2, rfl, by decide +kernel⟩
theorem fp_3_3 : FpO 3 3 .int := ⟨(RX3, TX3, 6), tyX3, rfl, tyX3_ok, nmX3, rfl, by decide +kernel⟩
theorem fp_3_4 : FpO 3 4 .int := ⟨(RX3, TX3, 6), tyX3, rfl, tyX3_ok, nmX3, rfl, by decide +kernel⟩
theorem fp_3_5 : FpO 3 5 .int := ⟨(RX3, TX3, 6), tyX3, rfl, tyX3_ok, nmX3, rfl, by decide +kernel⟩
theorem fp_4_1 : FpO 4 1 .int := ⟨(RX4, TX4, 6), tyX4, rfl, tyX4_ok, nmX4, rfl, by decide +kernel⟩
theorem fp_4_2 : FpO 4 2 .int := ⟨(RX4, TX4, 6), tyX4, rfl, tyX4_ok, nmX4, rfl, by decide +kernel⟩
theorem fp_4_3 : FpO 4 3 .int := ⟨(RX4, TX4, 6), tyX4, rfl, tyX4_ok, nmX4, rfl, by decide +kernel⟩
theorem fp_4_4 : FpO 4 4 .int := ⟨(RX4, TX4, 6), tyX4, rfl, tyX4_ok, nmX4, rfl, by decide +kernel⟩
theorem fp_4_5 : FpO 4 5 .int := ⟨(RX4, TX4, 6), tyX4, rfl, tyX4_ok, nmX4, rfl, by decide +kernel⟩
theorem fp_6_8 : FpO 6 8 .boolean := ⟨(RX6, TX6, 9), tyX6, rfl, tyX6_ok, nmX6, rfl, by decide +kernel⟩
theorem fp_7_9 : FpO 7 9 .int := ⟨(RX7, TX7, 23), tyX7, rfl, tyX7_ok, nmX7, rfl, by decide +kernel⟩
theorem fp_7_10 : FpO 7 10 .int := ⟨(RX7, TX7, 23), tyX7, rfl, tyX7_ok, nmX7, rfl, by decide +kernel⟩
theorem fp_7_11 : FpO 7 11 .int := ⟨(RX7, TX7, 23), tyX7, rfl, tyX7_ok, nmX7, rfl, by decide +kernel⟩
theorem fp_7_12 : FpO 7 12 .int := ⟨(RX7, TX7, 23), tyX7, rfl, tyX7_ok, nmX7, rfl, by decide +kernel⟩
theorem fp_7_13 : FpO 7 13 .long := ⟨(RX7, TX7, 23), tyX7, rfl, tyX7_ok, nmX7, rfl, by decide +kernel⟩
theorem fp_7_14 : FpO 7 14 .int := ⟨(RX7, TX7, 23), tyX7, rfl, tyX7_ok, nmX7, rfl, by decide +kernel⟩
theorem fp_7_15 : FpO 7 15 .boolean := ⟨(RX7, TX7, 23), tyX7, rfl, tyX7_ok, nmX7, rfl, by decide +kernel⟩
theorem fp_7_22 : FpO 7 22 .boolean := ⟨(RX7, TX7, 23), tyX7, rfl, tyX7_ok, nmX7, rfl, by decide +kernel⟩
theorem cl_RX0_46 : ClO RX0 46 yX0_place cX0_place 2 (some .int) 2 := ⟨tw_13, tw_14, tw_15, by decide +kernel⟩
theorem cl_RX0_51 : ClO RX0 51 yX0_coinOf cX0_coinOf 4 (some .int) 2 := ⟨tw_22, tw_14, tw_23, by decide +kernel⟩
theorem cl_RX0_62 : ClO RX0 62 yX0_tallOf cX0_tallOf 5 (some .int) 2 := ⟨tw_29, tw_14, tw_30, by decide +kernel⟩
theorem cl_RX0_65 : ClO RX0 65 yX0_topOf cX0_topOf 4 (some .int) 1 := ⟨tw_33, tw_14, tw_34, by decide +kernel⟩
theorem cl_RX0_69 : ClO RX0 69 yX0_coinsOf cX0_coinsOf 4 (some .int) 1 := ⟨tw_37, tw_14, tw_38, by decide +kernel⟩
theorem cl_RX0_81 : ClO RX0 81 yX3_unit cX3_unit 1 (some .int) 1 := ⟨tw_41, tw_42, tw_43, by decide +kernel⟩
theorem cl_RX3_21 : ClO RX3 21 yX3_leftAt cX3_leftAt 2 (some .int) 2 := ⟨tw_45, tw_42, tw_46, by decide +kernel⟩
theorem cl_RX0_76 : ClO RX0 76 yX3_stonesAt cX3_stonesAt 1 (some .int) 1 := ⟨tw_48, tw_42, tw_49, by decide +kernel⟩
theorem cl_RX0_72 : ClO RX0 72 yX0_standNow cX0_standNow 3 (some .int) 0 := ⟨tw_51, tw_14, tw_52, by decide +kernel⟩
theorem cl_RJ7_13 : ClO RJ7 13 yJ7_rangeCheck_23922 cJ7_rangeCheck_23922 3 none 3 := ⟨tw_55, tw_56, tw_57, by decide +kernel⟩
theorem cl_RX3_61 : ClO RX3 61 yX3_stonesAt cX3_stonesAt 1 (some .int) 1 := ⟨tw_64, tw_42, tw_49, by decide +kernel⟩
theorem cl_RX1_54 : ClO RX1 54 yX3_unit cX3_unit 1 (some .int) 1 := ⟨tw_73, tw_42, tw_43, by decide +kernel⟩
theorem cl_RX1_49 : ClO RX1 49 yX2_tells cX2_tells 3 (some .boolean) 2 := ⟨tw_74, tw_75, tw_76, by decide +kernel⟩
theorem cl_RX1_45 : ClO RX1 45 yX3_nextCoin cX3_nextCoin 4 (some .int) 2 := ⟨tw_79, tw_42, tw_80, by decide +kernel⟩
theorem cl_RX1_42 : ClO RX1 42 yX3_pulledAt cX3_pulledAt 2 (some .int) 1 := ⟨tw_83, tw_42, tw_84, by decide +kernel⟩
theorem cl_RX1_38 : ClO RX1 38 yX3_lowestMayGo cX3_lowestMayGo 5 (some .boolean) 2 := ⟨tw_87, tw_42, tw_88, by decide +kernel⟩
theorem cl_RX1_31 : ClO RX1 31 yX3_unlikeAt cX3_unlikeAt 6 (some .int) 1 := ⟨tw_92, tw_42, tw_93, by decide +kernel⟩
theorem cl_RX1_25 : ClO RX1 25 yJ7_fill_bad5a cJ7_fill_bad5a 6 none 4 := ⟨tw_96, tw_56, tw_97, by decide +kernel⟩
theorem cl_RX3_80 : ClO RX3 80 yX3_unlikeAt cX3_unlikeAt 6 (some .int) 1 := ⟨tw_100, tw_42, tw_93, by decide +kernel⟩
theorem cl_RX3_77 : ClO RX3 77 yX3_unit cX3_unit 1 (some .int) 1 := ⟨tw_101, tw_42, tw_43, by decide +kernel⟩
theorem cl_RX3_73 : ClO RX3 73 yX3_lowestMayGo cX3_lowestMayGo 5 (some .boolean) 2 := ⟨tw_102, tw_42, tw_88, by decide +kernel⟩
theorem cl_RX1_64 : ClO RX1 64 yX3_canPullAt cX3_canPullAt 3 (some .boolean) 2 := ⟨tw_103, tw_42, tw_104, by decide +kernel⟩
theorem cl_RX1_60 : ClO RX1 60 yX1_leadFrom cX1_leadFrom 4 (some .int) 2 := ⟨tw_107, tw_108, tw_109, by decide +kernel⟩
theorem cl_RX1_57 : ClO RX1 57 yX3_isPartOf cX3_isPartOf 3 (some .boolean) 2 := ⟨tw_112, tw_42, tw_113, by decide +kernel⟩
theorem cl_RX1_67 : ClO RX1 67 yX3_stonesAt cX3_stonesAt 1 (some .int) 1 := ⟨tw_115, tw_42, tw_49, by decide +kernel⟩
theorem cl_RX1_70 : ClO RX1 70 yX3_leftAt cX3_leftAt 2 (some .int) 2 := ⟨tw_117, tw_42, tw_46, by decide +kernel⟩
theorem cl_RX1_81 : ClO RX1 81 yX3_coinAt cX3_coinAt 4 (some .int) 1 := ⟨tw_119, tw_42, tw_120, by decide +kernel⟩
theorem cl_RX1_78 : ClO RX1 78 yJ7_fill_53178 cJ7_fill_53178 4 none 2 := ⟨tw_123, tw_56, tw_124, by decide +kernel⟩
theorem cl_RX2_22 : ClO RX2 22 yJ7_fill_d0a16 cJ7_fill_d0a16 5 none 2 := ⟨tw_127, tw_56, tw_128, by decide +kernel⟩
theorem cl_RX3_55 : ClO RX3 55 yX0_place cX0_place 2 (some .int) 2 := ⟨tw_135, tw_14, tw_15, by decide +kernel⟩
theorem cl_RX3_49 : ClO RX3 49 yX0_tallOf cX0_tallOf 5 (some .int) 2 := ⟨tw_136, tw_14, tw_30, by decide +kernel⟩
theorem cl_RX3_58 : ClO RX3 58 yX0_coinOf cX0_coinOf 4 (some .int) 2 := ⟨tw_137, tw_14, tw_23, by decide +kernel⟩
theorem cl_RX3_25 : ClO RX3 25 yX0_standNow cX0_standNow 3 (some .int) 0 := ⟨tw_138, tw_14, tw_52, by decide +kernel⟩
theorem cl_RX4_38 : ClO RX4 38 yX4_isDigit cX4_isDigit 2 (some .boolean) 1 := ⟨tw_147, tw_148, tw_149, by decide +kernel⟩
theorem cl_RX4_31 : ClO RX4 31 yX4_isLetter cX4_isLetter 2 (some .boolean) 1 := ⟨tw_152, tw_148, tw_153, by decide +kernel⟩
theorem cl_RX4_41 : ClO RX4 41 yX4_skipDigits cX4_skipDigits 1 none 0 := ⟨tw_158, tw_148, tw_159, by decide +kernel⟩
theorem cl_RX4_35 : ClO RX4 35 yX4_skipLetters cX4_skipLetters 1 none 0 := ⟨tw_162, tw_148, tw_163, by decide +kernel⟩
theorem cl_RX4_22 : ClO RX4 22 yX4_step cX4_step 1 none 0 := ⟨tw_166, tw_148, tw_167, by decide +kernel⟩
theorem cl_RJ0_1059 : ClO RJ0 1059 yJ3_checkIndex_8e157 cJ3_checkIndex_8e157 3 (some .int) 3 := ⟨tw_172, tw_173, tw_174, by decide +kernel⟩
theorem cl_RJ1_9 : ClO RJ1 9 yJ0_checkIndex_df160 cJ0_checkIndex_df160 2 none 2 := ⟨tw_177, tw_178, tw_179, by decide +kernel⟩
theorem cl_RJ0_495 : ClO RJ0 495 yJ1_charAt_3b067 cJ1_charAt_3b067 2 (some .char) 2 := ⟨tw_182, tw_183, tw_184, by decide +kernel⟩
theorem cl_RJ0_492 : ClO RJ0 492 yJ0_isLatin1_aae02 cJ0_isLatin1_aae02 1 (some .boolean) 0 := ⟨tw_186, tw_178, tw_187, by decide +kernel⟩
theorem cl_RJ0_335 : ClO RJ0 335 yJ0_coder_7d493 cJ0_coder_7d493 1 (some .byte) 0 := ⟨tw_190, tw_178, tw_191, by decide +kernel⟩
theorem cl_RX4_62 : ClO RX4 62 yJ0_charAt_5068e cJ0_charAt_5068e 2 (some .char) 1 := ⟨tw_194, tw_178, tw_195, by decide +kernel⟩
theorem cl_RX4_57 : ClO RX4 57 yJ0_length_8abf5 cJ0_length_8abf5 1 (some .int) 0 := ⟨tw_198, tw_178, tw_199, by decide +kernel⟩
theorem cl_RX5_47 : ClO RX5 47 yX4_step cX4_step 1 none 0 := ⟨tw_205, tw_148, tw_167, by decide +kernel⟩
theorem cl_RX5_120 : ClO RX5 120 yX0_layBeam cX0_layBeam 4 none 2 := ⟨tw_206, tw_14, tw_207, by decide +kernel⟩
theorem cl_RX5_57 : ClO RX5 57 yX4_isWord cX4_isWord 3 (some .boolean) 1 := ⟨tw_210, tw_148, tw_211, by decide +kernel⟩
theorem cl_RX5_97 : ClO RX5 97 yX4_isNumber cX4_isNumber 3 (some .boolean) 2 := ⟨tw_214, tw_148, tw_215, by decide +kernel⟩
theorem cl_RX5_138 : ClO RX5 138 yX0_takeLowest cX0_takeLowest 3 none 1 := ⟨tw_221, tw_14, tw_222, by decide +kernel⟩
theorem cl_RX5_135 : ClO RX5 135 yX3_canPullAt cX3_canPullAt 3 (some .boolean) 2 := ⟨tw_225, tw_42, tw_104, by decide +kernel⟩
theorem cl_RX5_129 : ClO RX5 129 yX3_measure cX3_measure 6 none 1 := ⟨tw_226, tw_42, tw_227, by decide +kernel⟩
theorem cl_RX5_112 : ClO RX5 112 yX0_put cX0_put 6 none 4 := ⟨tw_232, tw_14, tw_233, by decide +kernel⟩
theorem cl_RX5_61 : ClO RX5 61 yX5_tellStone cX5_tellStone 5 (some .boolean) 1 := ⟨tw_237, tw_238, tw_239, by decide +kernel⟩
theorem cl_RX5_53 : ClO RX5 53 yX5_nameOf cX5_nameOf 1 (some (.object "java/lang/String")) 1 := ⟨tw_242, tw_238, tw_243, by decide +kernel⟩
theorem cl_RX5_82 : ClO RX5 82 yX5_tellPulls cX5_tellPulls 2 (some .boolean) 0 := ⟨tw_245, tw_238, tw_246, by decide +kernel⟩
theorem cl_RX5_77 : ClO RX5 77 yX5_tellSlack cX5_tellSlack 1 (some .boolean) 0 := ⟨tw_249, tw_238, tw_250, by decide +kernel⟩
theorem cl_RX5_72 : ClO RX5 72 yX5_tellWedge cX5_tellWedge 2 (some .boolean) 0 := ⟨tw_253, tw_238, tw_254, by decide +kernel⟩
theorem cl_RX5_67 : ClO RX5 67 yX5_tellBeam cX5_tellBeam 3 (some .boolean) 0 := ⟨tw_257, tw_238, tw_258, by decide +kernel⟩
theorem cl_RX5_39 : ClO RX5 39 yX5_tellItem cX5_tellItem 2 (some .boolean) 0 := ⟨tw_261, tw_238, tw_262, by decide +kernel⟩
theorem cl_RX5_36 : ClO RX5 36 yX4_rewind cX4_rewind 1 none 0 := ⟨tw_266, tw_148, tw_267, by decide +kernel⟩
theorem cl_RX5_32 : ClO RX5 32 yX0_becomeLike cX0_becomeLike 2 none 1 := ⟨tw_270, tw_14, tw_271, by decide +kernel⟩
theorem cl_RX6_116 : ClO RX6 116 yX6_isWithin cX6_isWithin 3 (some .boolean) 3 := ⟨tw_276, tw_141, tw_142, by decide +kernel⟩
theorem cl_RX6_65 : ClO RX6 65 yX6_finding cX6_finding 3 (some .int) 1 := ⟨tw_277, tw_141, tw_278, by decide +kernel⟩
theorem cl_RX6_73 : ClO RX6 73 yX0_put cX0_put 6 none 4 := ⟨tw_283, tw_14, tw_233, by decide +kernel⟩
theorem cl_RX6_61 : ClO RX6 61 yX6_isHigh cX6_isHigh 1 (some .boolean) 1 := ⟨tw_285, tw_141, tw_286, by decide +kernel⟩
theorem cl_RX6_58 : ClO RX6 58 yX6_isWall cX6_isWall 1 (some .boolean) 1 := ⟨tw_288, tw_141, tw_289, by decide +kernel⟩
theorem cl_RX6_54 : ClO RX6 54 yX6_isKind cX6_isKind 1 (some .boolean) 1 := ⟨tw_291, tw_141, tw_292, by decide +kernel⟩
theorem cl_RX6_80 : ClO RX6 80 yX0_topOf cX0_topOf 4 (some .int) 1 := ⟨tw_295, tw_14, tw_34, by decide +kernel⟩
theorem cl_RX6_83 : ClO RX6 83 yX0_coinsOf cX0_coinsOf 4 (some .int) 1 := ⟨tw_296, tw_14, tw_38, by decide +kernel⟩
theorem cl_RX6_305 : ClO RX6 305 yX3_lowestMayGo cX3_lowestMayGo 5 (some .boolean) 2 := ⟨tw_301, tw_42, tw_88, by decide +kernel⟩
theorem cl_RX6_152 : ClO RX6 152 yX3_measure cX3_measure 6 none 1 := ⟨tw_302, tw_42, tw_227, by decide +kernel⟩
theorem cl_RX6_90 : ClO RX6 90 yX0_place cX0_place 2 (some .int) 2 := ⟨tw_303, tw_14, tw_15, by decide +kernel⟩
theorem cl_RX6_216 : ClO RX6 216 yX0_becomeLike cX0_becomeLike 2 none 1 := ⟨tw_304, tw_14, tw_271, by decide +kernel⟩
theorem cl_RX6_103 : ClO RX6 103 yX0_tallOf cX0_tallOf 5 (some .int) 2 := ⟨tw_307, tw_14, tw_30, by decide +kernel⟩
theorem cl_RX6_106 : ClO RX6 106 yX0_coinOf cX0_coinOf 4 (some .int) 2 := ⟨tw_308, tw_14, tw_23, by decide +kernel⟩
theorem cl_RX6_112 : ClO RX6 112 yX6_asNumber cX6_asNumber 1 (some .int) 1 := ⟨tw_309, tw_141, tw_310, by decide +kernel⟩
theorem cl_RX6_109 : ClO RX6 109 yX6_mayGoAsLowest cX6_mayGoAsLowest 3 (some .boolean) 2 := ⟨tw_312, tw_141, tw_313, by decide +kernel⟩
theorem cl_RX6_86 : ClO RX6 86 yX6_isStone cX6_isStone 3 (some .boolean) 2 := ⟨tw_316, tw_141, tw_317, by decide +kernel⟩
theorem cl_RX6_120 : ClO RX6 120 yX6_isUnder cX6_isUnder 4 (some .boolean) 2 := ⟨tw_322, tw_141, tw_323, by decide +kernel⟩
theorem cl_RX6_131 : ClO RX6 131 yX0_layBeam cX0_layBeam 4 none 2 := ⟨tw_327, tw_14, tw_207, by decide +kernel⟩
theorem cl_RX6_139 : ClO RX6 139 yX0_allTops cX0_allTops 3 (some .int) 0 := ⟨tw_329, tw_14, tw_330, by decide +kernel⟩
theorem cl_RX6_146 : ClO RX6 146 yX0_allStones cX0_allStones 1 (some .int) 0 := ⟨tw_335, tw_14, tw_336, by decide +kernel⟩
theorem cl_RX6_149 : ClO RX6 149 yX0_standNow cX0_standNow 3 (some .int) 0 := ⟨tw_339, tw_14, tw_52, by decide +kernel⟩
theorem cl_RX6_159 : ClO RX6 159 yX3_unlikeAt cX3_unlikeAt 6 (some .int) 1 := ⟨tw_340, tw_42, tw_93, by decide +kernel⟩
theorem cl_RX6_165 : ClO RX6 165 yX0_takeLowest cX0_takeLowest 3 none 1 := ⟨tw_341, tw_14, tw_222, by decide +kernel⟩
theorem cl_RX6_162 : ClO RX6 162 yX3_canPullAt cX3_canPullAt 3 (some .boolean) 2 := ⟨tw_342, tw_42, tw_104, by decide +kernel⟩
theorem cl_RX6_287 : ClO RX6 287 yX1_fill cX1_fill 6 (some .int) 2 := ⟨tw_344, tw_108, tw_345, by decide +kernel⟩
theorem cl_RX6_176 : ClO RX6 176 yX6_standsOf cX6_standsOf 2 (some .int) 1 := ⟨tw_349, tw_141, tw_350, by decide +kernel⟩
theorem cl_RX6_302 : ClO RX6 302 yX3_isPartOf cX3_isPartOf 3 (some .boolean) 2 := ⟨tw_353, tw_42, tw_113, by decide +kernel⟩
theorem cl_RX6_172 : ClO RX6 172 yX6_canBe cX6_canBe 3 (some .boolean) 2 := ⟨tw_354, tw_141, tw_355, by decide +kernel⟩
theorem cl_RX6_169 : ClO RX6 169 yX6_isStand cX6_isStand 2 (some .boolean) 1 := ⟨tw_358, tw_141, tw_359, by decide +kernel⟩
theorem cl_RX6_180 : ClO RX6 180 yX1_leastStand cX1_leastStand 4 (some .int) 1 := ⟨tw_362, tw_108, tw_363, by decide +kernel⟩
theorem cl_RX6_192 : ClO RX6 192 yX1_leadFrom cX1_leadFrom 4 (some .int) 2 := ⟨tw_367, tw_108, tw_109, by decide +kernel⟩
theorem cl_RX6_188 : ClO RX6 188 yX1_lead cX1_lead 4 none 2 := ⟨tw_368, tw_108, tw_369, by decide +kernel⟩
theorem cl_RX6_197 : ClO RX6 197 yX3_unit cX3_unit 1 (some .int) 1 := ⟨tw_372, tw_42, tw_43, by decide +kernel⟩
theorem cl_RX6_200 : ClO RX6 200 yX6_leastSlack cX6_leastSlack 4 (some .int) 1 := ⟨tw_373, tw_141, tw_374, by decide +kernel⟩
theorem cl_RX6_284 : ClO RX6 284 yX1_bestUpTo cX1_bestUpTo 6 (some .int) 2 := ⟨tw_377, tw_108, tw_378, by decide +kernel⟩
theorem cl_RX6_280 : ClO RX6 280 yX1_rank cX1_rank 4 none 1 := ⟨tw_381, tw_108, tw_382, by decide +kernel⟩
theorem cl_RX6_206 : ClO RX6 206 yX3_coinAt cX3_coinAt 4 (some .int) 1 := ⟨tw_385, tw_42, tw_120, by decide +kernel⟩
theorem cl_RX6_203 : ClO RX6 203 yX6_bestStand cX6_bestStand 2 (some .int) 1 := ⟨tw_386, tw_141, tw_387, by decide +kernel⟩
theorem cl_RX6_209 : ClO RX6 209 yX1_fewestPulls cX1_fewestPulls 7 (some .int) 3 := ⟨tw_390, tw_108, tw_391, by decide +kernel⟩
theorem cl_RX6_213 : ClO RX6 213 yX1_fewestLeft cX1_fewestLeft 5 (some .int) 2 := ⟨tw_394, tw_108, tw_395, by decide +kernel⟩
theorem cl_RX6_228 : ClO RX6 228 yX4_append cX4_append 2 none 1 := ⟨tw_401, tw_148, tw_402, by decide +kernel⟩
theorem cl_RX6_231 : ClO RX6 231 yX5_tell cX5_tell 3 (some .int) 1 := ⟨tw_406, tw_238, tw_407, by decide +kernel⟩
theorem cl_RX6_244 : ClO RX6 244 yX2_layOut cX2_layOut 3 none 2 := ⟨tw_412, tw_75, tw_413, by decide +kernel⟩
theorem cl_RX6_240 : ClO RX6 240 yX6_isWidth cX6_isWidth 1 (some .boolean) 1 := ⟨tw_417, tw_141, tw_418, by decide +kernel⟩
theorem cl_RX6_237 : ClO RX6 237 yX6_isSheet cX6_isSheet 1 (some .boolean) 1 := ⟨tw_420, tw_141, tw_421, by decide +kernel⟩
theorem cl_RX6_257 : ClO RX6 257 yX2_put cX2_put 5 none 2 := ⟨tw_426, tw_75, tw_427, by decide +kernel⟩
theorem cl_RX6_251 : ClO RX6 251 yX6_sheetFinding cX6_sheetFinding 2 (some .int) 1 := ⟨tw_430, tw_141, tw_431, by decide +kernel⟩
theorem cl_RX6_264 : ClO RX6 264 yX2_hasPart cX2_hasPart 3 (some .boolean) 2 := ⟨tw_435, tw_75, tw_436, by decide +kernel⟩
theorem cl_RX6_291 : ClO RX6 291 yX1_waysBy cX1_waysBy 6 (some .long) 2 := ⟨tw_441, tw_108, tw_442, by decide +kernel⟩
theorem cl_RX6_299 : ClO RX6 299 yX0_allCoins cX0_allCoins 3 (some .int) 0 := ⟨tw_447, tw_14, tw_448, by decide +kernel⟩
theorem cl_RX7_58 : ClO RX7 58 yX7_in cX7_in 3 (some .boolean) 3 := ⟨tw_453, tw_454, tw_455, by decide +kernel⟩
theorem cl_RX7_66 : ClO RX7 66 yX7_many cX7_many 2 (some .int) 1 := ⟨tw_458, tw_454, tw_459, by decide +kernel⟩
theorem cl_RX7_62 : ClO RX7 62 yX7_isWall cX7_isWall 1 (some .boolean) 1 := ⟨tw_462, tw_454, tw_463, by decide +kernel⟩
theorem cl_RX7_70 : ClO RX7 70 yX7_at cX7_at 3 (some .int) 3 := ⟨tw_465, tw_454, tw_466, by decide +kernel⟩
theorem cl_RX7_74 : ClO RX7 74 yX7_its cX7_its 4 (some .int) 3 := ⟨tw_468, tw_454, tw_469, by decide +kernel⟩
theorem cl_RX7_77 : ClO RX7 77 yX7_left cX7_left 2 (some .int) 2 := ⟨tw_472, tw_454, tw_473, by decide +kernel⟩
theorem cl_RX7_81 : ClO RX7 81 yX7_tall cX7_tall 6 (some .int) 2 := ⟨tw_476, tw_454, tw_477, by decide +kernel⟩
theorem cl_RX7_84 : ClO RX7 84 yX7_coin cX7_coin 4 (some .int) 2 := ⟨tw_481, tw_454, tw_482, by decide +kernel⟩
theorem cl_RX7_87 : ClO RX7 87 yX7_topIn cX7_topIn 3 (some .int) 2 := ⟨tw_485, tw_454, tw_486, by decide +kernel⟩
theorem cl_RX7_93 : ClO RX7 93 yX7_unlikeAt cX7_unlikeAt 4 (some .int) 2 := ⟨tw_489, tw_454, tw_490, by decide +kernel⟩
theorem cl_RX7_90 : ClO RX7 90 yX7_lies cX7_lies 2 (some .boolean) 1 := ⟨tw_493, tw_454, tw_494, by decide +kernel⟩
theorem cl_RX7_99 : ClO RX7 99 yX7_isSafe cX7_isSafe 4 (some .boolean) 1 := ⟨tw_497, tw_454, tw_498, by decide +kernel⟩
theorem cl_RX7_96 : ClO RX7 96 yX7_mayGo cX7_mayGo 8 (some .boolean) 3 := ⟨tw_501, tw_454, tw_502, by decide +kernel⟩
theorem cl_RX7_105 : ClO RX7 105 yX7_finds cX7_finds 2 (some .int) 1 := ⟨tw_505, tw_454, tw_506, by decide +kernel⟩
theorem cl_RX7_109 : ClO RX7 109 yX7_addStone cX7_addStone 6 none 4 := ⟨tw_509, tw_454, tw_510, by decide +kernel⟩
theorem cl_RX7_102 : ClO RX7 102 yX7_isKind cX7_isKind 1 (some .boolean) 1 := ⟨tw_514, tw_454, tw_515, by decide +kernel⟩
theorem cl_RX7_113 : ClO RX7 113 yX7_findTops cX7_findTops 4 none 0 := ⟨tw_517, tw_454, tw_518, by decide +kernel⟩
theorem cl_RX7_120 : ClO RX7 120 yX7_standNow cX7_standNow 3 (some .int) 0 := ⟨tw_521, tw_454, tw_522, by decide +kernel⟩
theorem cl_RX7_116 : ClO RX7 116 yX7_isStone cX7_isStone 3 (some .boolean) 2 := ⟨tw_525, tw_454, tw_526, by decide +kernel⟩
theorem cl_RX7_124 : ClO RX7 124 yX7_isUnder cX7_isUnder 2 (some .boolean) 2 := ⟨tw_530, tw_454, tw_531, by decide +kernel⟩
theorem cl_RX7_129 : ClO RX7 129 yX7_allTops cX7_allTops 3 (some .int) 0 := ⟨tw_533, tw_454, tw_534, by decide +kernel⟩
theorem cl_RX7_132 : ClO RX7 132 yX7_stones cX7_stones 1 (some .int) 1 := ⟨tw_538, tw_454, tw_539, by decide +kernel⟩
theorem cl_RX7_135 : ClO RX7 135 yX7_mostUnlike cX7_mostUnlike 4 (some .int) 0 := ⟨tw_541, tw_454, tw_542, by decide +kernel⟩
theorem cl_RX7_139 : ClO RX7 139 yX7_canPull cX7_canPull 4 (some .boolean) 2 := ⟨tw_546, tw_454, tw_547, by decide +kernel⟩
theorem cl_RX7_145 : ClO RX7 145 yX7_takeOut cX7_takeOut 4 none 1 := ⟨tw_550, tw_454, tw_551, by decide +kernel⟩
theorem cl_RX7_142 : ClO RX7 142 yX7_canPullNow cX7_canPullNow 2 (some .boolean) 1 := ⟨tw_554, tw_454, tw_555, by decide +kernel⟩
theorem cl_RX7_149 : ClO RX7 149 yX7_isStand cX7_isStand 4 (some .boolean) 1 := ⟨tw_559, tw_454, tw_560, by decide +kernel⟩
theorem cl_RX7_155 : ClO RX7 155 yX7_countRows cX7_countRows 4 none 0 := ⟨tw_564, tw_454, tw_565, by decide +kernel⟩
theorem cl_RX7_152 : ClO RX7 152 yX7_findGoes cX7_findGoes 4 none 0 := ⟨tw_568, tw_454, tw_569, by decide +kernel⟩
theorem cl_RX7_158 : ClO RX7 158 yX7_findRows cX7_findRows 1 none 0 := ⟨tw_572, tw_454, tw_573, by decide +kernel⟩
theorem cl_RX7_161 : ClO RX7 161 yX7_howManyNow cX7_howManyNow 3 (some .int) 0 := ⟨tw_576, tw_454, tw_577, by decide +kernel⟩
theorem cl_RX7_164 : ClO RX7 164 yX7_howMany cX7_howMany 1 (some .int) 0 := ⟨tw_580, tw_454, tw_581, by decide +kernel⟩
theorem cl_RX7_171 : ClO RX7 171 yX7_firstFrom cX7_firstFrom 3 (some .int) 1 := ⟨tw_586, tw_454, tw_587, by decide +kernel⟩
theorem cl_RX7_167 : ClO RX7 167 yX7_findLeads cX7_findLeads 5 none 1 := ⟨tw_590, tw_454, tw_591, by decide +kernel⟩
theorem cl_RX7_174 : ClO RX7 174 yX7_widest cX7_widest 4 (some .int) 1 := ⟨tw_595, tw_454, tw_596, by decide +kernel⟩
theorem cl_RX7_177 : ClO RX7 177 yX7_slackTo cX7_slackTo 7 (some .int) 1 := ⟨tw_599, tw_454, tw_600, by decide +kernel⟩
theorem cl_RX7_183 : ClO RX7 183 yX7_paidIn cX7_paidIn 4 (some .int) 1 := ⟨tw_603, tw_454, tw_604, by decide +kernel⟩
theorem cl_RX7_180 : ClO RX7 180 yX7_richestNow cX7_richestNow 6 (some .int) 1 := ⟨tw_607, tw_454, tw_608, by decide +kernel⟩
theorem cl_RX7_186 : ClO RX7 186 yX7_richest cX7_richest 2 (some .int) 1 := ⟨tw_611, tw_454, tw_612, by decide +kernel⟩
theorem cl_RX7_199 : ClO RX7 199 yX7_byteAt cX7_byteAt 2 (some .int) 1 := ⟨tw_619, tw_454, tw_620, by decide +kernel⟩
theorem cl_RX7_202 : ClO RX7 202 yX7_isLetter cX7_isLetter 1 (some .boolean) 1 := ⟨tw_629, tw_454, tw_630, by decide +kernel⟩
theorem cl_RX7_205 : ClO RX7 205 yX7_isDigit cX7_isDigit 1 (some .boolean) 1 := ⟨tw_632, tw_454, tw_633, by decide +kernel⟩
theorem cl_RX7_226 : ClO RX7 226 yX7_isWord cX7_isWord 3 (some .boolean) 1 := ⟨tw_641, tw_454, tw_642, by decide +kernel⟩
theorem cl_RX7_244 : ClO RX7 244 yX7_advance cX7_advance 2 none 0 := ⟨tw_646, tw_454, tw_647, by decide +kernel⟩
theorem cl_RX7_247 : ClO RX7 247 yX7_wantNumber cX7_wantNumber 4 (some .int) 2 := ⟨tw_650, tw_454, tw_651, by decide +kernel⟩
theorem cl_RX7_252 : ClO RX7 252 yX7_mayWant cX7_mayWant 6 (some .int) 4 := ⟨tw_656, tw_454, tw_657, by decide +kernel⟩
theorem cl_RX7_285 : ClO RX7 285 yX7_wantPulls cX7_wantPulls 2 none 0 := ⟨tw_666, tw_454, tw_667, by decide +kernel⟩
theorem cl_RX7_280 : ClO RX7 280 yX7_wantSlack cX7_wantSlack 2 none 0 := ⟨tw_670, tw_454, tw_671, by decide +kernel⟩
theorem cl_RX7_275 : ClO RX7 275 yX7_wantWedge cX7_wantWedge 3 none 0 := ⟨tw_674, tw_454, tw_675, by decide +kernel⟩
theorem cl_RX7_270 : ClO RX7 270 yX7_wantBeam cX7_wantBeam 3 none 0 := ⟨tw_678, tw_454, tw_679, by decide +kernel⟩
theorem cl_RX7_265 : ClO RX7 265 yX7_wantStone cX7_wantStone 5 none 1 := ⟨tw_682, tw_454, tw_683, by decide +kernel⟩
theorem cl_RX7_262 : ClO RX7 262 yX7_kindHere cX7_kindHere 1 (some .int) 0 := ⟨tw_686, tw_454, tw_687, by decide +kernel⟩
theorem cl_RX7_292 : ClO RX7 292 yX7_wantItem cX7_wantItem 1 none 0 := ⟨tw_691, tw_454, tw_692, by decide +kernel⟩
theorem cl_RX7_288 : ClO RX7 288 yX7_moveAll cX7_moveAll 4 none 2 := ⟨tw_695, tw_454, tw_696, by decide +kernel⟩
theorem cl_RX7_295 : ClO RX7 295 yX7_isSheet cX7_isSheet 1 (some .boolean) 1 := ⟨tw_703, tw_454, tw_704, by decide +kernel⟩
theorem cl_RX7_300 : ClO RX7 300 yX7_narrow cX7_narrow 3 (some .long) 2 := ⟨tw_706, tw_454, tw_707, by decide +kernel⟩
theorem cl_RX7_304 : ClO RX7 304 yX7_isPart cX7_isPart 4 (some .boolean) 3 := ⟨tw_711, tw_454, tw_712, by decide +kernel⟩
