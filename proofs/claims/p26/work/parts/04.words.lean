/-- all words of the tables that stay true -/
def wG : List Cond := lw_tbl.filter goodWord
theorem gw {w : Cond} (i : Nat) (h : lw_tbl[i]? = some w) (g : goodWord w = true) : w ∈ wG := List.mem_filter.mpr ⟨List.mem_of_getElem? h, g⟩
set_option maxRecDepth 100000 in
theorem m_0 : Cond.fieldLink RX0 11 "StrengthLayout$Bounds" "greatest" "[[I" ∈ wG := gw 130 (by decide +kernel) (by decide +kernel)
set_option maxRecDepth 100000 in
theorem m_1 : Cond.code yX0_open cX0_open 4 none ∈ wG := gw 129 (by decide +kernel) (by decide +kernel)
set_option maxRecDepth 100000 in
theorem m_2 : Cond.methodLink RX0 3 objectInit ∈ wG := gw 123 (by decide +kernel) (by decide +kernel)
set_option maxRecDepth 100000 in
theorem m_3 : Cond.instanceMethod objectInit ∈ wG := gw 41 (by decide +kernel) (by decide +kernel)
set_option maxRecDepth 100000 in
theorem m_4 : Cond.code objectInit ⟨#[0xb1]⟩ 1 none ∈ wG := gw 42 (by decide +kernel) (by decide +kernel)
set_option maxRecDepth 100000 in
theorem m_5 : Cond.classLink RX0 9 "[[I" ∈ wG := gw 124 (by decide +kernel) (by decide +kernel)
set_option maxRecDepth 100000 in
theorem m_6 : Cond.arrayClass .int ∈ wG := gw 90 (by decide +kernel) (by decide +kernel)
set_option maxRecDepth 100000 in
theorem m_7 : Cond.methodLink RX0 16 yX0_open ∈ wG := gw 126 (by decide +kernel) (by decide +kernel)
set_option maxRecDepth 100000 in
theorem m_8 : Cond.instanceMethod yX0_open ∈ wG := gw 127 (by decide +kernel) (by decide +kernel)
set_option maxRecDepth 100000 in
theorem m_9 : Cond.selects RX0 yX0_open yX0_open ∈ wG := gw 128 (by decide +kernel) (by decide +kernel)
set_option maxRecDepth 100000 in
theorem m_10 : Cond.initialized RX0 ∈ wG := gw 23 (by decide +kernel) (by decide +kernel)
set_option maxRecDepth 100000 in
theorem m_11 : Cond.code yX0_init cX0_init 1 none ∈ wG := gw 122 (by decide +kernel) (by decide +kernel)
set_option maxRecDepth 100000 in
theorem m_12 : Cond.code yX0_copyFrom cX0_copyFrom 4 none ∈ wG := gw 557 (by decide +kernel) (by decide +kernel)
set_option maxRecDepth 100000 in
theorem m_13 : Cond.code yX0_greatest cX0_greatest 3 (some .int) ∈ wG := gw 350 (by decide +kernel) (by decide +kernel)
set_option maxRecDepth 100000 in
theorem m_14 : Cond.code yX0_least cX0_least 3 (some .int) ∈ wG := gw 354 (by decide +kernel) (by decide +kernel)
set_option maxRecDepth 100000 in
theorem m_15 : Cond.methodLink RX0 19 yX0_greatest ∈ wG := gw 347 (by decide +kernel) (by decide +kernel)
set_option maxRecDepth 100000 in
theorem m_16 : Cond.instanceMethod yX0_greatest ∈ wG := gw 348 (by decide +kernel) (by decide +kernel)
set_option maxRecDepth 100000 in
theorem m_17 : Cond.selects RX0 yX0_greatest yX0_greatest ∈ wG := gw 349 (by decide +kernel) (by decide +kernel)
set_option maxRecDepth 100000 in
theorem m_18 : Cond.methodLink RX0 22 yX0_least ∈ wG := gw 351 (by decide +kernel) (by decide +kernel)
set_option maxRecDepth 100000 in
theorem m_19 : Cond.instanceMethod yX0_least ∈ wG := gw 352 (by decide +kernel) (by decide +kernel)
set_option maxRecDepth 100000 in
theorem m_20 : Cond.selects RX0 yX0_least yX0_least ∈ wG := gw 353 (by decide +kernel) (by decide +kernel)
set_option maxRecDepth 100000 in
theorem m_21 : Cond.code yX0_width cX0_width 2 (some .int) ∈ wG := gw 346 (by decide +kernel) (by decide +kernel)
set_option maxRecDepth 100000 in
theorem m_22 : Cond.code yX0_limit cX0_limit 9 none ∈ wG := gw 494 (by decide +kernel) (by decide +kernel)
set_option maxRecDepth 100000 in
theorem m_23 : Cond.methodLink RX4 3 objectInit ∈ wG := gw 139 (by decide +kernel) (by decide +kernel)
set_option maxRecDepth 100000 in
theorem m_24 : Cond.fieldLink RX4 9 "StrengthLayout$Outcome" "margin" "[I" ∈ wG := gw 143 (by decide +kernel) (by decide +kernel)
set_option maxRecDepth 100000 in
theorem m_25 : Cond.fieldLink RX4 15 "StrengthLayout$Outcome" "turn" "[I" ∈ wG := gw 146 (by decide +kernel) (by decide +kernel)
set_option maxRecDepth 100000 in
theorem m_26 : Cond.code yX4_init cX4_init 1 none ∈ wG := gw 138 (by decide +kernel) (by decide +kernel)
set_option maxRecDepth 100000 in
theorem m_27 : Cond.methodLink RX1 3 objectInit ∈ wG := gw 117 (by decide +kernel) (by decide +kernel)
set_option maxRecDepth 100000 in
theorem m_28 : Cond.classLink RX1 9 RX0 ∈ wG := gw 118 (by decide +kernel) (by decide +kernel)
set_option maxRecDepth 100000 in
theorem m_29 : Cond.instantiable RX0 1 ∈ wG := gw 119 (by decide +kernel) (by decide +kernel)
set_option maxRecDepth 100000 in
theorem m_30 : Cond.fieldLink RX1 12 "StrengthLayout$Filling" "bounds" "LStrengthLayout$Bounds;" ∈ wG := gw 156 (by decide +kernel) (by decide +kernel)
set_option maxRecDepth 100000 in
theorem m_31 : Cond.classLink RX1 18 RX4 ∈ wG := gw 134 (by decide +kernel) (by decide +kernel)
set_option maxRecDepth 100000 in
theorem m_32 : Cond.instantiable RX4 3 ∈ wG := gw 135 (by decide +kernel) (by decide +kernel)
set_option maxRecDepth 100000 in
theorem m_33 : Cond.initialized RX4 ∈ wG := gw 24 (by decide +kernel) (by decide +kernel)
set_option maxRecDepth 100000 in
theorem m_34 : Cond.fieldLink RX1 21 "StrengthLayout$Filling" "ofConditions" "LStrengthLayout$Outcome;" ∈ wG := gw 158 (by decide +kernel) (by decide +kernel)
set_option maxRecDepth 100000 in
theorem m_35 : Cond.fieldLink RX1 25 "StrengthLayout$Filling" "ofEdits" "LStrengthLayout$Outcome;" ∈ wG := gw 160 (by decide +kernel) (by decide +kernel)
set_option maxRecDepth 100000 in
theorem m_36 : Cond.fieldLink RX1 28 "StrengthLayout$Filling" "rest" "LStrengthLayout$Bounds;" ∈ wG := gw 162 (by decide +kernel) (by decide +kernel)
set_option maxRecDepth 100000 in
theorem m_37 : Cond.methodLink RX1 11 yX0_init ∈ wG := gw 120 (by decide +kernel) (by decide +kernel)
set_option maxRecDepth 100000 in
theorem m_38 : Cond.instanceMethod yX0_init ∈ wG := gw 121 (by decide +kernel) (by decide +kernel)
set_option maxRecDepth 100000 in
theorem m_39 : Cond.instanceMethod yX4_init ∈ wG := gw 137 (by decide +kernel) (by decide +kernel)
set_option maxRecDepth 100000 in
theorem m_40 : Cond.code yX1_init cX1_init 1 none ∈ wG := gw 116 (by decide +kernel) (by decide +kernel)
set_option maxRecDepth 100000 in
theorem m_41 : Cond.fieldLink RX5 15 "StrengthLayout$Rules" "right" "[I" ∈ wG := gw 59 (by decide +kernel) (by decide +kernel)
set_option maxRecDepth 100000 in
theorem m_42 : Cond.code yX5_rightNode cX5_rightNode 2 (some .int) ∈ wG := gw 479 (by decide +kernel) (by decide +kernel)
set_option maxRecDepth 100000 in
theorem m_43 : Cond.fieldLink RX5 18 "StrengthLayout$Rules" "sign" "[I" ∈ wG := gw 62 (by decide +kernel) (by decide +kernel)
set_option maxRecDepth 100000 in
theorem m_44 : Cond.fieldLink RX5 21 "StrengthLayout$Rules" "number" "[I" ∈ wG := gw 65 (by decide +kernel) (by decide +kernel)
set_option maxRecDepth 100000 in
theorem m_45 : Cond.code yX5_canHold cX5_canHold 6 (some .boolean) ∈ wG := gw 366 (by decide +kernel) (by decide +kernel)
set_option maxRecDepth 100000 in
theorem m_46 : Cond.code yX5_missing cX5_missing 4 (some .int) ∈ wG := gw 486 (by decide +kernel) (by decide +kernel)
set_option maxRecDepth 100000 in
theorem m_47 : Cond.code yX5_narrowing cX5_narrowing 4 (some .int) ∈ wG := gw 490 (by decide +kernel) (by decide +kernel)
set_option maxRecDepth 100000 in
theorem m_48 : Cond.fieldLink RX1 63 "StrengthLayout$Rules" "left" "[I" ∈ wG := gw 56 (by decide +kernel) (by decide +kernel)
set_option maxRecDepth 100000 in
theorem m_49 : Cond.fieldLink RX1 77 "StrengthLayout$Outcome" "turn" "[I" ∈ wG := gw 147 (by decide +kernel) (by decide +kernel)
set_option maxRecDepth 100000 in
theorem m_50 : Cond.fieldLink RX1 38 "StrengthLayout$Filling" "turns" "I" ∈ wG := gw 163 (by decide +kernel) (by decide +kernel)
set_option maxRecDepth 100000 in
theorem m_51 : Cond.fieldLink RX1 84 "StrengthLayout$Outcome" "margin" "[I" ∈ wG := gw 144 (by decide +kernel) (by decide +kernel)
set_option maxRecDepth 100000 in
theorem m_52 : Cond.fieldLink RX1 34 "StrengthLayout$Outcome" "filled" "I" ∈ wG := gw 141 (by decide +kernel) (by decide +kernel)
set_option maxRecDepth 100000 in
theorem m_53 : Cond.fieldLink RX1 94 "StrengthLayout$Rules" "sign" "[I" ∈ wG := gw 63 (by decide +kernel) (by decide +kernel)
set_option maxRecDepth 100000 in
theorem m_54 : Cond.fieldLink RX1 97 "StrengthLayout$Rules" "number" "[I" ∈ wG := gw 66 (by decide +kernel) (by decide +kernel)
set_option maxRecDepth 100000 in
theorem m_55 : Cond.methodLink RX1 66 yX5_rightNode ∈ wG := gw 476 (by decide +kernel) (by decide +kernel)
set_option maxRecDepth 100000 in
theorem m_56 : Cond.instanceMethod yX5_rightNode ∈ wG := gw 477 (by decide +kernel) (by decide +kernel)
set_option maxRecDepth 100000 in
theorem m_57 : Cond.selects RX5 yX5_rightNode yX5_rightNode ∈ wG := gw 478 (by decide +kernel) (by decide +kernel)
set_option maxRecDepth 100000 in
theorem m_58 : Cond.initialized RX5 ∈ wG := gw 21 (by decide +kernel) (by decide +kernel)
set_option maxRecDepth 100000 in
theorem m_59 : Cond.methodLink RX1 70 yX0_least ∈ wG := gw 480 (by decide +kernel) (by decide +kernel)
set_option maxRecDepth 100000 in
theorem m_60 : Cond.methodLink RX1 74 yX0_greatest ∈ wG := gw 481 (by decide +kernel) (by decide +kernel)
set_option maxRecDepth 100000 in
theorem m_61 : Cond.methodLink RX1 80 yX5_canHold ∈ wG := gw 482 (by decide +kernel) (by decide +kernel)
set_option maxRecDepth 100000 in
theorem m_62 : Cond.instanceMethod yX5_canHold ∈ wG := gw 364 (by decide +kernel) (by decide +kernel)
set_option maxRecDepth 100000 in
theorem m_63 : Cond.selects RX5 yX5_canHold yX5_canHold ∈ wG := gw 365 (by decide +kernel) (by decide +kernel)
set_option maxRecDepth 100000 in
theorem m_64 : Cond.methodLink RX1 87 yX5_missing ∈ wG := gw 483 (by decide +kernel) (by decide +kernel)
set_option maxRecDepth 100000 in
theorem m_65 : Cond.instanceMethod yX5_missing ∈ wG := gw 484 (by decide +kernel) (by decide +kernel)
set_option maxRecDepth 100000 in
theorem m_66 : Cond.selects RX5 yX5_missing yX5_missing ∈ wG := gw 485 (by decide +kernel) (by decide +kernel)
set_option maxRecDepth 100000 in
theorem m_67 : Cond.methodLink RX1 91 yX5_narrowing ∈ wG := gw 487 (by decide +kernel) (by decide +kernel)
set_option maxRecDepth 100000 in
theorem m_68 : Cond.instanceMethod yX5_narrowing ∈ wG := gw 488 (by decide +kernel) (by decide +kernel)
set_option maxRecDepth 100000 in
theorem m_69 : Cond.selects RX5 yX5_narrowing yX5_narrowing ∈ wG := gw 489 (by decide +kernel) (by decide +kernel)
set_option maxRecDepth 100000 in
theorem m_70 : Cond.methodLink RX1 100 yX0_limit ∈ wG := gw 491 (by decide +kernel) (by decide +kernel)
set_option maxRecDepth 100000 in
theorem m_71 : Cond.instanceMethod yX0_limit ∈ wG := gw 492 (by decide +kernel) (by decide +kernel)
set_option maxRecDepth 100000 in
theorem m_72 : Cond.selects RX0 yX0_limit yX0_limit ∈ wG := gw 493 (by decide +kernel) (by decide +kernel)
set_option maxRecDepth 100000 in
theorem m_73 : Cond.code yX1_fillOne cX1_fillOne 8 none ∈ wG := gw 475 (by decide +kernel) (by decide +kernel)
set_option maxRecDepth 100000 in
theorem m_74 : Cond.fieldLink RX1 41 "StrengthLayout$Layout" "edits" "LStrengthLayout$Rules;" ∈ wG := gw 101 (by decide +kernel) (by decide +kernel)
set_option maxRecDepth 100000 in
theorem m_75 : Cond.fieldLink RX1 47 "StrengthLayout$Rules" "size" "I" ∈ wG := gw 74 (by decide +kernel) (by decide +kernel)
set_option maxRecDepth 100000 in
theorem m_76 : Cond.fieldLink RX1 52 "StrengthLayout$Rules" "strength" "[I" ∈ wG := gw 70 (by decide +kernel) (by decide +kernel)
set_option maxRecDepth 100000 in
theorem m_77 : Cond.fieldLink RX1 60 "StrengthLayout$Layout" "conditions" "LStrengthLayout$Rules;" ∈ wG := gw 99 (by decide +kernel) (by decide +kernel)
set_option maxRecDepth 100000 in
theorem m_78 : Cond.methodLink RX1 31 yX0_open ∈ wG := gw 471 (by decide +kernel) (by decide +kernel)
set_option maxRecDepth 100000 in
theorem m_79 : Cond.methodLink RX1 56 yX1_fillOne ∈ wG := gw 472 (by decide +kernel) (by decide +kernel)
set_option maxRecDepth 100000 in
theorem m_80 : Cond.instanceMethod yX1_fillOne ∈ wG := gw 474 (by decide +kernel) (by decide +kernel)
set_option maxRecDepth 100000 in
theorem m_81 : Cond.selects RX1 yX1_fillOne yX1_fillOne ∈ wG := gw 9 (by decide +kernel) (by decide +kernel)
set_option maxRecDepth 100000 in
theorem m_82 : Cond.initialized RX1 ∈ wG := gw 22 (by decide +kernel) (by decide +kernel)
set_option maxRecDepth 100000 in
theorem m_83 : Cond.code yX1_fill cX1_fill 5 none ∈ wG := gw 470 (by decide +kernel) (by decide +kernel)
set_option maxRecDepth 100000 in
theorem m_84 : Cond.fieldLink RX1 115 "StrengthLayout$Layout" "values" "[I" ∈ wG := gw 92 (by decide +kernel) (by decide +kernel)
set_option maxRecDepth 100000 in
theorem m_85 : Cond.methodLink RX1 118 Lib.Math.max.name ∈ wG := gw 562 (by decide +kernel) (by decide +kernel)
set_option maxRecDepth 100000 in
theorem m_86 : Cond.static Lib.Math.max.name ∈ wG := gw 563 (by decide +kernel) (by decide +kernel)
set_option maxRecDepth 100000 in
theorem m_87 : Cond.initialized "java/lang/Math" ∈ wG := gw 34 (by decide +kernel) (by decide +kernel)
set_option maxRecDepth 100000 in
theorem m_88 : Cond.code Lib.Math.max.name Lib.Math.max.code 2 (some .int) ∈ wG := gw 564 (by decide +kernel) (by decide +kernel)
set_option maxRecDepth 100000 in
theorem m_89 : Cond.methodLink RX1 123 Lib.Math.min.name ∈ wG := gw 565 (by decide +kernel) (by decide +kernel)
set_option maxRecDepth 100000 in
theorem m_90 : Cond.static Lib.Math.min.name ∈ wG := gw 566 (by decide +kernel) (by decide +kernel)
set_option maxRecDepth 100000 in
theorem m_91 : Cond.code Lib.Math.min.name Lib.Math.min.code 2 (some .int) ∈ wG := gw 567 (by decide +kernel) (by decide +kernel)
set_option maxRecDepth 100000 in
theorem m_92 : Cond.code yX1_settleOne cX1_settleOne 5 none ∈ wG := gw 561 (by decide +kernel) (by decide +kernel)
set_option maxRecDepth 100000 in
theorem m_93 : Cond.fieldLink RX1 108 "StrengthLayout$Layout" "stays" "[I" ∈ wG := gw 95 (by decide +kernel) (by decide +kernel)
set_option maxRecDepth 100000 in
theorem m_94 : Cond.methodLink RX1 104 yX0_copyFrom ∈ wG := gw 554 (by decide +kernel) (by decide +kernel)
set_option maxRecDepth 100000 in
theorem m_95 : Cond.instanceMethod yX0_copyFrom ∈ wG := gw 555 (by decide +kernel) (by decide +kernel)
set_option maxRecDepth 100000 in
theorem m_96 : Cond.selects RX0 yX0_copyFrom yX0_copyFrom ∈ wG := gw 556 (by decide +kernel) (by decide +kernel)
set_option maxRecDepth 100000 in
theorem m_97 : Cond.methodLink RX1 111 yX1_settleOne ∈ wG := gw 558 (by decide +kernel) (by decide +kernel)
set_option maxRecDepth 100000 in
theorem m_98 : Cond.instanceMethod yX1_settleOne ∈ wG := gw 560 (by decide +kernel) (by decide +kernel)
set_option maxRecDepth 100000 in
theorem m_99 : Cond.selects RX1 yX1_settleOne yX1_settleOne ∈ wG := gw 12 (by decide +kernel) (by decide +kernel)
set_option maxRecDepth 100000 in
theorem m_100 : Cond.code yX1_settle cX1_settle 4 none ∈ wG := gw 553 (by decide +kernel) (by decide +kernel)
set_option maxRecDepth 100000 in
theorem m_101 : Cond.methodLink RX5 3 objectInit ∈ wG := gw 54 (by decide +kernel) (by decide +kernel)
set_option maxRecDepth 100000 in
theorem m_102 : Cond.fieldLink RX5 9 "StrengthLayout$Rules" "left" "[I" ∈ wG := gw 55 (by decide +kernel) (by decide +kernel)
set_option maxRecDepth 100000 in
theorem m_103 : Cond.fieldLink RX5 24 "StrengthLayout$Rules" "strength" "[I" ∈ wG := gw 69 (by decide +kernel) (by decide +kernel)
set_option maxRecDepth 100000 in
theorem m_104 : Cond.code yX5_init cX5_init 1 none ∈ wG := gw 53 (by decide +kernel) (by decide +kernel)
set_option maxRecDepth 100000 in
theorem m_105 : Cond.methodLink RX3 3 objectInit ∈ wG := gw 48 (by decide +kernel) (by decide +kernel)
set_option maxRecDepth 100000 in
theorem m_106 : Cond.fieldLink RX3 9 "StrengthLayout$Layout" "values" "[I" ∈ wG := gw 91 (by decide +kernel) (by decide +kernel)
set_option maxRecDepth 100000 in
theorem m_107 : Cond.fieldLink RX3 15 "StrengthLayout$Layout" "stays" "[I" ∈ wG := gw 94 (by decide +kernel) (by decide +kernel)
set_option maxRecDepth 100000 in
theorem m_108 : Cond.classLink RX3 18 RX5 ∈ wG := gw 49 (by decide +kernel) (by decide +kernel)
set_option maxRecDepth 100000 in
theorem m_109 : Cond.instantiable RX5 6 ∈ wG := gw 50 (by decide +kernel) (by decide +kernel)
set_option maxRecDepth 100000 in
theorem m_110 : Cond.fieldLink RX3 21 "StrengthLayout$Layout" "conditions" "LStrengthLayout$Rules;" ∈ wG := gw 97 (by decide +kernel) (by decide +kernel)
set_option maxRecDepth 100000 in
theorem m_111 : Cond.fieldLink RX3 25 "StrengthLayout$Layout" "edits" "LStrengthLayout$Rules;" ∈ wG := gw 100 (by decide +kernel) (by decide +kernel)
set_option maxRecDepth 100000 in
theorem m_112 : Cond.instanceMethod yX5_init ∈ wG := gw 52 (by decide +kernel) (by decide +kernel)
set_option maxRecDepth 100000 in
theorem m_113 : Cond.code yX3_init cX3_init 2 none ∈ wG := gw 47 (by decide +kernel) (by decide +kernel)
set_option maxRecDepth 100000 in
theorem m_114 : Cond.methodLink RX2 3 objectInit ∈ wG := gw 180 (by decide +kernel) (by decide +kernel)
set_option maxRecDepth 100000 in
theorem m_115 : Cond.classLink RX2 9 RX3 ∈ wG := gw 181 (by decide +kernel) (by decide +kernel)
set_option maxRecDepth 100000 in
theorem m_116 : Cond.fieldLink RX2 11 "StrengthLayout$History" "saved" "[LStrengthLayout$Layout;" ∈ wG := gw 184 (by decide +kernel) (by decide +kernel)
set_option maxRecDepth 100000 in
theorem m_117 : Cond.instantiable RX3 4 ∈ wG := gw 44 (by decide +kernel) (by decide +kernel)
set_option maxRecDepth 100000 in
theorem m_118 : Cond.initialized RX3 ∈ wG := gw 20 (by decide +kernel) (by decide +kernel)
set_option maxRecDepth 100000 in
theorem m_119 : Cond.methodLink RX2 17 yX3_init ∈ wG := gw 183 (by decide +kernel) (by decide +kernel)
set_option maxRecDepth 100000 in
theorem m_120 : Cond.instanceMethod yX3_init ∈ wG := gw 46 (by decide +kernel) (by decide +kernel)
set_option maxRecDepth 100000 in
theorem m_121 : Cond.code yX2_init cX2_init 2 none ∈ wG := gw 179 (by decide +kernel) (by decide +kernel)
set_option maxRecDepth 100000 in
theorem m_122 : Cond.fieldLink RX5 27 "StrengthLayout$Rules" "size" "I" ∈ wG := gw 73 (by decide +kernel) (by decide +kernel)
set_option maxRecDepth 100000 in
theorem m_123 : Cond.code yX5_push cX5_push 6 none ∈ wG := gw 543 (by decide +kernel) (by decide +kernel)
set_option maxRecDepth 100000 in
theorem m_124 : Cond.methodLink RX5 31 yX5_push ∈ wG := gw 540 (by decide +kernel) (by decide +kernel)
set_option maxRecDepth 100000 in
theorem m_125 : Cond.instanceMethod yX5_push ∈ wG := gw 541 (by decide +kernel) (by decide +kernel)
set_option maxRecDepth 100000 in
theorem m_126 : Cond.selects RX5 yX5_push yX5_push ∈ wG := gw 542 (by decide +kernel) (by decide +kernel)
set_option maxRecDepth 100000 in
theorem m_127 : Cond.code yX5_pushRowOf cX5_pushRowOf 3 none ∈ wG := gw 539 (by decide +kernel) (by decide +kernel)
set_option maxRecDepth 100000 in
theorem m_128 : Cond.methodLink RX5 35 yX5_pushRowOf ∈ wG := gw 536 (by decide +kernel) (by decide +kernel)
set_option maxRecDepth 100000 in
theorem m_129 : Cond.instanceMethod yX5_pushRowOf ∈ wG := gw 537 (by decide +kernel) (by decide +kernel)
set_option maxRecDepth 100000 in
theorem m_130 : Cond.selects RX5 yX5_pushRowOf yX5_pushRowOf ∈ wG := gw 538 (by decide +kernel) (by decide +kernel)
set_option maxRecDepth 100000 in
theorem m_131 : Cond.code yX5_copyFrom cX5_copyFrom 3 none ∈ wG := gw 535 (by decide +kernel) (by decide +kernel)
set_option maxRecDepth 100000 in
theorem m_132 : Cond.methodLink RX3 28 yX5_copyFrom ∈ wG := gw 532 (by decide +kernel) (by decide +kernel)
set_option maxRecDepth 100000 in
theorem m_133 : Cond.instanceMethod yX5_copyFrom ∈ wG := gw 533 (by decide +kernel) (by decide +kernel)
set_option maxRecDepth 100000 in
theorem m_134 : Cond.selects RX5 yX5_copyFrom yX5_copyFrom ∈ wG := gw 534 (by decide +kernel) (by decide +kernel)
set_option maxRecDepth 100000 in
theorem m_135 : Cond.code yX3_copyFrom cX3_copyFrom 3 none ∈ wG := gw 531 (by decide +kernel) (by decide +kernel)
set_option maxRecDepth 100000 in
theorem m_136 : Cond.fieldLink RX2 18 "StrengthLayout$History" "next" "I" ∈ wG := gw 185 (by decide +kernel) (by decide +kernel)
set_option maxRecDepth 100000 in
theorem m_137 : Cond.fieldLink RX2 26 "StrengthLayout$History" "size" "I" ∈ wG := gw 186 (by decide +kernel) (by decide +kernel)
set_option maxRecDepth 100000 in
theorem m_138 : Cond.methodLink RX2 29 Lib.Math.min.name ∈ wG := gw 614 (by decide +kernel) (by decide +kernel)
set_option maxRecDepth 100000 in
theorem m_139 : Cond.methodLink RX2 22 yX3_copyFrom ∈ wG := gw 613 (by decide +kernel) (by decide +kernel)
set_option maxRecDepth 100000 in
theorem m_140 : Cond.instanceMethod yX3_copyFrom ∈ wG := gw 529 (by decide +kernel) (by decide +kernel)
set_option maxRecDepth 100000 in
theorem m_141 : Cond.selects RX3 yX3_copyFrom yX3_copyFrom ∈ wG := gw 530 (by decide +kernel) (by decide +kernel)
set_option maxRecDepth 100000 in
theorem m_142 : Cond.code yX2_save cX2_save 2 none ∈ wG := gw 612 (by decide +kernel) (by decide +kernel)
set_option maxRecDepth 100000 in
theorem m_143 : Cond.fieldLink RX3 32 "StrengthLayout$Rules" "size" "I" ∈ wG := gw 76 (by decide +kernel) (by decide +kernel)
set_option maxRecDepth 100000 in
theorem m_144 : Cond.fieldLink RX3 36 "StrengthLayout$Rules" "left" "[I" ∈ wG := gw 57 (by decide +kernel) (by decide +kernel)
set_option maxRecDepth 100000 in
theorem m_145 : Cond.code yX3_editOf cX3_editOf 3 (some .int) ∈ wG := gw 432 (by decide +kernel) (by decide +kernel)
set_option maxRecDepth 100000 in
theorem m_146 : Cond.fieldLink RX3 47 "StrengthLayout$Rules" "number" "[I" ∈ wG := gw 67 (by decide +kernel) (by decide +kernel)
set_option maxRecDepth 100000 in
theorem m_147 : Cond.fieldLink RX3 50 "StrengthLayout$Rules" "strength" "[I" ∈ wG := gw 72 (by decide +kernel) (by decide +kernel)
set_option maxRecDepth 100000 in
theorem m_148 : Cond.methodLink RX3 39 yX3_editOf ∈ wG := gw 548 (by decide +kernel) (by decide +kernel)
set_option maxRecDepth 100000 in
theorem m_149 : Cond.instanceMethod yX3_editOf ∈ wG := gw 430 (by decide +kernel) (by decide +kernel)
set_option maxRecDepth 100000 in
theorem m_150 : Cond.selects RX3 yX3_editOf yX3_editOf ∈ wG := gw 431 (by decide +kernel) (by decide +kernel)
set_option maxRecDepth 100000 in
theorem m_151 : Cond.methodLink RX3 43 yX5_push ∈ wG := gw 549 (by decide +kernel) (by decide +kernel)
set_option maxRecDepth 100000 in
theorem m_152 : Cond.code yX3_wishFor cX3_wishFor 5 none ∈ wG := gw 547 (by decide +kernel) (by decide +kernel)
set_option maxRecDepth 100000 in
theorem m_153 : Cond.fieldLink RX3 53 "StrengthLayout$Rules" "right" "[I" ∈ wG := gw 60 (by decide +kernel) (by decide +kernel)
set_option maxRecDepth 100000 in
theorem m_154 : Cond.methodLink RX3 56 yX5_canHold ∈ wG := gw 363 (by decide +kernel) (by decide +kernel)
set_option maxRecDepth 100000 in
theorem m_155 : Cond.code yX3_holds cX3_holds 4 (some .boolean) ∈ wG := gw 362 (by decide +kernel) (by decide +kernel)
set_option maxRecDepth 100000 in
theorem m_156 : Cond.fieldLink RX4 18 "StrengthLayout$Outcome" "filled" "I" ∈ wG := gw 140 (by decide +kernel) (by decide +kernel)
set_option maxRecDepth 100000 in
theorem m_157 : Cond.code yX4_filledOne cX4_filledOne 2 (some .int) ∈ wG := gw 448 (by decide +kernel) (by decide +kernel)
set_option maxRecDepth 100000 in
theorem m_158 : Cond.code yX5_drop cX5_drop 4 none ∈ wG := gw 631 (by decide +kernel) (by decide +kernel)
set_option maxRecDepth 100000 in
theorem m_159 : Cond.code yX5_rowsWith cX5_rowsWith 4 (some .int) ∈ wG := gw 428 (by decide +kernel) (by decide +kernel)
set_option maxRecDepth 100000 in
theorem m_160 : Cond.methodLink RX6 3 objectInit ∈ wG := gw 200 (by decide +kernel) (by decide +kernel)
set_option maxRecDepth 100000 in
theorem m_161 : Cond.classLink RX6 9 RX5 ∈ wG := gw 201 (by decide +kernel) (by decide +kernel)
set_option maxRecDepth 100000 in
theorem m_162 : Cond.fieldLink RX6 12 "StrengthLayout$TextReader" "read" "LStrengthLayout$Rules;" ∈ wG := gw 203 (by decide +kernel) (by decide +kernel)
set_option maxRecDepth 100000 in
theorem m_163 : Cond.code yX6_init cX6_init 1 none ∈ wG := gw 199 (by decide +kernel) (by decide +kernel)
set_option maxRecDepth 100000 in
theorem m_164 : Cond.methodLink RX7 3 objectInit ∈ wG := gw 40 (by decide +kernel) (by decide +kernel)
set_option maxRecDepth 100000 in
theorem m_165 : Cond.classLink RX7 9 RX3 ∈ wG := gw 43 (by decide +kernel) (by decide +kernel)
set_option maxRecDepth 100000 in
theorem m_166 : Cond.fieldLink RX7 12 "StrengthLayout" "now" "LStrengthLayout$Layout;" ∈ wG := gw 221 (by decide +kernel) (by decide +kernel)
set_option maxRecDepth 100000 in
theorem m_167 : Cond.classLink RX7 16 RX1 ∈ wG := gw 112 (by decide +kernel) (by decide +kernel)
set_option maxRecDepth 100000 in
theorem m_168 : Cond.instantiable RX1 5 ∈ wG := gw 113 (by decide +kernel) (by decide +kernel)
set_option maxRecDepth 100000 in
theorem m_169 : Cond.fieldLink RX7 19 "StrengthLayout" "filling" "LStrengthLayout$Filling;" ∈ wG := gw 222 (by decide +kernel) (by decide +kernel)
set_option maxRecDepth 100000 in
theorem m_170 : Cond.classLink RX7 23 RX2 ∈ wG := gw 175 (by decide +kernel) (by decide +kernel)
set_option maxRecDepth 100000 in
theorem m_171 : Cond.instantiable RX2 3 ∈ wG := gw 176 (by decide +kernel) (by decide +kernel)
set_option maxRecDepth 100000 in
theorem m_172 : Cond.initialized RX2 ∈ wG := gw 25 (by decide +kernel) (by decide +kernel)
set_option maxRecDepth 100000 in
theorem m_173 : Cond.fieldLink RX7 26 "StrengthLayout" "history" "LStrengthLayout$History;" ∈ wG := gw 223 (by decide +kernel) (by decide +kernel)
set_option maxRecDepth 100000 in
theorem m_174 : Cond.fieldLink RX7 30 "StrengthLayout" "trial" "LStrengthLayout$Layout;" ∈ wG := gw 224 (by decide +kernel) (by decide +kernel)
set_option maxRecDepth 100000 in
theorem m_175 : Cond.fieldLink RX7 33 "StrengthLayout" "trialFilling" "LStrengthLayout$Filling;" ∈ wG := gw 225 (by decide +kernel) (by decide +kernel)
set_option maxRecDepth 100000 in
theorem m_176 : Cond.fieldLink RX7 36 "StrengthLayout" "filledWithout" "[I" ∈ wG := gw 226 (by decide +kernel) (by decide +kernel)
set_option maxRecDepth 100000 in
theorem m_177 : Cond.fieldLink RX7 40 "StrengthLayout" "buffer" "[I" ∈ wG := gw 228 (by decide +kernel) (by decide +kernel)
set_option maxRecDepth 100000 in
theorem m_178 : Cond.classLink RX7 43 RX6 ∈ wG := gw 195 (by decide +kernel) (by decide +kernel)
set_option maxRecDepth 100000 in
theorem m_179 : Cond.instantiable RX6 8 ∈ wG := gw 196 (by decide +kernel) (by decide +kernel)
set_option maxRecDepth 100000 in
theorem m_180 : Cond.initialized RX6 ∈ wG := gw 26 (by decide +kernel) (by decide +kernel)
set_option maxRecDepth 100000 in
theorem m_181 : Cond.fieldLink RX7 46 "StrengthLayout" "reader" "LStrengthLayout$TextReader;" ∈ wG := gw 229 (by decide +kernel) (by decide +kernel)
set_option maxRecDepth 100000 in
theorem m_182 : Cond.methodLink RX7 11 yX3_init ∈ wG := gw 45 (by decide +kernel) (by decide +kernel)
set_option maxRecDepth 100000 in
theorem m_183 : Cond.instanceMethod yX1_init ∈ wG := gw 115 (by decide +kernel) (by decide +kernel)
set_option maxRecDepth 100000 in
theorem m_184 : Cond.methodLink RX7 25 yX2_init ∈ wG := gw 177 (by decide +kernel) (by decide +kernel)
set_option maxRecDepth 100000 in
theorem m_185 : Cond.instanceMethod yX2_init ∈ wG := gw 178 (by decide +kernel) (by decide +kernel)
set_option maxRecDepth 100000 in
theorem m_186 : Cond.instanceMethod yX6_init ∈ wG := gw 198 (by decide +kernel) (by decide +kernel)
set_option maxRecDepth 100000 in
theorem m_187 : Cond.code yX7_init cX7_init 1 none ∈ wG := gw 39 (by decide +kernel) (by decide +kernel)
set_option maxRecDepth 100000 in
theorem m_188 : Cond.code yX7_isWithin cX7_isWithin 3 (some .boolean) ∈ wG := gw 257 (by decide +kernel) (by decide +kernel)
set_option maxRecDepth 100000 in
theorem m_189 : Cond.methodLink RX7 58 yX7_isWithin ∈ wG := gw 255 (by decide +kernel) (by decide +kernel)
set_option maxRecDepth 100000 in
theorem m_190 : Cond.static yX7_isWithin ∈ wG := gw 256 (by decide +kernel) (by decide +kernel)
set_option maxRecDepth 100000 in
theorem m_191 : Cond.initialized RX7 ∈ wG := gw 19 (by decide +kernel) (by decide +kernel)
set_option maxRecDepth 100000 in
theorem m_192 : Cond.code yX7_isPlace cX7_isPlace 1 (some .boolean) ∈ wG := gw 399 (by decide +kernel) (by decide +kernel)
set_option maxRecDepth 100000 in
theorem m_193 : Cond.classLink RX7 246 "java/lang/IndexOutOfBoundsException" ∈ wG := gw 403 (by decide +kernel) (by decide +kernel)
set_option maxRecDepth 100000 in
theorem m_194 : Cond.initialized "java/lang/IndexOutOfBoundsException" ∈ wG := gw 30 (by decide +kernel) (by decide +kernel)
set_option maxRecDepth 100000 in
theorem m_195 : Cond.code yX7_needIndex cX7_needIndex 1 none ∈ wG := gw 402 (by decide +kernel) (by decide +kernel)
set_option maxRecDepth 100000 in
theorem m_196 : Cond.code yX7_isNumber cX7_isNumber 1 (some .boolean) ∈ wG := gw 589 (by decide +kernel) (by decide +kernel)
set_option maxRecDepth 100000 in
theorem m_197 : Cond.code yX7_isStrength cX7_isStrength 1 (some .boolean) ∈ wG := gw 527 (by decide +kernel) (by decide +kernel)
set_option maxRecDepth 100000 in
theorem m_198 : Cond.classLink RX7 253 "java/lang/IllegalArgumentException" ∈ wG := gw 261 (by decide +kernel) (by decide +kernel)
set_option maxRecDepth 100000 in
theorem m_199 : Cond.initialized "java/lang/IllegalArgumentException" ∈ wG := gw 31 (by decide +kernel) (by decide +kernel)
set_option maxRecDepth 100000 in
theorem m_200 : Cond.code yX7_needArgument cX7_needArgument 1 none ∈ wG := gw 260 (by decide +kernel) (by decide +kernel)
set_option maxRecDepth 100000 in
theorem m_201 : Cond.classLink RX7 258 "java/lang/IllegalStateException" ∈ wG := gw 593 (by decide +kernel) (by decide +kernel)
set_option maxRecDepth 100000 in
theorem m_202 : Cond.initialized "java/lang/IllegalStateException" ∈ wG := gw 33 (by decide +kernel) (by decide +kernel)
set_option maxRecDepth 100000 in
theorem m_203 : Cond.code yX7_needState cX7_needState 1 none ∈ wG := gw 592 (by decide +kernel) (by decide +kernel)
set_option maxRecDepth 100000 in
theorem m_204 : Cond.fieldLink RX7 263 "StrengthLayout" "knowsWithout" "Z" ∈ wG := gw 227 (by decide +kernel) (by decide +kernel)
set_option maxRecDepth 100000 in
theorem m_205 : Cond.methodLink RX7 197 yX1_fill ∈ wG := gw 467 (by decide +kernel) (by decide +kernel)
set_option maxRecDepth 100000 in
theorem m_206 : Cond.instanceMethod yX1_fill ∈ wG := gw 468 (by decide +kernel) (by decide +kernel)
set_option maxRecDepth 100000 in
theorem m_207 : Cond.selects RX1 yX1_fill yX1_fill ∈ wG := gw 469 (by decide +kernel) (by decide +kernel)
set_option maxRecDepth 100000 in
theorem m_208 : Cond.code yX7_fillAnew cX7_fillAnew 1 none ∈ wG := gw 623 (by decide +kernel) (by decide +kernel)
set_option maxRecDepth 100000 in
theorem m_209 : Cond.methodLink RX7 141 yX7_fillAnew ∈ wG := gw 620 (by decide +kernel) (by decide +kernel)
set_option maxRecDepth 100000 in
theorem m_210 : Cond.instanceMethod yX7_fillAnew ∈ wG := gw 622 (by decide +kernel) (by decide +kernel)
set_option maxRecDepth 100000 in
theorem m_211 : Cond.selects RX7 yX7_fillAnew yX7_fillAnew ∈ wG := gw 15 (by decide +kernel) (by decide +kernel)
set_option maxRecDepth 100000 in
theorem m_212 : Cond.methodLink RX7 201 yX1_settle ∈ wG := gw 550 (by decide +kernel) (by decide +kernel)
set_option maxRecDepth 100000 in
theorem m_213 : Cond.instanceMethod yX1_settle ∈ wG := gw 551 (by decide +kernel) (by decide +kernel)
set_option maxRecDepth 100000 in
theorem m_214 : Cond.selects RX1 yX1_settle yX1_settle ∈ wG := gw 552 (by decide +kernel) (by decide +kernel)
set_option maxRecDepth 100000 in
theorem m_215 : Cond.code yX7_fillAndSettle cX7_fillAndSettle 1 none ∈ wG := gw 619 (by decide +kernel) (by decide +kernel)
set_option maxRecDepth 100000 in
theorem m_216 : Cond.fieldLink RX7 71 "StrengthLayout$Layout" "conditions" "LStrengthLayout$Rules;" ∈ wG := gw 98 (by decide +kernel) (by decide +kernel)
set_option maxRecDepth 100000 in
theorem m_217 : Cond.fieldLink RX7 75 "StrengthLayout$Rules" "size" "I" ∈ wG := gw 75 (by decide +kernel) (by decide +kernel)
set_option maxRecDepth 100000 in
theorem m_218 : Cond.methodLink RX7 50 yX7_isPlace ∈ wG := gw 397 (by decide +kernel) (by decide +kernel)
set_option maxRecDepth 100000 in
theorem m_219 : Cond.static yX7_isPlace ∈ wG := gw 398 (by decide +kernel) (by decide +kernel)
set_option maxRecDepth 100000 in
theorem m_220 : Cond.methodLink RX7 54 yX7_needIndex ∈ wG := gw 400 (by decide +kernel) (by decide +kernel)
set_option maxRecDepth 100000 in
theorem m_221 : Cond.static yX7_needIndex ∈ wG := gw 401 (by decide +kernel) (by decide +kernel)
set_option maxRecDepth 100000 in
theorem m_222 : Cond.methodLink RX7 62 yX7_isNumber ∈ wG := gw 587 (by decide +kernel) (by decide +kernel)
set_option maxRecDepth 100000 in
theorem m_223 : Cond.static yX7_isNumber ∈ wG := gw 588 (by decide +kernel) (by decide +kernel)
set_option maxRecDepth 100000 in
theorem m_224 : Cond.methodLink RX7 65 yX7_isStrength ∈ wG := gw 525 (by decide +kernel) (by decide +kernel)
set_option maxRecDepth 100000 in
theorem m_225 : Cond.static yX7_isStrength ∈ wG := gw 526 (by decide +kernel) (by decide +kernel)
set_option maxRecDepth 100000 in
theorem m_226 : Cond.methodLink RX7 68 yX7_needArgument ∈ wG := gw 258 (by decide +kernel) (by decide +kernel)
set_option maxRecDepth 100000 in
theorem m_227 : Cond.static yX7_needArgument ∈ wG := gw 259 (by decide +kernel) (by decide +kernel)
set_option maxRecDepth 100000 in
theorem m_228 : Cond.methodLink RX7 81 yX7_needState ∈ wG := gw 590 (by decide +kernel) (by decide +kernel)
set_option maxRecDepth 100000 in
theorem m_229 : Cond.static yX7_needState ∈ wG := gw 591 (by decide +kernel) (by decide +kernel)
set_option maxRecDepth 100000 in
theorem m_230 : Cond.methodLink RX7 84 yX2_save ∈ wG := gw 609 (by decide +kernel) (by decide +kernel)
set_option maxRecDepth 100000 in
theorem m_231 : Cond.instanceMethod yX2_save ∈ wG := gw 610 (by decide +kernel) (by decide +kernel)
set_option maxRecDepth 100000 in
theorem m_232 : Cond.selects RX2 yX2_save yX2_save ∈ wG := gw 611 (by decide +kernel) (by decide +kernel)
set_option maxRecDepth 100000 in
theorem m_233 : Cond.methodLink RX7 88 yX5_push ∈ wG := gw 615 (by decide +kernel) (by decide +kernel)
set_option maxRecDepth 100000 in
theorem m_234 : Cond.methodLink RX7 92 yX7_fillAndSettle ∈ wG := gw 616 (by decide +kernel) (by decide +kernel)
set_option maxRecDepth 100000 in
theorem m_235 : Cond.instanceMethod yX7_fillAndSettle ∈ wG := gw 618 (by decide +kernel) (by decide +kernel)
set_option maxRecDepth 100000 in
theorem m_236 : Cond.selects RX7 yX7_fillAndSettle yX7_fillAndSettle ∈ wG := gw 14 (by decide +kernel) (by decide +kernel)
set_option maxRecDepth 100000 in
theorem m_237 : Cond.code yX7_add cX7_add 6 (some .int) ∈ wG := gw 586 (by decide +kernel) (by decide +kernel)
set_option maxRecDepth 100000 in
theorem m_238 : Cond.code yX7_isCondition cX7_isCondition 2 (some .boolean) ∈ wG := gw 462 (by decide +kernel) (by decide +kernel)
set_option maxRecDepth 100000 in
theorem m_239 : Cond.fieldLink RX7 98 "StrengthLayout$Filling" "ofConditions" "LStrengthLayout$Outcome;" ∈ wG := gw 159 (by decide +kernel) (by decide +kernel)
set_option maxRecDepth 100000 in
theorem m_240 : Cond.methodLink RX7 95 yX7_isCondition ∈ wG := gw 459 (by decide +kernel) (by decide +kernel)
set_option maxRecDepth 100000 in
theorem m_241 : Cond.instanceMethod yX7_isCondition ∈ wG := gw 461 (by decide +kernel) (by decide +kernel)
set_option maxRecDepth 100000 in
theorem m_242 : Cond.selects RX7 yX7_isCondition yX7_isCondition ∈ wG := gw 7 (by decide +kernel) (by decide +kernel)
set_option maxRecDepth 100000 in
theorem m_243 : Cond.methodLink RX7 102 yX4_filledOne ∈ wG := gw 445 (by decide +kernel) (by decide +kernel)
set_option maxRecDepth 100000 in
theorem m_244 : Cond.instanceMethod yX4_filledOne ∈ wG := gw 446 (by decide +kernel) (by decide +kernel)
set_option maxRecDepth 100000 in
theorem m_245 : Cond.selects RX4 yX4_filledOne yX4_filledOne ∈ wG := gw 447 (by decide +kernel) (by decide +kernel)
set_option maxRecDepth 100000 in
theorem m_246 : Cond.methodLink RX7 108 yX5_drop ∈ wG := gw 628 (by decide +kernel) (by decide +kernel)
set_option maxRecDepth 100000 in
theorem m_247 : Cond.instanceMethod yX5_drop ∈ wG := gw 629 (by decide +kernel) (by decide +kernel)
set_option maxRecDepth 100000 in
theorem m_248 : Cond.selects RX5 yX5_drop yX5_drop ∈ wG := gw 630 (by decide +kernel) (by decide +kernel)
set_option maxRecDepth 100000 in
theorem m_249 : Cond.code yX7_remove cX7_remove 3 (some .int) ∈ wG := gw 627 (by decide +kernel) (by decide +kernel)
set_option maxRecDepth 100000 in
theorem m_250 : Cond.code yX7_change cX7_change 5 (some .int) ∈ wG := gw 639 (by decide +kernel) (by decide +kernel)
set_option maxRecDepth 100000 in
theorem m_251 : Cond.fieldLink RX7 112 "StrengthLayout$Rules" "strength" "[I" ∈ wG := gw 71 (by decide +kernel) (by decide +kernel)
set_option maxRecDepth 100000 in
theorem m_252 : Cond.methodLink RX7 115 yX7_change ∈ wG := gw 636 (by decide +kernel) (by decide +kernel)
set_option maxRecDepth 100000 in
theorem m_253 : Cond.instanceMethod yX7_change ∈ wG := gw 638 (by decide +kernel) (by decide +kernel)
set_option maxRecDepth 100000 in
theorem m_254 : Cond.selects RX7 yX7_change yX7_change ∈ wG := gw 16 (by decide +kernel) (by decide +kernel)
set_option maxRecDepth 100000 in
theorem m_255 : Cond.code yX7_setStrength cX7_setStrength 3 (some .int) ∈ wG := gw 643 (by decide +kernel) (by decide +kernel)
set_option maxRecDepth 100000 in
theorem m_256 : Cond.fieldLink RX7 119 "StrengthLayout$Rules" "number" "[I" ∈ wG := gw 68 (by decide +kernel) (by decide +kernel)
set_option maxRecDepth 100000 in
theorem m_257 : Cond.code yX7_setNumber cX7_setNumber 3 (some .int) ∈ wG := gw 635 (by decide +kernel) (by decide +kernel)
set_option maxRecDepth 100000 in
theorem m_258 : Cond.fieldLink RX7 122 "StrengthLayout$Layout" "stays" "[I" ∈ wG := gw 96 (by decide +kernel) (by decide +kernel)
set_option maxRecDepth 100000 in
theorem m_259 : Cond.code yX7_setStay cX7_setStay 3 (some .int) ∈ wG := gw 655 (by decide +kernel) (by decide +kernel)
set_option maxRecDepth 100000 in
theorem m_260 : Cond.code yX7_isValue cX7_isValue 1 (some .boolean) ∈ wG := gw 524 (by decide +kernel) (by decide +kernel)
set_option maxRecDepth 100000 in
theorem m_261 : Cond.fieldLink RX7 131 "StrengthLayout$Layout" "edits" "LStrengthLayout$Rules;" ∈ wG := gw 102 (by decide +kernel) (by decide +kernel)
set_option maxRecDepth 100000 in
theorem m_262 : Cond.fieldLink RX7 138 "StrengthLayout$Layout" "values" "[I" ∈ wG := gw 93 (by decide +kernel) (by decide +kernel)
set_option maxRecDepth 100000 in
theorem m_263 : Cond.methodLink RX7 125 yX7_isValue ∈ wG := gw 522 (by decide +kernel) (by decide +kernel)
set_option maxRecDepth 100000 in
theorem m_264 : Cond.static yX7_isValue ∈ wG := gw 523 (by decide +kernel) (by decide +kernel)
set_option maxRecDepth 100000 in
theorem m_265 : Cond.methodLink RX7 128 yX3_editOf ∈ wG := gw 429 (by decide +kernel) (by decide +kernel)
set_option maxRecDepth 100000 in
theorem m_266 : Cond.methodLink RX7 134 yX3_wishFor ∈ wG := gw 544 (by decide +kernel) (by decide +kernel)
set_option maxRecDepth 100000 in
theorem m_267 : Cond.instanceMethod yX3_wishFor ∈ wG := gw 545 (by decide +kernel) (by decide +kernel)
set_option maxRecDepth 100000 in
theorem m_268 : Cond.selects RX3 yX3_wishFor yX3_wishFor ∈ wG := gw 546 (by decide +kernel) (by decide +kernel)
set_option maxRecDepth 100000 in
theorem m_269 : Cond.code yX7_edit cX7_edit 4 (some .int) ∈ wG := gw 647 (by decide +kernel) (by decide +kernel)
set_option maxRecDepth 100000 in
theorem m_270 : Cond.code yX7_endEdits cX7_endEdits 2 (some .int) ∈ wG := gw 651 (by decide +kernel) (by decide +kernel)
set_option maxRecDepth 100000 in
theorem m_271 : Cond.code yX7_placesNotAt cX7_placesNotAt 4 (some .int) ∈ wG := gw 663 (by decide +kernel) (by decide +kernel)
set_option maxRecDepth 100000 in
theorem m_272 : Cond.methodLink RX7 144 yX7_placesNotAt ∈ wG := gw 660 (by decide +kernel) (by decide +kernel)
set_option maxRecDepth 100000 in
theorem m_273 : Cond.instanceMethod yX7_placesNotAt ∈ wG := gw 662 (by decide +kernel) (by decide +kernel)
set_option maxRecDepth 100000 in
theorem m_274 : Cond.selects RX7 yX7_placesNotAt yX7_placesNotAt ∈ wG := gw 17 (by decide +kernel) (by decide +kernel)
set_option maxRecDepth 100000 in
theorem m_275 : Cond.code yX7_settleFrom cX7_settleFrom 3 (some .int) ∈ wG := gw 659 (by decide +kernel) (by decide +kernel)
set_option maxRecDepth 100000 in
theorem m_276 : Cond.fieldLink RX7 182 "StrengthLayout$Filling" "bounds" "LStrengthLayout$Bounds;" ∈ wG := gw 157 (by decide +kernel) (by decide +kernel)
set_option maxRecDepth 100000 in
theorem m_277 : Cond.methodLink RX7 276 yX0_least ∈ wG := gw 423 (by decide +kernel) (by decide +kernel)
set_option maxRecDepth 100000 in
theorem m_278 : Cond.methodLink RX7 186 yX0_greatest ∈ wG := gw 424 (by decide +kernel) (by decide +kernel)
set_option maxRecDepth 100000 in
theorem m_279 : Cond.methodLink RX7 279 yX5_rowsWith ∈ wG := gw 425 (by decide +kernel) (by decide +kernel)
set_option maxRecDepth 100000 in
theorem m_280 : Cond.instanceMethod yX5_rowsWith ∈ wG := gw 426 (by decide +kernel) (by decide +kernel)
set_option maxRecDepth 100000 in
theorem m_281 : Cond.selects RX5 yX5_rowsWith yX5_rowsWith ∈ wG := gw 427 (by decide +kernel) (by decide +kernel)
set_option maxRecDepth 100000 in
theorem m_282 : Cond.code yX7_placeProperty cX7_placeProperty 3 (some .int) ∈ wG := gw 422 (by decide +kernel) (by decide +kernel)
set_option maxRecDepth 100000 in
theorem m_283 : Cond.methodLink RX7 169 yX7_placeProperty ∈ wG := gw 419 (by decide +kernel) (by decide +kernel)
set_option maxRecDepth 100000 in
theorem m_284 : Cond.instanceMethod yX7_placeProperty ∈ wG := gw 421 (by decide +kernel) (by decide +kernel)
set_option maxRecDepth 100000 in
theorem m_285 : Cond.selects RX7 yX7_placeProperty yX7_placeProperty ∈ wG := gw 5 (by decide +kernel) (by decide +kernel)
set_option maxRecDepth 100000 in
theorem m_286 : Cond.code yX7_place cX7_place 3 (some .int) ∈ wG := gw 396 (by decide +kernel) (by decide +kernel)
set_option maxRecDepth 100000 in
theorem m_287 : Cond.fieldLink RX7 267 "StrengthLayout$Outcome" "filled" "I" ∈ wG := gw 142 (by decide +kernel) (by decide +kernel)
set_option maxRecDepth 100000 in
theorem m_288 : Cond.code yX7_knowWithout cX7_knowWithout 2 none ∈ wG := gw 466 (by decide +kernel) (by decide +kernel)
set_option maxRecDepth 100000 in
theorem m_289 : Cond.fieldLink RX7 294 "StrengthLayout$Outcome" "turn" "[I" ∈ wG := gw 148 (by decide +kernel) (by decide +kernel)
set_option maxRecDepth 100000 in
theorem m_290 : Cond.code yX7_culpritsOf cX7_culpritsOf 6 (some .int) ∈ wG := gw 502 (by decide +kernel) (by decide +kernel)
set_option maxRecDepth 100000 in
theorem m_291 : Cond.fieldLink RX7 282 "StrengthLayout$Rules" "left" "[I" ∈ wG := gw 58 (by decide +kernel) (by decide +kernel)
set_option maxRecDepth 100000 in
theorem m_292 : Cond.fieldLink RX7 285 "StrengthLayout$Rules" "right" "[I" ∈ wG := gw 61 (by decide +kernel) (by decide +kernel)
set_option maxRecDepth 100000 in
theorem m_293 : Cond.fieldLink RX7 288 "StrengthLayout$Rules" "sign" "[I" ∈ wG := gw 64 (by decide +kernel) (by decide +kernel)
set_option maxRecDepth 100000 in
theorem m_294 : Cond.fieldLink RX7 291 "StrengthLayout$Outcome" "margin" "[I" ∈ wG := gw 145 (by decide +kernel) (by decide +kernel)
set_option maxRecDepth 100000 in
theorem m_295 : Cond.methodLink RX7 297 yX7_culpritsOf ∈ wG := gw 499 (by decide +kernel) (by decide +kernel)
set_option maxRecDepth 100000 in
theorem m_296 : Cond.instanceMethod yX7_culpritsOf ∈ wG := gw 501 (by decide +kernel) (by decide +kernel)
set_option maxRecDepth 100000 in
theorem m_297 : Cond.selects RX7 yX7_culpritsOf yX7_culpritsOf ∈ wG := gw 11 (by decide +kernel) (by decide +kernel)
set_option maxRecDepth 100000 in
theorem m_298 : Cond.methodLink RX7 300 yX3_holds ∈ wG := gw 359 (by decide +kernel) (by decide +kernel)
set_option maxRecDepth 100000 in
theorem m_299 : Cond.instanceMethod yX3_holds ∈ wG := gw 360 (by decide +kernel) (by decide +kernel)
set_option maxRecDepth 100000 in
theorem m_300 : Cond.selects RX3 yX3_holds yX3_holds ∈ wG := gw 361 (by decide +kernel) (by decide +kernel)
set_option maxRecDepth 100000 in
theorem m_301 : Cond.code yX7_conditionProperty cX7_conditionProperty 3 (some .int) ∈ wG := gw 498 (by decide +kernel) (by decide +kernel)
set_option maxRecDepth 100000 in
theorem m_302 : Cond.methodLink RX7 173 yX7_knowWithout ∈ wG := gw 463 (by decide +kernel) (by decide +kernel)
set_option maxRecDepth 100000 in
theorem m_303 : Cond.instanceMethod yX7_knowWithout ∈ wG := gw 465 (by decide +kernel) (by decide +kernel)
set_option maxRecDepth 100000 in
theorem m_304 : Cond.selects RX7 yX7_knowWithout yX7_knowWithout ∈ wG := gw 8 (by decide +kernel) (by decide +kernel)
set_option maxRecDepth 100000 in
theorem m_305 : Cond.methodLink RX7 176 yX7_conditionProperty ∈ wG := gw 495 (by decide +kernel) (by decide +kernel)
set_option maxRecDepth 100000 in
theorem m_306 : Cond.instanceMethod yX7_conditionProperty ∈ wG := gw 497 (by decide +kernel) (by decide +kernel)
set_option maxRecDepth 100000 in
theorem m_307 : Cond.selects RX7 yX7_conditionProperty yX7_conditionProperty ∈ wG := gw 10 (by decide +kernel) (by decide +kernel)
set_option maxRecDepth 100000 in
theorem m_308 : Cond.code yX7_condition cX7_condition 3 (some .int) ∈ wG := gw 458 (by decide +kernel) (by decide +kernel)
set_option maxRecDepth 100000 in
theorem m_309 : Cond.fieldLink RX7 303 "StrengthLayout$Filling" "ofEdits" "LStrengthLayout$Outcome;" ∈ wG := gw 161 (by decide +kernel) (by decide +kernel)
set_option maxRecDepth 100000 in
theorem m_310 : Cond.code yX7_editProperty cX7_editProperty 3 (some .int) ∈ wG := gw 444 (by decide +kernel) (by decide +kernel)
set_option maxRecDepth 100000 in
theorem m_311 : Cond.methodLink RX7 179 yX7_editProperty ∈ wG := gw 441 (by decide +kernel) (by decide +kernel)
set_option maxRecDepth 100000 in
theorem m_312 : Cond.instanceMethod yX7_editProperty ∈ wG := gw 443 (by decide +kernel) (by decide +kernel)
set_option maxRecDepth 100000 in
theorem m_313 : Cond.selects RX7 yX7_editProperty yX7_editProperty ∈ wG := gw 6 (by decide +kernel) (by decide +kernel)
set_option maxRecDepth 100000 in
theorem m_314 : Cond.code yX7_edited cX7_edited 3 (some .int) ∈ wG := gw 440 (by decide +kernel) (by decide +kernel)
set_option maxRecDepth 100000 in
theorem m_315 : Cond.code yX7_widest cX7_widest 3 (some .int) ∈ wG := gw 436 (by decide +kernel) (by decide +kernel)
set_option maxRecDepth 100000 in
theorem m_316 : Cond.constant RJ6 265 (1431655765) ∈ wG := gw 336 (by decide +kernel) (by decide +kernel)
set_option maxRecDepth 100000 in
theorem m_317 : Cond.constant RJ6 266 (858993459) ∈ wG := gw 337 (by decide +kernel) (by decide +kernel)
set_option maxRecDepth 100000 in
theorem m_318 : Cond.constant RJ6 267 (252645135) ∈ wG := gw 338 (by decide +kernel) (by decide +kernel)
set_option maxRecDepth 100000 in
theorem m_319 : Cond.code yJ6_bitCount_0f7a4 cJ6_bitCount_0f7a4 1 (some .int) ∈ wG := gw 335 (by decide +kernel) (by decide +kernel)
set_option maxRecDepth 100000 in
theorem m_320 : Cond.methodLink RX7 212 yX0_width ∈ wG := gw 343 (by decide +kernel) (by decide +kernel)
set_option maxRecDepth 100000 in
theorem m_321 : Cond.instanceMethod yX0_width ∈ wG := gw 344 (by decide +kernel) (by decide +kernel)
set_option maxRecDepth 100000 in
theorem m_322 : Cond.selects RX0 yX0_width yX0_width ∈ wG := gw 345 (by decide +kernel) (by decide +kernel)
set_option maxRecDepth 100000 in
theorem m_323 : Cond.code yX7_fixedPlaces cX7_fixedPlaces 3 (some .int) ∈ wG := gw 342 (by decide +kernel) (by decide +kernel)
set_option maxRecDepth 100000 in
theorem m_324 : Cond.code yX7_conditionsThatHold cX7_conditionsThatHold 3 (some .int) ∈ wG := gw 358 (by decide +kernel) (by decide +kernel)
set_option maxRecDepth 100000 in
theorem m_325 : Cond.code yX7_sumOfValues cX7_sumOfValues 3 (some .int) ∈ wG := gw 370 (by decide +kernel) (by decide +kernel)
set_option maxRecDepth 100000 in
theorem m_326 : Cond.fieldLink RX7 165 "StrengthLayout$History" "size" "I" ∈ wG := gw 187 (by decide +kernel) (by decide +kernel)
set_option maxRecDepth 100000 in
theorem m_327 : Cond.methodLink RX7 204 yJ6_bitCount_0f7a4 ∈ wG := gw 333 (by decide +kernel) (by decide +kernel)
set_option maxRecDepth 100000 in
theorem m_328 : Cond.static yJ6_bitCount_0f7a4 ∈ wG := gw 334 (by decide +kernel) (by decide +kernel)
set_option maxRecDepth 100000 in
theorem m_329 : Cond.initialized RJ6 ∈ wG := gw 32 (by decide +kernel) (by decide +kernel)
set_option maxRecDepth 100000 in
theorem m_330 : Cond.methodLink RX7 306 yX7_fixedPlaces ∈ wG := gw 339 (by decide +kernel) (by decide +kernel)
set_option maxRecDepth 100000 in
theorem m_331 : Cond.instanceMethod yX7_fixedPlaces ∈ wG := gw 341 (by decide +kernel) (by decide +kernel)
set_option maxRecDepth 100000 in
theorem m_332 : Cond.selects RX7 yX7_fixedPlaces yX7_fixedPlaces ∈ wG := gw 2 (by decide +kernel) (by decide +kernel)
set_option maxRecDepth 100000 in
theorem m_333 : Cond.methodLink RX7 309 yX7_conditionsThatHold ∈ wG := gw 355 (by decide +kernel) (by decide +kernel)
set_option maxRecDepth 100000 in
theorem m_334 : Cond.instanceMethod yX7_conditionsThatHold ∈ wG := gw 357 (by decide +kernel) (by decide +kernel)
set_option maxRecDepth 100000 in
theorem m_335 : Cond.selects RX7 yX7_conditionsThatHold yX7_conditionsThatHold ∈ wG := gw 3 (by decide +kernel) (by decide +kernel)
set_option maxRecDepth 100000 in
theorem m_336 : Cond.methodLink RX7 312 yX7_sumOfValues ∈ wG := gw 367 (by decide +kernel) (by decide +kernel)
set_option maxRecDepth 100000 in
theorem m_337 : Cond.instanceMethod yX7_sumOfValues ∈ wG := gw 369 (by decide +kernel) (by decide +kernel)
set_option maxRecDepth 100000 in
theorem m_338 : Cond.selects RX7 yX7_sumOfValues yX7_sumOfValues ∈ wG := gw 4 (by decide +kernel) (by decide +kernel)
set_option maxRecDepth 100000 in
theorem m_339 : Cond.code yX7_countOf cX7_countOf 2 (some .int) ∈ wG := gw 332 (by decide +kernel) (by decide +kernel)
set_option maxRecDepth 100000 in
theorem m_340 : Cond.methodLink RX7 191 yX7_countOf ∈ wG := gw 329 (by decide +kernel) (by decide +kernel)
set_option maxRecDepth 100000 in
theorem m_341 : Cond.instanceMethod yX7_countOf ∈ wG := gw 331 (by decide +kernel) (by decide +kernel)
set_option maxRecDepth 100000 in
theorem m_342 : Cond.selects RX7 yX7_countOf yX7_countOf ∈ wG := gw 1 (by decide +kernel) (by decide +kernel)
set_option maxRecDepth 100000 in
theorem m_343 : Cond.code yX7_count cX7_count 2 (some .int) ∈ wG := gw 254 (by decide +kernel) (by decide +kernel)
set_option maxRecDepth 100000 in
theorem m_344 : Cond.methodLink RX7 194 yX3_copyFrom ∈ wG := gw 528 (by decide +kernel) (by decide +kernel)
set_option maxRecDepth 100000 in
theorem m_345 : Cond.code yX7_ifEdited cX7_ifEdited 5 (some .int) ∈ wG := gw 521 (by decide +kernel) (by decide +kernel)
set_option maxRecDepth 100000 in
theorem m_346 : Cond.code yX7_ifRemoved cX7_ifRemoved 2 (some .int) ∈ wG := gw 571 (by decide +kernel) (by decide +kernel)
set_option maxRecDepth 100000 in
theorem m_347 : Cond.code yX7_leastFillingStrength cX7_leastFillingStrength 3 (some .int) ∈ wG := gw 579 (by decide +kernel) (by decide +kernel)
set_option maxRecDepth 100000 in
theorem m_348 : Cond.methodLink RX7 209 yX7_leastFillingStrength ∈ wG := gw 576 (by decide +kernel) (by decide +kernel)
set_option maxRecDepth 100000 in
theorem m_349 : Cond.instanceMethod yX7_leastFillingStrength ∈ wG := gw 578 (by decide +kernel) (by decide +kernel)
set_option maxRecDepth 100000 in
theorem m_350 : Cond.selects RX7 yX7_leastFillingStrength yX7_leastFillingStrength ∈ wG := gw 13 (by decide +kernel) (by decide +kernel)
set_option maxRecDepth 100000 in
theorem m_351 : Cond.code yX7_neededStrength cX7_neededStrength 2 (some .int) ∈ wG := gw 575 (by decide +kernel) (by decide +kernel)
set_option maxRecDepth 100000 in
theorem m_352 : Cond.constantFloat RX7 215 (1184645120) ∈ wG := gw 507 (by decide +kernel) (by decide +kernel)
set_option maxRecDepth 100000 in
theorem m_353 : Cond.code yX7_freedom cX7_freedom 3 (some .float) ∈ wG := gw 506 (by decide +kernel) (by decide +kernel)
set_option maxRecDepth 100000 in
theorem m_354 : Cond.code yJ9_max_7cf53 cJ9_max_7cf53 2 (some .int) ∈ wG := gw 564 (by decide +kernel) (by decide +kernel)
set_option maxRecDepth 100000 in
theorem m_355 : Cond.code yJ9_min_7cf53 cJ9_min_7cf53 2 (some .int) ∈ wG := gw 567 (by decide +kernel) (by decide +kernel)
set_option maxRecDepth 100000 in
theorem m_356 : Cond.constant RL 7 (1816402316) ∈ wG := gw 374 (by decide +kernel) (by decide +kernel)
set_option maxRecDepth 100000 in
theorem m_357 : Cond.code yL_cell cL_cell 2 (some .int) ∈ wG := gw 373 (by decide +kernel) (by decide +kernel)
set_option maxRecDepth 100000 in
theorem m_358 : Cond.code yL_at cL_at 2 (some .int) ∈ wG := gw 377 (by decide +kernel) (by decide +kernel)
set_option maxRecDepth 100000 in
theorem m_359 : Cond.code yL_most cL_most 9 (some .int) ∈ wG := gw 389 rfl (by decide +kernel)
set_option maxRecDepth 100000 in
theorem m_360 : Cond.code yL_bind cL_bind 7 none ∈ wG := gw 392 (by decide +kernel) (by decide +kernel)
set_option maxRecDepth 100000 in
theorem m_361 : Cond.methodLink RL 8 yL_most ∈ wG := gw 387 (by decide +kernel) (by decide +kernel)
set_option maxRecDepth 100000 in
theorem m_362 : Cond.static yL_most ∈ wG := gw 388 (by decide +kernel) (by decide +kernel)
set_option maxRecDepth 100000 in
theorem m_363 : Cond.initialized RL ∈ wG := gw 18 (by decide +kernel) (by decide +kernel)
set_option maxRecDepth 100000 in
theorem m_364 : Cond.methodLink RL 14 yL_bind ∈ wG := gw 390 (by decide +kernel) (by decide +kernel)
set_option maxRecDepth 100000 in
theorem m_365 : Cond.static yL_bind ∈ wG := gw 391 (by decide +kernel) (by decide +kernel)
set_option maxRecDepth 100000 in
theorem m_366 : Cond.code yL_fill cL_fill 10 (some .int) ∈ wG := gw 386 rfl (by decide +kernel)
set_option maxRecDepth 100000 in
theorem m_367 : Cond.methodLink RL 18 yL_fill ∈ wG := gw 384 (by decide +kernel) (by decide +kernel)
set_option maxRecDepth 100000 in
theorem m_368 : Cond.static yL_fill ∈ wG := gw 385 (by decide +kernel) (by decide +kernel)
set_option maxRecDepth 100000 in
theorem m_369 : Cond.code yL_all cL_all 13 none ∈ wG := gw 383 rfl (by decide +kernel)
set_option maxRecDepth 100000 in
theorem m_370 : Cond.methodLink RL 22 yL_all ∈ wG := gw 381 (by decide +kernel) (by decide +kernel)
set_option maxRecDepth 100000 in
theorem m_371 : Cond.static yL_all ∈ wG := gw 382 (by decide +kernel) (by decide +kernel)
set_option maxRecDepth 100000 in
theorem m_372 : Cond.code yL_settle cL_settle 14 none ∈ wG := gw 517 rfl (by decide +kernel)
set_option maxRecDepth 100000 in
theorem m_373 : Cond.code yL_other cL_other 2 (some .int) ∈ wG := gw 454 (by decide +kernel) (by decide +kernel)
set_option maxRecDepth 100000 in
theorem m_374 : Cond.methodLink RL 26 yL_other ∈ wG := gw 452 (by decide +kernel) (by decide +kernel)
set_option maxRecDepth 100000 in
theorem m_375 : Cond.static yL_other ∈ wG := gw 453 (by decide +kernel) (by decide +kernel)
set_option maxRecDepth 100000 in
theorem m_376 : Cond.code yL_holds cL_holds 4 (some .boolean) ∈ wG := gw 451 rfl (by decide +kernel)
set_option maxRecDepth 100000 in
theorem m_377 : Cond.constantFloat RL 56 (1184645120) ∈ wG := gw 508 (by decide +kernel) (by decide +kernel)
set_option maxRecDepth 100000 in
theorem m_378 : Cond.methodLink RL 30 yX7_place ∈ wG := gw 393 (by decide +kernel) (by decide +kernel)
set_option maxRecDepth 100000 in
theorem m_379 : Cond.instanceMethod yX7_place ∈ wG := gw 394 (by decide +kernel) (by decide +kernel)
set_option maxRecDepth 100000 in
theorem m_380 : Cond.selects RX7 yX7_place yX7_place ∈ wG := gw 395 (by decide +kernel) (by decide +kernel)
set_option maxRecDepth 100000 in
theorem m_381 : Cond.methodLink RL 36 yL_at ∈ wG := gw 375 (by decide +kernel) (by decide +kernel)
set_option maxRecDepth 100000 in
theorem m_382 : Cond.static yL_at ∈ wG := gw 376 (by decide +kernel) (by decide +kernel)
set_option maxRecDepth 100000 in
theorem m_383 : Cond.methodLink RL 39 yX7_widest ∈ wG := gw 433 (by decide +kernel) (by decide +kernel)
set_option maxRecDepth 100000 in
theorem m_384 : Cond.instanceMethod yX7_widest ∈ wG := gw 434 (by decide +kernel) (by decide +kernel)
set_option maxRecDepth 100000 in
theorem m_385 : Cond.selects RX7 yX7_widest yX7_widest ∈ wG := gw 435 (by decide +kernel) (by decide +kernel)
set_option maxRecDepth 100000 in
theorem m_386 : Cond.methodLink RL 42 yX7_edited ∈ wG := gw 437 (by decide +kernel) (by decide +kernel)
set_option maxRecDepth 100000 in
theorem m_387 : Cond.instanceMethod yX7_edited ∈ wG := gw 438 (by decide +kernel) (by decide +kernel)
set_option maxRecDepth 100000 in
theorem m_388 : Cond.selects RX7 yX7_edited yX7_edited ∈ wG := gw 439 (by decide +kernel) (by decide +kernel)
set_option maxRecDepth 100000 in
theorem m_389 : Cond.methodLink RL 45 yL_holds ∈ wG := gw 449 (by decide +kernel) (by decide +kernel)
set_option maxRecDepth 100000 in
theorem m_390 : Cond.static yL_holds ∈ wG := gw 450 (by decide +kernel) (by decide +kernel)
set_option maxRecDepth 100000 in
theorem m_391 : Cond.methodLink RL 49 yX7_condition ∈ wG := gw 455 (by decide +kernel) (by decide +kernel)
set_option maxRecDepth 100000 in
theorem m_392 : Cond.instanceMethod yX7_condition ∈ wG := gw 456 (by decide +kernel) (by decide +kernel)
set_option maxRecDepth 100000 in
theorem m_393 : Cond.selects RX7 yX7_condition yX7_condition ∈ wG := gw 457 (by decide +kernel) (by decide +kernel)
set_option maxRecDepth 100000 in
theorem m_394 : Cond.methodLink RL 52 yX7_freedom ∈ wG := gw 503 (by decide +kernel) (by decide +kernel)
set_option maxRecDepth 100000 in
theorem m_395 : Cond.instanceMethod yX7_freedom ∈ wG := gw 504 (by decide +kernel) (by decide +kernel)
set_option maxRecDepth 100000 in
theorem m_396 : Cond.selects RX7 yX7_freedom yX7_freedom ∈ wG := gw 505 (by decide +kernel) (by decide +kernel)
set_option maxRecDepth 100000 in
theorem m_397 : Cond.methodLink RL 57 yX7_count ∈ wG := gw 251 (by decide +kernel) (by decide +kernel)
set_option maxRecDepth 100000 in
theorem m_398 : Cond.instanceMethod yX7_count ∈ wG := gw 252 (by decide +kernel) (by decide +kernel)
set_option maxRecDepth 100000 in
theorem m_399 : Cond.selects RX7 yX7_count yX7_count ∈ wG := gw 253 (by decide +kernel) (by decide +kernel)
set_option maxRecDepth 100000 in
theorem m_400 : Cond.code yL_told cL_told 25 (some .boolean) ∈ wG := gw 380 rfl (by decide +kernel)
set_option maxRecDepth 100000 in
theorem m_401 : Cond.code yL_lay cL_lay 6 none ∈ wG := gw 514 (by decide +kernel) (by decide +kernel)
set_option maxRecDepth 100000 in
theorem m_402 : Cond.methodLink RL 61 yL_lay ∈ wG := gw 512 (by decide +kernel) (by decide +kernel)
set_option maxRecDepth 100000 in
theorem m_403 : Cond.static yL_lay ∈ wG := gw 513 (by decide +kernel) (by decide +kernel)
set_option maxRecDepth 100000 in
theorem m_404 : Cond.methodLink RL 65 yL_settle ∈ wG := gw 515 (by decide +kernel) (by decide +kernel)
set_option maxRecDepth 100000 in
theorem m_405 : Cond.static yL_settle ∈ wG := gw 516 (by decide +kernel) (by decide +kernel)
set_option maxRecDepth 100000 in
theorem m_406 : Cond.methodLink RL 69 yX7_ifEdited ∈ wG := gw 518 (by decide +kernel) (by decide +kernel)
set_option maxRecDepth 100000 in
theorem m_407 : Cond.instanceMethod yX7_ifEdited ∈ wG := gw 519 (by decide +kernel) (by decide +kernel)
set_option maxRecDepth 100000 in
theorem m_408 : Cond.selects RX7 yX7_ifEdited yX7_ifEdited ∈ wG := gw 520 (by decide +kernel) (by decide +kernel)
set_option maxRecDepth 100000 in
theorem m_409 : Cond.methodLink RL 73 yX7_ifRemoved ∈ wG := gw 568 (by decide +kernel) (by decide +kernel)
set_option maxRecDepth 100000 in
theorem m_410 : Cond.instanceMethod yX7_ifRemoved ∈ wG := gw 569 (by decide +kernel) (by decide +kernel)
set_option maxRecDepth 100000 in
theorem m_411 : Cond.selects RX7 yX7_ifRemoved yX7_ifRemoved ∈ wG := gw 570 (by decide +kernel) (by decide +kernel)
set_option maxRecDepth 100000 in
theorem m_412 : Cond.methodLink RL 76 yX7_neededStrength ∈ wG := gw 572 (by decide +kernel) (by decide +kernel)
set_option maxRecDepth 100000 in
theorem m_413 : Cond.instanceMethod yX7_neededStrength ∈ wG := gw 573 (by decide +kernel) (by decide +kernel)
set_option maxRecDepth 100000 in
theorem m_414 : Cond.selects RX7 yX7_neededStrength yX7_neededStrength ∈ wG := gw 574 (by decide +kernel) (by decide +kernel)
set_option maxRecDepth 100000 in
theorem m_415 : Cond.code yL_ahead cL_ahead 25 (some .boolean) ∈ wG := gw 511 rfl (by decide +kernel)
set_option maxRecDepth 100000 in
theorem m_416 : Cond.methodLink RL 79 yX7_add ∈ wG := gw 583 (by decide +kernel) (by decide +kernel)
set_option maxRecDepth 100000 in
theorem m_417 : Cond.instanceMethod yX7_add ∈ wG := gw 584 (by decide +kernel) (by decide +kernel)
set_option maxRecDepth 100000 in
theorem m_418 : Cond.selects RX7 yX7_add yX7_add ∈ wG := gw 585 (by decide +kernel) (by decide +kernel)
set_option maxRecDepth 100000 in
theorem m_419 : Cond.methodLink RL 83 yX7_remove ∈ wG := gw 624 (by decide +kernel) (by decide +kernel)
set_option maxRecDepth 100000 in
theorem m_420 : Cond.instanceMethod yX7_remove ∈ wG := gw 625 (by decide +kernel) (by decide +kernel)
set_option maxRecDepth 100000 in
theorem m_421 : Cond.selects RX7 yX7_remove yX7_remove ∈ wG := gw 626 (by decide +kernel) (by decide +kernel)
set_option maxRecDepth 100000 in
theorem m_422 : Cond.methodLink RL 86 yX7_setNumber ∈ wG := gw 632 (by decide +kernel) (by decide +kernel)
set_option maxRecDepth 100000 in
theorem m_423 : Cond.instanceMethod yX7_setNumber ∈ wG := gw 633 (by decide +kernel) (by decide +kernel)
set_option maxRecDepth 100000 in
theorem m_424 : Cond.selects RX7 yX7_setNumber yX7_setNumber ∈ wG := gw 634 (by decide +kernel) (by decide +kernel)
set_option maxRecDepth 100000 in
theorem m_425 : Cond.methodLink RL 89 yX7_setStrength ∈ wG := gw 640 (by decide +kernel) (by decide +kernel)
set_option maxRecDepth 100000 in
theorem m_426 : Cond.instanceMethod yX7_setStrength ∈ wG := gw 641 (by decide +kernel) (by decide +kernel)
set_option maxRecDepth 100000 in
theorem m_427 : Cond.selects RX7 yX7_setStrength yX7_setStrength ∈ wG := gw 642 (by decide +kernel) (by decide +kernel)
set_option maxRecDepth 100000 in
theorem m_428 : Cond.methodLink RL 92 yX7_edit ∈ wG := gw 644 (by decide +kernel) (by decide +kernel)
set_option maxRecDepth 100000 in
theorem m_429 : Cond.instanceMethod yX7_edit ∈ wG := gw 645 (by decide +kernel) (by decide +kernel)
set_option maxRecDepth 100000 in
theorem m_430 : Cond.selects RX7 yX7_edit yX7_edit ∈ wG := gw 646 (by decide +kernel) (by decide +kernel)
set_option maxRecDepth 100000 in
theorem m_431 : Cond.methodLink RL 96 yX7_endEdits ∈ wG := gw 648 (by decide +kernel) (by decide +kernel)
set_option maxRecDepth 100000 in
theorem m_432 : Cond.instanceMethod yX7_endEdits ∈ wG := gw 649 (by decide +kernel) (by decide +kernel)
set_option maxRecDepth 100000 in
theorem m_433 : Cond.selects RX7 yX7_endEdits yX7_endEdits ∈ wG := gw 650 (by decide +kernel) (by decide +kernel)
set_option maxRecDepth 100000 in
theorem m_434 : Cond.methodLink RL 100 yX7_setStay ∈ wG := gw 652 (by decide +kernel) (by decide +kernel)
set_option maxRecDepth 100000 in
theorem m_435 : Cond.instanceMethod yX7_setStay ∈ wG := gw 653 (by decide +kernel) (by decide +kernel)
set_option maxRecDepth 100000 in
theorem m_436 : Cond.selects RX7 yX7_setStay yX7_setStay ∈ wG := gw 654 (by decide +kernel) (by decide +kernel)
set_option maxRecDepth 100000 in
theorem m_437 : Cond.methodLink RL 103 yX7_settleFrom ∈ wG := gw 656 (by decide +kernel) (by decide +kernel)
set_option maxRecDepth 100000 in
theorem m_438 : Cond.instanceMethod yX7_settleFrom ∈ wG := gw 657 (by decide +kernel) (by decide +kernel)
set_option maxRecDepth 100000 in
theorem m_439 : Cond.selects RX7 yX7_settleFrom yX7_settleFrom ∈ wG := gw 658 (by decide +kernel) (by decide +kernel)
set_option maxRecDepth 100000 in
theorem m_440 : Cond.code yL_act cL_act 18 (some .boolean) ∈ wG := gw 582 rfl (by decide +kernel)
set_option maxRecDepth 100000 in
theorem m_441 : Cond.classLink RL 31 RX7 ∈ wG := gw 35 (by decide +kernel) (by decide +kernel)
set_option maxRecDepth 100000 in
theorem m_442 : Cond.instantiable RX7 10 ∈ wG := gw 36 (by decide +kernel) (by decide +kernel)
set_option maxRecDepth 100000 in
theorem m_443 : Cond.constant RL 115 (2147483647) ∈ wG := gw 664 (by decide +kernel) (by decide +kernel)
set_option maxRecDepth 100000 in
theorem m_444 : Cond.methodLink RL 106 yX7_init ∈ wG := gw 37 (by decide +kernel) (by decide +kernel)
set_option maxRecDepth 100000 in
theorem m_445 : Cond.instanceMethod yX7_init ∈ wG := gw 38 (by decide +kernel) (by decide +kernel)
set_option maxRecDepth 100000 in
theorem m_446 : Cond.methodLink RL 107 yL_told ∈ wG := gw 378 (by decide +kernel) (by decide +kernel)
set_option maxRecDepth 100000 in
theorem m_447 : Cond.static yL_told ∈ wG := gw 379 (by decide +kernel) (by decide +kernel)
set_option maxRecDepth 100000 in
theorem m_448 : Cond.methodLink RL 111 yL_cell ∈ wG := gw 371 (by decide +kernel) (by decide +kernel)
set_option maxRecDepth 100000 in
theorem m_449 : Cond.static yL_cell ∈ wG := gw 372 (by decide +kernel) (by decide +kernel)
set_option maxRecDepth 100000 in
theorem m_450 : Cond.methodLink RL 116 yL_act ∈ wG := gw 580 (by decide +kernel) (by decide +kernel)
set_option maxRecDepth 100000 in
theorem m_451 : Cond.static yL_act ∈ wG := gw 581 (by decide +kernel) (by decide +kernel)
set_option maxRecDepth 100000 in
theorem m_452 : Cond.methodLink RL 120 yL_ahead ∈ wG := gw 509 (by decide +kernel) (by decide +kernel)
set_option maxRecDepth 100000 in
theorem m_453 : Cond.static yL_ahead ∈ wG := gw 510 (by decide +kernel) (by decide +kernel)
set_option maxRecDepth 100000 in
theorem f_X0 : ∀ w ∈ u_ws RX0 TX0 1, w ∈ wG := fun w h => List.mem_filter.mpr ⟨(show ∀ w ∈ u_ws RX0 TX0 1, w ∈ lw_tbl by decide +kernel) w h, (show ∀ w ∈ u_ws RX0 TX0 1, goodWord w = true by decide +kernel) w h⟩
set_option maxRecDepth 100000 in
theorem f_X1 : ∀ w ∈ u_ws RX1 TX1 5, w ∈ wG := fun w h => List.mem_filter.mpr ⟨(show ∀ w ∈ u_ws RX1 TX1 5, w ∈ lw_tbl by decide +kernel) w h, (show ∀ w ∈ u_ws RX1 TX1 5, goodWord w = true by decide +kernel) w h⟩
set_option maxRecDepth 100000 in
theorem f_X2 : ∀ w ∈ u_ws RX2 TX2 3, w ∈ wG := fun w h => List.mem_filter.mpr ⟨(show ∀ w ∈ u_ws RX2 TX2 3, w ∈ lw_tbl by decide +kernel) w h, (show ∀ w ∈ u_ws RX2 TX2 3, goodWord w = true by decide +kernel) w h⟩
set_option maxRecDepth 100000 in
theorem f_X3 : ∀ w ∈ u_ws RX3 TX3 4, w ∈ wG := fun w h => List.mem_filter.mpr ⟨(show ∀ w ∈ u_ws RX3 TX3 4, w ∈ lw_tbl by decide +kernel) w h, (show ∀ w ∈ u_ws RX3 TX3 4, goodWord w = true by decide +kernel) w h⟩
set_option maxRecDepth 100000 in
theorem f_X4 : ∀ w ∈ u_ws RX4 TX4 3, w ∈ wG := fun w h => List.mem_filter.mpr ⟨(show ∀ w ∈ u_ws RX4 TX4 3, w ∈ lw_tbl by decide +kernel) w h, (show ∀ w ∈ u_ws RX4 TX4 3, goodWord w = true by decide +kernel) w h⟩
set_option maxRecDepth 100000 in
theorem f_X5 : ∀ w ∈ u_ws RX5 TX5 6, w ∈ wG := fun w h => List.mem_filter.mpr ⟨(show ∀ w ∈ u_ws RX5 TX5 6, w ∈ lw_tbl by decide +kernel) w h, (show ∀ w ∈ u_ws RX5 TX5 6, goodWord w = true by decide +kernel) w h⟩
set_option maxRecDepth 100000 in
theorem f_X6 : ∀ w ∈ u_ws RX6 TX6 8, w ∈ wG := fun w h => List.mem_filter.mpr ⟨(show ∀ w ∈ u_ws RX6 TX6 8, w ∈ lw_tbl by decide +kernel) w h, (show ∀ w ∈ u_ws RX6 TX6 8, goodWord w = true by decide +kernel) w h⟩
set_option maxRecDepth 100000 in
theorem f_X7 : ∀ w ∈ u_ws RX7 TX7 10, w ∈ wG := fun w h => List.mem_filter.mpr ⟨(show ∀ w ∈ u_ws RX7 TX7 10, w ∈ lw_tbl by decide +kernel) w h, (show ∀ w ∈ u_ws RX7 TX7 10, goodWord w = true by decide +kernel) w h⟩
