/-- all words of the tables that stay true -/
def wG : List Cond := lw_tbl.filter goodWord
theorem gw {w : Cond} (i : Nat) (h : lw_tbl[i]? = some w) (g : goodWord w = true) : w ∈ wG := List.mem_filter.mpr ⟨List.mem_of_getElem? h, g⟩
set_option maxRecDepth 100000 in
theorem m_0 : Cond.fieldLink RX0 11 "StrengthLayout$Bounds" "greatest" "[[I" ∈ wG := gw 190 (by decide +kernel) (by decide +kernel)
set_option maxRecDepth 100000 in
theorem m_1 : Cond.code yX0_open cX0_open 4 none ∈ wG := gw 189 (by decide +kernel) (by decide +kernel)
set_option maxRecDepth 100000 in
theorem m_2 : Cond.methodLink RX0 3 objectInit ∈ wG := gw 183 (by decide +kernel) (by decide +kernel)
set_option maxRecDepth 100000 in
theorem m_3 : Cond.instanceMethod objectInit ∈ wG := gw 100 (by decide +kernel) (by decide +kernel)
set_option maxRecDepth 100000 in
theorem m_4 : Cond.code objectInit ⟨#[0xb1]⟩ 1 none ∈ wG := gw 101 (by decide +kernel) (by decide +kernel)
set_option maxRecDepth 100000 in
theorem m_5 : Cond.classLink RX0 9 "[[I" ∈ wG := gw 184 (by decide +kernel) (by decide +kernel)
set_option maxRecDepth 100000 in
theorem m_6 : Cond.arrayClass .int ∈ wG := gw 150 (by decide +kernel) (by decide +kernel)
set_option maxRecDepth 100000 in
theorem m_7 : Cond.methodLink RX0 16 yX0_open ∈ wG := gw 186 (by decide +kernel) (by decide +kernel)
set_option maxRecDepth 100000 in
theorem m_8 : Cond.instanceMethod yX0_open ∈ wG := gw 187 (by decide +kernel) (by decide +kernel)
set_option maxRecDepth 100000 in
theorem m_9 : Cond.selects RX0 yX0_open yX0_open ∈ wG := gw 188 (by decide +kernel) (by decide +kernel)
set_option maxRecDepth 100000 in
theorem m_10 : Cond.initialized RX0 ∈ wG := gw 80 (by decide +kernel) (by decide +kernel)
set_option maxRecDepth 100000 in
theorem m_11 : Cond.code yX0_init cX0_init 1 none ∈ wG := gw 182 (by decide +kernel) (by decide +kernel)
set_option maxRecDepth 100000 in
theorem m_12 : Cond.code yX0_copyFrom cX0_copyFrom 4 none ∈ wG := gw 704 (by decide +kernel) (by decide +kernel)
set_option maxRecDepth 100000 in
theorem m_13 : Cond.code yX0_greatest cX0_greatest 3 (some .int) ∈ wG := gw 371 (by decide +kernel) (by decide +kernel)
set_option maxRecDepth 100000 in
theorem m_14 : Cond.code yX0_least cX0_least 3 (some .int) ∈ wG := gw 367 (by decide +kernel) (by decide +kernel)
set_option maxRecDepth 100000 in
theorem m_15 : Cond.methodLink RX0 19 yX0_greatest ∈ wG := gw 463 (by decide +kernel) (by decide +kernel)
set_option maxRecDepth 100000 in
theorem m_16 : Cond.instanceMethod yX0_greatest ∈ wG := gw 369 (by decide +kernel) (by decide +kernel)
set_option maxRecDepth 100000 in
theorem m_17 : Cond.selects RX0 yX0_greatest yX0_greatest ∈ wG := gw 370 (by decide +kernel) (by decide +kernel)
set_option maxRecDepth 100000 in
theorem m_18 : Cond.methodLink RX0 22 yX0_least ∈ wG := gw 464 (by decide +kernel) (by decide +kernel)
set_option maxRecDepth 100000 in
theorem m_19 : Cond.instanceMethod yX0_least ∈ wG := gw 365 (by decide +kernel) (by decide +kernel)
set_option maxRecDepth 100000 in
theorem m_20 : Cond.selects RX0 yX0_least yX0_least ∈ wG := gw 366 (by decide +kernel) (by decide +kernel)
set_option maxRecDepth 100000 in
theorem m_21 : Cond.code yX0_width cX0_width 2 (some .int) ∈ wG := gw 462 (by decide +kernel) (by decide +kernel)
set_option maxRecDepth 100000 in
theorem m_22 : Cond.code yX0_limit cX0_limit 9 none ∈ wG := gw 387 (by decide +kernel) (by decide +kernel)
set_option maxRecDepth 100000 in
theorem m_23 : Cond.methodLink RX4 3 objectInit ∈ wG := gw 199 (by decide +kernel) (by decide +kernel)
set_option maxRecDepth 100000 in
theorem m_24 : Cond.fieldLink RX4 9 "StrengthLayout$Outcome" "margin" "[I" ∈ wG := gw 203 (by decide +kernel) (by decide +kernel)
set_option maxRecDepth 100000 in
theorem m_25 : Cond.fieldLink RX4 15 "StrengthLayout$Outcome" "turn" "[I" ∈ wG := gw 206 (by decide +kernel) (by decide +kernel)
set_option maxRecDepth 100000 in
theorem m_26 : Cond.code yX4_init cX4_init 1 none ∈ wG := gw 198 (by decide +kernel) (by decide +kernel)
set_option maxRecDepth 100000 in
theorem m_27 : Cond.methodLink RX1 3 objectInit ∈ wG := gw 177 (by decide +kernel) (by decide +kernel)
set_option maxRecDepth 100000 in
theorem m_28 : Cond.classLink RX1 9 RX0 ∈ wG := gw 178 (by decide +kernel) (by decide +kernel)
set_option maxRecDepth 100000 in
theorem m_29 : Cond.instantiable RX0 1 ∈ wG := gw 179 (by decide +kernel) (by decide +kernel)
set_option maxRecDepth 100000 in
theorem m_30 : Cond.fieldLink RX1 12 "StrengthLayout$Filling" "bounds" "LStrengthLayout$Bounds;" ∈ wG := gw 216 (by decide +kernel) (by decide +kernel)
set_option maxRecDepth 100000 in
theorem m_31 : Cond.classLink RX1 18 RX4 ∈ wG := gw 194 (by decide +kernel) (by decide +kernel)
set_option maxRecDepth 100000 in
theorem m_32 : Cond.instantiable RX4 3 ∈ wG := gw 195 (by decide +kernel) (by decide +kernel)
set_option maxRecDepth 100000 in
theorem m_33 : Cond.initialized RX4 ∈ wG := gw 81 (by decide +kernel) (by decide +kernel)
set_option maxRecDepth 100000 in
theorem m_34 : Cond.fieldLink RX1 21 "StrengthLayout$Filling" "ofConditions" "LStrengthLayout$Outcome;" ∈ wG := gw 218 (by decide +kernel) (by decide +kernel)
set_option maxRecDepth 100000 in
theorem m_35 : Cond.fieldLink RX1 25 "StrengthLayout$Filling" "ofEdits" "LStrengthLayout$Outcome;" ∈ wG := gw 220 (by decide +kernel) (by decide +kernel)
set_option maxRecDepth 100000 in
theorem m_36 : Cond.fieldLink RX1 28 "StrengthLayout$Filling" "rest" "LStrengthLayout$Bounds;" ∈ wG := gw 222 (by decide +kernel) (by decide +kernel)
set_option maxRecDepth 100000 in
theorem m_37 : Cond.methodLink RX1 11 yX0_init ∈ wG := gw 180 (by decide +kernel) (by decide +kernel)
set_option maxRecDepth 100000 in
theorem m_38 : Cond.instanceMethod yX0_init ∈ wG := gw 181 (by decide +kernel) (by decide +kernel)
set_option maxRecDepth 100000 in
theorem m_39 : Cond.instanceMethod yX4_init ∈ wG := gw 197 (by decide +kernel) (by decide +kernel)
set_option maxRecDepth 100000 in
theorem m_40 : Cond.code yX1_init cX1_init 1 none ∈ wG := gw 176 (by decide +kernel) (by decide +kernel)
set_option maxRecDepth 100000 in
theorem m_41 : Cond.fieldLink RX5 15 "StrengthLayout$Rules" "right" "[I" ∈ wG := gw 118 (by decide +kernel) (by decide +kernel)
set_option maxRecDepth 100000 in
theorem m_42 : Cond.code yX5_rightNode cX5_rightNode 2 (some .int) ∈ wG := gw 363 (by decide +kernel) (by decide +kernel)
set_option maxRecDepth 100000 in
theorem m_43 : Cond.fieldLink RX5 18 "StrengthLayout$Rules" "sign" "[I" ∈ wG := gw 121 (by decide +kernel) (by decide +kernel)
set_option maxRecDepth 100000 in
theorem m_44 : Cond.fieldLink RX5 21 "StrengthLayout$Rules" "number" "[I" ∈ wG := gw 124 (by decide +kernel) (by decide +kernel)
set_option maxRecDepth 100000 in
theorem m_45 : Cond.code yX5_canHold cX5_canHold 6 (some .boolean) ∈ wG := gw 375 (by decide +kernel) (by decide +kernel)
set_option maxRecDepth 100000 in
theorem m_46 : Cond.code yX5_missing cX5_missing 4 (some .int) ∈ wG := gw 379 (by decide +kernel) (by decide +kernel)
set_option maxRecDepth 100000 in
theorem m_47 : Cond.code yX5_narrowing cX5_narrowing 4 (some .int) ∈ wG := gw 383 (by decide +kernel) (by decide +kernel)
set_option maxRecDepth 100000 in
theorem m_48 : Cond.fieldLink RX1 63 "StrengthLayout$Rules" "left" "[I" ∈ wG := gw 115 (by decide +kernel) (by decide +kernel)
set_option maxRecDepth 100000 in
theorem m_49 : Cond.fieldLink RX1 77 "StrengthLayout$Outcome" "turn" "[I" ∈ wG := gw 207 (by decide +kernel) (by decide +kernel)
set_option maxRecDepth 100000 in
theorem m_50 : Cond.fieldLink RX1 38 "StrengthLayout$Filling" "turns" "I" ∈ wG := gw 223 (by decide +kernel) (by decide +kernel)
set_option maxRecDepth 100000 in
theorem m_51 : Cond.fieldLink RX1 84 "StrengthLayout$Outcome" "margin" "[I" ∈ wG := gw 204 (by decide +kernel) (by decide +kernel)
set_option maxRecDepth 100000 in
theorem m_52 : Cond.fieldLink RX1 34 "StrengthLayout$Outcome" "filled" "I" ∈ wG := gw 201 (by decide +kernel) (by decide +kernel)
set_option maxRecDepth 100000 in
theorem m_53 : Cond.fieldLink RX1 94 "StrengthLayout$Rules" "sign" "[I" ∈ wG := gw 122 (by decide +kernel) (by decide +kernel)
set_option maxRecDepth 100000 in
theorem m_54 : Cond.fieldLink RX1 97 "StrengthLayout$Rules" "number" "[I" ∈ wG := gw 125 (by decide +kernel) (by decide +kernel)
set_option maxRecDepth 100000 in
theorem m_55 : Cond.methodLink RX1 66 yX5_rightNode ∈ wG := gw 360 (by decide +kernel) (by decide +kernel)
set_option maxRecDepth 100000 in
theorem m_56 : Cond.instanceMethod yX5_rightNode ∈ wG := gw 361 (by decide +kernel) (by decide +kernel)
set_option maxRecDepth 100000 in
theorem m_57 : Cond.selects RX5 yX5_rightNode yX5_rightNode ∈ wG := gw 362 (by decide +kernel) (by decide +kernel)
set_option maxRecDepth 100000 in
theorem m_58 : Cond.initialized RX5 ∈ wG := gw 78 (by decide +kernel) (by decide +kernel)
set_option maxRecDepth 100000 in
theorem m_59 : Cond.methodLink RX1 70 yX0_least ∈ wG := gw 364 (by decide +kernel) (by decide +kernel)
set_option maxRecDepth 100000 in
theorem m_60 : Cond.methodLink RX1 74 yX0_greatest ∈ wG := gw 368 (by decide +kernel) (by decide +kernel)
set_option maxRecDepth 100000 in
theorem m_61 : Cond.methodLink RX1 80 yX5_canHold ∈ wG := gw 372 (by decide +kernel) (by decide +kernel)
set_option maxRecDepth 100000 in
theorem m_62 : Cond.instanceMethod yX5_canHold ∈ wG := gw 373 (by decide +kernel) (by decide +kernel)
set_option maxRecDepth 100000 in
theorem m_63 : Cond.selects RX5 yX5_canHold yX5_canHold ∈ wG := gw 374 (by decide +kernel) (by decide +kernel)
set_option maxRecDepth 100000 in
theorem m_64 : Cond.methodLink RX1 87 yX5_missing ∈ wG := gw 376 (by decide +kernel) (by decide +kernel)
set_option maxRecDepth 100000 in
theorem m_65 : Cond.instanceMethod yX5_missing ∈ wG := gw 377 (by decide +kernel) (by decide +kernel)
set_option maxRecDepth 100000 in
theorem m_66 : Cond.selects RX5 yX5_missing yX5_missing ∈ wG := gw 378 (by decide +kernel) (by decide +kernel)
set_option maxRecDepth 100000 in
theorem m_67 : Cond.methodLink RX1 91 yX5_narrowing ∈ wG := gw 380 (by decide +kernel) (by decide +kernel)
set_option maxRecDepth 100000 in
theorem m_68 : Cond.instanceMethod yX5_narrowing ∈ wG := gw 381 (by decide +kernel) (by decide +kernel)
set_option maxRecDepth 100000 in
theorem m_69 : Cond.selects RX5 yX5_narrowing yX5_narrowing ∈ wG := gw 382 (by decide +kernel) (by decide +kernel)
set_option maxRecDepth 100000 in
theorem m_70 : Cond.methodLink RX1 100 yX0_limit ∈ wG := gw 384 (by decide +kernel) (by decide +kernel)
set_option maxRecDepth 100000 in
theorem m_71 : Cond.instanceMethod yX0_limit ∈ wG := gw 385 (by decide +kernel) (by decide +kernel)
set_option maxRecDepth 100000 in
theorem m_72 : Cond.selects RX0 yX0_limit yX0_limit ∈ wG := gw 386 (by decide +kernel) (by decide +kernel)
set_option maxRecDepth 100000 in
theorem m_73 : Cond.code yX1_fillOne cX1_fillOne 8 none ∈ wG := gw 359 (by decide +kernel) (by decide +kernel)
set_option maxRecDepth 100000 in
theorem m_74 : Cond.fieldLink RX1 41 "StrengthLayout$Layout" "edits" "LStrengthLayout$Rules;" ∈ wG := gw 161 (by decide +kernel) (by decide +kernel)
set_option maxRecDepth 100000 in
theorem m_75 : Cond.fieldLink RX1 47 "StrengthLayout$Rules" "size" "I" ∈ wG := gw 134 (by decide +kernel) (by decide +kernel)
set_option maxRecDepth 100000 in
theorem m_76 : Cond.fieldLink RX1 52 "StrengthLayout$Rules" "strength" "[I" ∈ wG := gw 129 (by decide +kernel) (by decide +kernel)
set_option maxRecDepth 100000 in
theorem m_77 : Cond.fieldLink RX1 60 "StrengthLayout$Layout" "conditions" "LStrengthLayout$Rules;" ∈ wG := gw 159 (by decide +kernel) (by decide +kernel)
set_option maxRecDepth 100000 in
theorem m_78 : Cond.methodLink RX1 31 yX0_open ∈ wG := gw 355 (by decide +kernel) (by decide +kernel)
set_option maxRecDepth 100000 in
theorem m_79 : Cond.methodLink RX1 56 yX1_fillOne ∈ wG := gw 356 (by decide +kernel) (by decide +kernel)
set_option maxRecDepth 100000 in
theorem m_80 : Cond.instanceMethod yX1_fillOne ∈ wG := gw 358 (by decide +kernel) (by decide +kernel)
set_option maxRecDepth 100000 in
theorem m_81 : Cond.selects RX1 yX1_fillOne yX1_fillOne ∈ wG := gw 1 (by decide +kernel) (by decide +kernel)
set_option maxRecDepth 100000 in
theorem m_82 : Cond.initialized RX1 ∈ wG := gw 79 (by decide +kernel) (by decide +kernel)
set_option maxRecDepth 100000 in
theorem m_83 : Cond.code yX1_fill cX1_fill 5 none ∈ wG := gw 354 (by decide +kernel) (by decide +kernel)
set_option maxRecDepth 100000 in
theorem m_84 : Cond.fieldLink RX1 115 "StrengthLayout$Layout" "values" "[I" ∈ wG := gw 152 (by decide +kernel) (by decide +kernel)
set_option maxRecDepth 100000 in
theorem m_85 : Cond.methodLink RX1 118 Lib.Math.max.name ∈ wG := gw 709 (by decide +kernel) (by decide +kernel)
set_option maxRecDepth 100000 in
theorem m_86 : Cond.static Lib.Math.max.name ∈ wG := gw 710 (by decide +kernel) (by decide +kernel)
set_option maxRecDepth 100000 in
theorem m_87 : Cond.initialized "java/lang/Math" ∈ wG := gw 91 (by decide +kernel) (by decide +kernel)
set_option maxRecDepth 100000 in
theorem m_88 : Cond.code Lib.Math.max.name Lib.Math.max.code 2 (some .int) ∈ wG := gw 711 (by decide +kernel) (by decide +kernel)
set_option maxRecDepth 100000 in
theorem m_89 : Cond.methodLink RX1 123 Lib.Math.min.name ∈ wG := gw 712 (by decide +kernel) (by decide +kernel)
set_option maxRecDepth 100000 in
theorem m_90 : Cond.static Lib.Math.min.name ∈ wG := gw 345 (by decide +kernel) (by decide +kernel)
set_option maxRecDepth 100000 in
theorem m_91 : Cond.code Lib.Math.min.name Lib.Math.min.code 2 (some .int) ∈ wG := gw 346 (by decide +kernel) (by decide +kernel)
set_option maxRecDepth 100000 in
theorem m_92 : Cond.code yX1_settleOne cX1_settleOne 5 none ∈ wG := gw 708 (by decide +kernel) (by decide +kernel)
set_option maxRecDepth 100000 in
theorem m_93 : Cond.fieldLink RX1 108 "StrengthLayout$Layout" "stays" "[I" ∈ wG := gw 155 (by decide +kernel) (by decide +kernel)
set_option maxRecDepth 100000 in
theorem m_94 : Cond.methodLink RX1 104 yX0_copyFrom ∈ wG := gw 701 (by decide +kernel) (by decide +kernel)
set_option maxRecDepth 100000 in
theorem m_95 : Cond.instanceMethod yX0_copyFrom ∈ wG := gw 702 (by decide +kernel) (by decide +kernel)
set_option maxRecDepth 100000 in
theorem m_96 : Cond.selects RX0 yX0_copyFrom yX0_copyFrom ∈ wG := gw 703 (by decide +kernel) (by decide +kernel)
set_option maxRecDepth 100000 in
theorem m_97 : Cond.methodLink RX1 111 yX1_settleOne ∈ wG := gw 705 (by decide +kernel) (by decide +kernel)
set_option maxRecDepth 100000 in
theorem m_98 : Cond.instanceMethod yX1_settleOne ∈ wG := gw 707 (by decide +kernel) (by decide +kernel)
set_option maxRecDepth 100000 in
theorem m_99 : Cond.selects RX1 yX1_settleOne yX1_settleOne ∈ wG := gw 29 (by decide +kernel) (by decide +kernel)
set_option maxRecDepth 100000 in
theorem m_100 : Cond.code yX1_settle cX1_settle 4 none ∈ wG := gw 700 (by decide +kernel) (by decide +kernel)
set_option maxRecDepth 100000 in
theorem m_101 : Cond.methodLink RX5 3 objectInit ∈ wG := gw 113 (by decide +kernel) (by decide +kernel)
set_option maxRecDepth 100000 in
theorem m_102 : Cond.fieldLink RX5 9 "StrengthLayout$Rules" "left" "[I" ∈ wG := gw 114 (by decide +kernel) (by decide +kernel)
set_option maxRecDepth 100000 in
theorem m_103 : Cond.fieldLink RX5 24 "StrengthLayout$Rules" "strength" "[I" ∈ wG := gw 128 (by decide +kernel) (by decide +kernel)
set_option maxRecDepth 100000 in
theorem m_104 : Cond.code yX5_init cX5_init 1 none ∈ wG := gw 112 (by decide +kernel) (by decide +kernel)
set_option maxRecDepth 100000 in
theorem m_105 : Cond.methodLink RX3 3 objectInit ∈ wG := gw 107 (by decide +kernel) (by decide +kernel)
set_option maxRecDepth 100000 in
theorem m_106 : Cond.fieldLink RX3 9 "StrengthLayout$Layout" "values" "[I" ∈ wG := gw 151 (by decide +kernel) (by decide +kernel)
set_option maxRecDepth 100000 in
theorem m_107 : Cond.fieldLink RX3 15 "StrengthLayout$Layout" "stays" "[I" ∈ wG := gw 154 (by decide +kernel) (by decide +kernel)
set_option maxRecDepth 100000 in
theorem m_108 : Cond.classLink RX3 18 RX5 ∈ wG := gw 108 (by decide +kernel) (by decide +kernel)
set_option maxRecDepth 100000 in
theorem m_109 : Cond.instantiable RX5 6 ∈ wG := gw 109 (by decide +kernel) (by decide +kernel)
set_option maxRecDepth 100000 in
theorem m_110 : Cond.fieldLink RX3 21 "StrengthLayout$Layout" "conditions" "LStrengthLayout$Rules;" ∈ wG := gw 157 (by decide +kernel) (by decide +kernel)
set_option maxRecDepth 100000 in
theorem m_111 : Cond.fieldLink RX3 25 "StrengthLayout$Layout" "edits" "LStrengthLayout$Rules;" ∈ wG := gw 160 (by decide +kernel) (by decide +kernel)
set_option maxRecDepth 100000 in
theorem m_112 : Cond.instanceMethod yX5_init ∈ wG := gw 111 (by decide +kernel) (by decide +kernel)
set_option maxRecDepth 100000 in
theorem m_113 : Cond.code yX3_init cX3_init 2 none ∈ wG := gw 106 (by decide +kernel) (by decide +kernel)
set_option maxRecDepth 100000 in
theorem m_114 : Cond.methodLink RX2 3 objectInit ∈ wG := gw 240 (by decide +kernel) (by decide +kernel)
set_option maxRecDepth 100000 in
theorem m_115 : Cond.classLink RX2 9 RX3 ∈ wG := gw 241 (by decide +kernel) (by decide +kernel)
set_option maxRecDepth 100000 in
theorem m_116 : Cond.fieldLink RX2 11 "StrengthLayout$History" "saved" "[LStrengthLayout$Layout;" ∈ wG := gw 244 (by decide +kernel) (by decide +kernel)
set_option maxRecDepth 100000 in
theorem m_117 : Cond.instantiable RX3 4 ∈ wG := gw 103 (by decide +kernel) (by decide +kernel)
set_option maxRecDepth 100000 in
theorem m_118 : Cond.initialized RX3 ∈ wG := gw 77 (by decide +kernel) (by decide +kernel)
set_option maxRecDepth 100000 in
theorem m_119 : Cond.methodLink RX2 17 yX3_init ∈ wG := gw 243 (by decide +kernel) (by decide +kernel)
set_option maxRecDepth 100000 in
theorem m_120 : Cond.instanceMethod yX3_init ∈ wG := gw 105 (by decide +kernel) (by decide +kernel)
set_option maxRecDepth 100000 in
theorem m_121 : Cond.code yX2_init cX2_init 2 none ∈ wG := gw 239 (by decide +kernel) (by decide +kernel)
set_option maxRecDepth 100000 in
theorem m_122 : Cond.fieldLink RX5 27 "StrengthLayout$Rules" "size" "I" ∈ wG := gw 132 (by decide +kernel) (by decide +kernel)
set_option maxRecDepth 100000 in
theorem m_123 : Cond.code yX5_push cX5_push 6 none ∈ wG := gw 343 (by decide +kernel) (by decide +kernel)
set_option maxRecDepth 100000 in
theorem m_124 : Cond.methodLink RX5 31 yX5_push ∈ wG := gw 340 (by decide +kernel) (by decide +kernel)
set_option maxRecDepth 100000 in
theorem m_125 : Cond.instanceMethod yX5_push ∈ wG := gw 341 (by decide +kernel) (by decide +kernel)
set_option maxRecDepth 100000 in
theorem m_126 : Cond.selects RX5 yX5_push yX5_push ∈ wG := gw 342 (by decide +kernel) (by decide +kernel)
set_option maxRecDepth 100000 in
theorem m_127 : Cond.code yX5_pushRowOf cX5_pushRowOf 3 none ∈ wG := gw 339 (by decide +kernel) (by decide +kernel)
set_option maxRecDepth 100000 in
theorem m_128 : Cond.methodLink RX5 35 yX5_pushRowOf ∈ wG := gw 336 (by decide +kernel) (by decide +kernel)
set_option maxRecDepth 100000 in
theorem m_129 : Cond.instanceMethod yX5_pushRowOf ∈ wG := gw 337 (by decide +kernel) (by decide +kernel)
set_option maxRecDepth 100000 in
theorem m_130 : Cond.selects RX5 yX5_pushRowOf yX5_pushRowOf ∈ wG := gw 338 (by decide +kernel) (by decide +kernel)
set_option maxRecDepth 100000 in
theorem m_131 : Cond.code yX5_copyFrom cX5_copyFrom 3 none ∈ wG := gw 335 (by decide +kernel) (by decide +kernel)
set_option maxRecDepth 100000 in
theorem m_132 : Cond.methodLink RX3 28 yX5_copyFrom ∈ wG := gw 332 (by decide +kernel) (by decide +kernel)
set_option maxRecDepth 100000 in
theorem m_133 : Cond.instanceMethod yX5_copyFrom ∈ wG := gw 333 (by decide +kernel) (by decide +kernel)
set_option maxRecDepth 100000 in
theorem m_134 : Cond.selects RX5 yX5_copyFrom yX5_copyFrom ∈ wG := gw 334 (by decide +kernel) (by decide +kernel)
set_option maxRecDepth 100000 in
theorem m_135 : Cond.code yX3_copyFrom cX3_copyFrom 3 none ∈ wG := gw 331 (by decide +kernel) (by decide +kernel)
set_option maxRecDepth 100000 in
theorem m_136 : Cond.fieldLink RX2 18 "StrengthLayout$History" "next" "I" ∈ wG := gw 245 (by decide +kernel) (by decide +kernel)
set_option maxRecDepth 100000 in
theorem m_137 : Cond.fieldLink RX2 26 "StrengthLayout$History" "size" "I" ∈ wG := gw 246 (by decide +kernel) (by decide +kernel)
set_option maxRecDepth 100000 in
theorem m_138 : Cond.methodLink RX2 29 Lib.Math.min.name ∈ wG := gw 344 (by decide +kernel) (by decide +kernel)
set_option maxRecDepth 100000 in
theorem m_139 : Cond.methodLink RX2 22 yX3_copyFrom ∈ wG := gw 328 (by decide +kernel) (by decide +kernel)
set_option maxRecDepth 100000 in
theorem m_140 : Cond.instanceMethod yX3_copyFrom ∈ wG := gw 329 (by decide +kernel) (by decide +kernel)
set_option maxRecDepth 100000 in
theorem m_141 : Cond.selects RX3 yX3_copyFrom yX3_copyFrom ∈ wG := gw 330 (by decide +kernel) (by decide +kernel)
set_option maxRecDepth 100000 in
theorem m_142 : Cond.code yX2_save cX2_save 2 none ∈ wG := gw 327 (by decide +kernel) (by decide +kernel)
set_option maxRecDepth 100000 in
theorem m_143 : Cond.code yX2_restore cX2_restore 2 none ∈ wG := gw 809 (by decide +kernel) (by decide +kernel)
set_option maxRecDepth 100000 in
theorem m_144 : Cond.fieldLink RX3 32 "StrengthLayout$Rules" "size" "I" ∈ wG := gw 136 (by decide +kernel) (by decide +kernel)
set_option maxRecDepth 100000 in
theorem m_145 : Cond.fieldLink RX3 36 "StrengthLayout$Rules" "left" "[I" ∈ wG := gw 116 (by decide +kernel) (by decide +kernel)
set_option maxRecDepth 100000 in
theorem m_146 : Cond.code yX3_editOf cX3_editOf 3 (some .int) ∈ wG := gw 523 (by decide +kernel) (by decide +kernel)
set_option maxRecDepth 100000 in
theorem m_147 : Cond.fieldLink RX3 47 "StrengthLayout$Rules" "number" "[I" ∈ wG := gw 126 (by decide +kernel) (by decide +kernel)
set_option maxRecDepth 100000 in
theorem m_148 : Cond.fieldLink RX3 50 "StrengthLayout$Rules" "strength" "[I" ∈ wG := gw 131 (by decide +kernel) (by decide +kernel)
set_option maxRecDepth 100000 in
theorem m_149 : Cond.methodLink RX3 39 yX3_editOf ∈ wG := gw 767 (by decide +kernel) (by decide +kernel)
set_option maxRecDepth 100000 in
theorem m_150 : Cond.instanceMethod yX3_editOf ∈ wG := gw 521 (by decide +kernel) (by decide +kernel)
set_option maxRecDepth 100000 in
theorem m_151 : Cond.selects RX3 yX3_editOf yX3_editOf ∈ wG := gw 522 (by decide +kernel) (by decide +kernel)
set_option maxRecDepth 100000 in
theorem m_152 : Cond.methodLink RX3 43 yX5_push ∈ wG := gw 768 (by decide +kernel) (by decide +kernel)
set_option maxRecDepth 100000 in
theorem m_153 : Cond.code yX3_wishFor cX3_wishFor 5 none ∈ wG := gw 766 (by decide +kernel) (by decide +kernel)
set_option maxRecDepth 100000 in
theorem m_154 : Cond.fieldLink RX3 53 "StrengthLayout$Rules" "right" "[I" ∈ wG := gw 119 (by decide +kernel) (by decide +kernel)
set_option maxRecDepth 100000 in
theorem m_155 : Cond.methodLink RX3 56 yX5_canHold ∈ wG := gw 497 (by decide +kernel) (by decide +kernel)
set_option maxRecDepth 100000 in
theorem m_156 : Cond.code yX3_holds cX3_holds 4 (some .boolean) ∈ wG := gw 496 (by decide +kernel) (by decide +kernel)
set_option maxRecDepth 100000 in
theorem m_157 : Cond.fieldLink RX4 18 "StrengthLayout$Outcome" "filled" "I" ∈ wG := gw 200 (by decide +kernel) (by decide +kernel)
set_option maxRecDepth 100000 in
theorem m_158 : Cond.code yX4_filledOne cX4_filledOne 2 (some .int) ∈ wG := gw 535 (by decide +kernel) (by decide +kernel)
set_option maxRecDepth 100000 in
theorem m_159 : Cond.code yX5_drop cX5_drop 4 none ∈ wG := gw 727 (by decide +kernel) (by decide +kernel)
set_option maxRecDepth 100000 in
theorem m_160 : Cond.code yX5_rowsWith cX5_rowsWith 4 (some .int) ∈ wG := gw 519 (by decide +kernel) (by decide +kernel)
set_option maxRecDepth 100000 in
theorem m_161 : Cond.methodLink RX6 3 objectInit ∈ wG := gw 260 (by decide +kernel) (by decide +kernel)
set_option maxRecDepth 100000 in
theorem m_162 : Cond.classLink RX6 9 RX5 ∈ wG := gw 261 (by decide +kernel) (by decide +kernel)
set_option maxRecDepth 100000 in
theorem m_163 : Cond.fieldLink RX6 12 "StrengthLayout$TextReader" "read" "LStrengthLayout$Rules;" ∈ wG := gw 263 (by decide +kernel) (by decide +kernel)
set_option maxRecDepth 100000 in
theorem m_164 : Cond.code yX6_init cX6_init 1 none ∈ wG := gw 259 (by decide +kernel) (by decide +kernel)
set_option maxRecDepth 100000 in
theorem m_165 : Cond.fieldLink RX6 18 "StrengthLayout$Rules" "size" "I" ∈ wG := gw 133 (by decide +kernel) (by decide +kernel)
set_option maxRecDepth 100000 in
theorem m_166 : Cond.fieldLink RX6 22 "StrengthLayout$TextReader" "awaited" "I" ∈ wG := gw 265 (by decide +kernel) (by decide +kernel)
set_option maxRecDepth 100000 in
theorem m_167 : Cond.code yX6_begin cX6_begin 1 none ∈ wG := gw 403 (by decide +kernel) (by decide +kernel)
set_option maxRecDepth 100000 in
theorem m_168 : Cond.code yX7_isWithin cX7_isWithin 3 (some .boolean) ∈ wG := gw 417 (by decide +kernel) (by decide +kernel)
set_option maxRecDepth 100000 in
theorem m_169 : Cond.static yX7_isWithin ∈ wG := gw 416 (by decide +kernel) (by decide +kernel)
set_option maxRecDepth 100000 in
theorem m_170 : Cond.initialized RX7 ∈ wG := gw 76 (by decide +kernel) (by decide +kernel)
set_option maxRecDepth 100000 in
theorem m_171 : Cond.code yX6_isLetter cX6_isLetter 1 (some .boolean) ∈ wG := gw 414 (by decide +kernel) (by decide +kernel)
set_option maxRecDepth 100000 in
theorem m_172 : Cond.code yX6_goesOn cX6_goesOn 2 (some .boolean) ∈ wG := gw 421 (by decide +kernel) (by decide +kernel)
set_option maxRecDepth 100000 in
theorem m_173 : Cond.fieldLink RX6 57 "StrengthLayout$TextReader" "left" "I" ∈ wG := gw 266 (by decide +kernel) (by decide +kernel)
set_option maxRecDepth 100000 in
theorem m_174 : Cond.fieldLink RX6 60 "StrengthLayout$TextReader" "right" "I" ∈ wG := gw 267 (by decide +kernel) (by decide +kernel)
set_option maxRecDepth 100000 in
theorem m_175 : Cond.fieldLink RX6 63 "StrengthLayout$TextReader" "number" "I" ∈ wG := gw 269 (by decide +kernel) (by decide +kernel)
set_option maxRecDepth 100000 in
theorem m_176 : Cond.fieldLink RX6 66 "StrengthLayout$TextReader" "factor" "I" ∈ wG := gw 270 (by decide +kernel) (by decide +kernel)
set_option maxRecDepth 100000 in
theorem m_177 : Cond.fieldLink RX6 69 "StrengthLayout$TextReader" "strength" "I" ∈ wG := gw 271 (by decide +kernel) (by decide +kernel)
set_option maxRecDepth 100000 in
theorem m_178 : Cond.methodLink RX6 72 yX6_isLetter ∈ wG := gw 412 (by decide +kernel) (by decide +kernel)
set_option maxRecDepth 100000 in
theorem m_179 : Cond.static yX6_isLetter ∈ wG := gw 413 (by decide +kernel) (by decide +kernel)
set_option maxRecDepth 100000 in
theorem m_180 : Cond.initialized RX6 ∈ wG := gw 83 (by decide +kernel) (by decide +kernel)
set_option maxRecDepth 100000 in
theorem m_181 : Cond.methodLink RX6 29 yX6_goesOn ∈ wG := gw 418 (by decide +kernel) (by decide +kernel)
set_option maxRecDepth 100000 in
theorem m_182 : Cond.instanceMethod yX6_goesOn ∈ wG := gw 420 (by decide +kernel) (by decide +kernel)
set_option maxRecDepth 100000 in
theorem m_183 : Cond.selects RX6 yX6_goesOn yX6_goesOn ∈ wG := gw 4 (by decide +kernel) (by decide +kernel)
set_option maxRecDepth 100000 in
theorem m_184 : Cond.code yX6_readsLeft cX6_readsLeft 2 (some .boolean) ∈ wG := gw 411 (by decide +kernel) (by decide +kernel)
set_option maxRecDepth 100000 in
theorem m_185 : Cond.fieldLink RX6 75 "StrengthLayout$TextReader" "sign" "I" ∈ wG := gw 268 (by decide +kernel) (by decide +kernel)
set_option maxRecDepth 100000 in
theorem m_186 : Cond.code yX6_readsSign cX6_readsSign 2 (some .boolean) ∈ wG := gw 425 (by decide +kernel) (by decide +kernel)
set_option maxRecDepth 100000 in
theorem m_187 : Cond.code yX6_readsRight cX6_readsRight 2 (some .boolean) ∈ wG := gw 429 (by decide +kernel) (by decide +kernel)
set_option maxRecDepth 100000 in
theorem m_188 : Cond.code yX6_readsDigit cX6_readsDigit 3 (some .boolean) ∈ wG := gw 437 (by decide +kernel) (by decide +kernel)
set_option maxRecDepth 100000 in
theorem m_189 : Cond.methodLink RX6 41 yX6_readsDigit ∈ wG := gw 434 (by decide +kernel) (by decide +kernel)
set_option maxRecDepth 100000 in
theorem m_190 : Cond.instanceMethod yX6_readsDigit ∈ wG := gw 436 (by decide +kernel) (by decide +kernel)
set_option maxRecDepth 100000 in
theorem m_191 : Cond.selects RX6 yX6_readsDigit yX6_readsDigit ∈ wG := gw 8 (by decide +kernel) (by decide +kernel)
set_option maxRecDepth 100000 in
theorem m_192 : Cond.code yX6_readsNumber cX6_readsNumber 2 (some .boolean) ∈ wG := gw 433 (by decide +kernel) (by decide +kernel)
set_option maxRecDepth 100000 in
theorem m_193 : Cond.methodLink RX6 81 yX5_push ∈ wG := gw 446 (by decide +kernel) (by decide +kernel)
set_option maxRecDepth 100000 in
theorem m_194 : Cond.code yX6_readsConditionEnd cX6_readsConditionEnd 2 (some .boolean) ∈ wG := gw 445 (by decide +kernel) (by decide +kernel)
set_option maxRecDepth 100000 in
theorem m_195 : Cond.methodLink RX6 50 yX6_readsConditionEnd ∈ wG := gw 442 (by decide +kernel) (by decide +kernel)
set_option maxRecDepth 100000 in
theorem m_196 : Cond.instanceMethod yX6_readsConditionEnd ∈ wG := gw 444 (by decide +kernel) (by decide +kernel)
set_option maxRecDepth 100000 in
theorem m_197 : Cond.selects RX6 yX6_readsConditionEnd yX6_readsConditionEnd ∈ wG := gw 10 (by decide +kernel) (by decide +kernel)
set_option maxRecDepth 100000 in
theorem m_198 : Cond.code yX6_readsNumberEnd cX6_readsNumberEnd 2 (some .boolean) ∈ wG := gw 441 (by decide +kernel) (by decide +kernel)
set_option maxRecDepth 100000 in
theorem m_199 : Cond.methodLink RX7 58 yX7_isWithin ∈ wG := gw 454 (by decide +kernel) (by decide +kernel)
set_option maxRecDepth 100000 in
theorem m_200 : Cond.code yX7_isStrength cX7_isStrength 1 (some .boolean) ∈ wG := gw 453 (by decide +kernel) (by decide +kernel)
set_option maxRecDepth 100000 in
theorem m_201 : Cond.static yX7_isStrength ∈ wG := gw 452 (by decide +kernel) (by decide +kernel)
set_option maxRecDepth 100000 in
theorem m_202 : Cond.code yX6_readsStrength cX6_readsStrength 2 (some .boolean) ∈ wG := gw 450 (by decide +kernel) (by decide +kernel)
set_option maxRecDepth 100000 in
theorem m_203 : Cond.methodLink RX6 25 yX6_readsLeft ∈ wG := gw 408 (by decide +kernel) (by decide +kernel)
set_option maxRecDepth 100000 in
theorem m_204 : Cond.instanceMethod yX6_readsLeft ∈ wG := gw 410 (by decide +kernel) (by decide +kernel)
set_option maxRecDepth 100000 in
theorem m_205 : Cond.selects RX6 yX6_readsLeft yX6_readsLeft ∈ wG := gw 3 (by decide +kernel) (by decide +kernel)
set_option maxRecDepth 100000 in
theorem m_206 : Cond.methodLink RX6 32 yX6_readsSign ∈ wG := gw 422 (by decide +kernel) (by decide +kernel)
set_option maxRecDepth 100000 in
theorem m_207 : Cond.instanceMethod yX6_readsSign ∈ wG := gw 424 (by decide +kernel) (by decide +kernel)
set_option maxRecDepth 100000 in
theorem m_208 : Cond.selects RX6 yX6_readsSign yX6_readsSign ∈ wG := gw 5 (by decide +kernel) (by decide +kernel)
set_option maxRecDepth 100000 in
theorem m_209 : Cond.methodLink RX6 35 yX6_readsRight ∈ wG := gw 426 (by decide +kernel) (by decide +kernel)
set_option maxRecDepth 100000 in
theorem m_210 : Cond.instanceMethod yX6_readsRight ∈ wG := gw 428 (by decide +kernel) (by decide +kernel)
set_option maxRecDepth 100000 in
theorem m_211 : Cond.selects RX6 yX6_readsRight yX6_readsRight ∈ wG := gw 6 (by decide +kernel) (by decide +kernel)
set_option maxRecDepth 100000 in
theorem m_212 : Cond.methodLink RX6 38 yX6_readsNumber ∈ wG := gw 430 (by decide +kernel) (by decide +kernel)
set_option maxRecDepth 100000 in
theorem m_213 : Cond.instanceMethod yX6_readsNumber ∈ wG := gw 432 (by decide +kernel) (by decide +kernel)
set_option maxRecDepth 100000 in
theorem m_214 : Cond.selects RX6 yX6_readsNumber yX6_readsNumber ∈ wG := gw 7 (by decide +kernel) (by decide +kernel)
set_option maxRecDepth 100000 in
theorem m_215 : Cond.methodLink RX6 44 yX6_readsNumberEnd ∈ wG := gw 438 (by decide +kernel) (by decide +kernel)
set_option maxRecDepth 100000 in
theorem m_216 : Cond.instanceMethod yX6_readsNumberEnd ∈ wG := gw 440 (by decide +kernel) (by decide +kernel)
set_option maxRecDepth 100000 in
theorem m_217 : Cond.selects RX6 yX6_readsNumberEnd yX6_readsNumberEnd ∈ wG := gw 9 (by decide +kernel) (by decide +kernel)
set_option maxRecDepth 100000 in
theorem m_218 : Cond.methodLink RX6 47 yX6_readsStrength ∈ wG := gw 447 (by decide +kernel) (by decide +kernel)
set_option maxRecDepth 100000 in
theorem m_219 : Cond.instanceMethod yX6_readsStrength ∈ wG := gw 449 (by decide +kernel) (by decide +kernel)
set_option maxRecDepth 100000 in
theorem m_220 : Cond.selects RX6 yX6_readsStrength yX6_readsStrength ∈ wG := gw 11 (by decide +kernel) (by decide +kernel)
set_option maxRecDepth 100000 in
theorem m_221 : Cond.code yX6_reads cX6_reads 2 (some .boolean) ∈ wG := gw 407 (by decide +kernel) (by decide +kernel)
set_option maxRecDepth 100000 in
theorem m_222 : Cond.code yX6_ends cX6_ends 2 (some .boolean) ∈ wG := gw 797 (by decide +kernel) (by decide +kernel)
set_option maxRecDepth 100000 in
theorem m_223 : Cond.methodLink RX7 3 objectInit ∈ wG := gw 99 (by decide +kernel) (by decide +kernel)
set_option maxRecDepth 100000 in
theorem m_224 : Cond.classLink RX7 9 RX3 ∈ wG := gw 102 (by decide +kernel) (by decide +kernel)
set_option maxRecDepth 100000 in
theorem m_225 : Cond.fieldLink RX7 12 "StrengthLayout" "now" "LStrengthLayout$Layout;" ∈ wG := gw 289 (by decide +kernel) (by decide +kernel)
set_option maxRecDepth 100000 in
theorem m_226 : Cond.classLink RX7 16 RX1 ∈ wG := gw 172 (by decide +kernel) (by decide +kernel)
set_option maxRecDepth 100000 in
theorem m_227 : Cond.instantiable RX1 5 ∈ wG := gw 173 (by decide +kernel) (by decide +kernel)
set_option maxRecDepth 100000 in
theorem m_228 : Cond.fieldLink RX7 19 "StrengthLayout" "filling" "LStrengthLayout$Filling;" ∈ wG := gw 290 (by decide +kernel) (by decide +kernel)
set_option maxRecDepth 100000 in
theorem m_229 : Cond.classLink RX7 23 RX2 ∈ wG := gw 235 (by decide +kernel) (by decide +kernel)
set_option maxRecDepth 100000 in
theorem m_230 : Cond.instantiable RX2 3 ∈ wG := gw 236 (by decide +kernel) (by decide +kernel)
set_option maxRecDepth 100000 in
theorem m_231 : Cond.initialized RX2 ∈ wG := gw 82 (by decide +kernel) (by decide +kernel)
set_option maxRecDepth 100000 in
theorem m_232 : Cond.fieldLink RX7 26 "StrengthLayout" "history" "LStrengthLayout$History;" ∈ wG := gw 291 (by decide +kernel) (by decide +kernel)
set_option maxRecDepth 100000 in
theorem m_233 : Cond.fieldLink RX7 30 "StrengthLayout" "trial" "LStrengthLayout$Layout;" ∈ wG := gw 292 (by decide +kernel) (by decide +kernel)
set_option maxRecDepth 100000 in
theorem m_234 : Cond.fieldLink RX7 33 "StrengthLayout" "trialFilling" "LStrengthLayout$Filling;" ∈ wG := gw 293 (by decide +kernel) (by decide +kernel)
set_option maxRecDepth 100000 in
theorem m_235 : Cond.fieldLink RX7 36 "StrengthLayout" "filledWithout" "[I" ∈ wG := gw 294 (by decide +kernel) (by decide +kernel)
set_option maxRecDepth 100000 in
theorem m_236 : Cond.fieldLink RX7 40 "StrengthLayout" "buffer" "[I" ∈ wG := gw 296 (by decide +kernel) (by decide +kernel)
set_option maxRecDepth 100000 in
theorem m_237 : Cond.classLink RX7 43 RX6 ∈ wG := gw 255 (by decide +kernel) (by decide +kernel)
set_option maxRecDepth 100000 in
theorem m_238 : Cond.instantiable RX6 8 ∈ wG := gw 256 (by decide +kernel) (by decide +kernel)
set_option maxRecDepth 100000 in
theorem m_239 : Cond.fieldLink RX7 46 "StrengthLayout" "reader" "LStrengthLayout$TextReader;" ∈ wG := gw 298 (by decide +kernel) (by decide +kernel)
set_option maxRecDepth 100000 in
theorem m_240 : Cond.methodLink RX7 11 yX3_init ∈ wG := gw 104 (by decide +kernel) (by decide +kernel)
set_option maxRecDepth 100000 in
theorem m_241 : Cond.instanceMethod yX1_init ∈ wG := gw 175 (by decide +kernel) (by decide +kernel)
set_option maxRecDepth 100000 in
theorem m_242 : Cond.methodLink RX7 25 yX2_init ∈ wG := gw 237 (by decide +kernel) (by decide +kernel)
set_option maxRecDepth 100000 in
theorem m_243 : Cond.instanceMethod yX2_init ∈ wG := gw 238 (by decide +kernel) (by decide +kernel)
set_option maxRecDepth 100000 in
theorem m_244 : Cond.instanceMethod yX6_init ∈ wG := gw 258 (by decide +kernel) (by decide +kernel)
set_option maxRecDepth 100000 in
theorem m_245 : Cond.code yX7_init cX7_init 1 none ∈ wG := gw 98 (by decide +kernel) (by decide +kernel)
set_option maxRecDepth 100000 in
theorem m_246 : Cond.code yX7_isPlace cX7_isPlace 1 (some .boolean) ∈ wG := gw 578 (by decide +kernel) (by decide +kernel)
set_option maxRecDepth 100000 in
theorem m_247 : Cond.classLink RX7 246 "java/lang/IndexOutOfBoundsException" ∈ wG := gw 582 (by decide +kernel) (by decide +kernel)
set_option maxRecDepth 100000 in
theorem m_248 : Cond.initialized "java/lang/IndexOutOfBoundsException" ∈ wG := gw 88 (by decide +kernel) (by decide +kernel)
set_option maxRecDepth 100000 in
theorem m_249 : Cond.code yX7_needIndex cX7_needIndex 1 none ∈ wG := gw 581 (by decide +kernel) (by decide +kernel)
set_option maxRecDepth 100000 in
theorem m_250 : Cond.code yX7_isNumber cX7_isNumber 1 (some .boolean) ∈ wG := gw 652 (by decide +kernel) (by decide +kernel)
set_option maxRecDepth 100000 in
theorem m_251 : Cond.classLink RX7 253 "java/lang/IllegalArgumentException" ∈ wG := gw 657 (by decide +kernel) (by decide +kernel)
set_option maxRecDepth 100000 in
theorem m_252 : Cond.initialized "java/lang/IllegalArgumentException" ∈ wG := gw 89 (by decide +kernel) (by decide +kernel)
set_option maxRecDepth 100000 in
theorem m_253 : Cond.code yX7_needArgument cX7_needArgument 1 none ∈ wG := gw 656 (by decide +kernel) (by decide +kernel)
set_option maxRecDepth 100000 in
theorem m_254 : Cond.classLink RX7 258 "java/lang/IllegalStateException" ∈ wG := gw 676 (by decide +kernel) (by decide +kernel)
set_option maxRecDepth 100000 in
theorem m_255 : Cond.initialized "java/lang/IllegalStateException" ∈ wG := gw 90 (by decide +kernel) (by decide +kernel)
set_option maxRecDepth 100000 in
theorem m_256 : Cond.code yX7_needState cX7_needState 1 none ∈ wG := gw 675 (by decide +kernel) (by decide +kernel)
set_option maxRecDepth 100000 in
theorem m_257 : Cond.fieldLink RX7 263 "StrengthLayout" "knowsWithout" "Z" ∈ wG := gw 295 (by decide +kernel) (by decide +kernel)
set_option maxRecDepth 100000 in
theorem m_258 : Cond.methodLink RX7 197 yX1_fill ∈ wG := gw 351 (by decide +kernel) (by decide +kernel)
set_option maxRecDepth 100000 in
theorem m_259 : Cond.instanceMethod yX1_fill ∈ wG := gw 352 (by decide +kernel) (by decide +kernel)
set_option maxRecDepth 100000 in
theorem m_260 : Cond.selects RX1 yX1_fill yX1_fill ∈ wG := gw 353 (by decide +kernel) (by decide +kernel)
set_option maxRecDepth 100000 in
theorem m_261 : Cond.code yX7_fillAnew cX7_fillAnew 1 none ∈ wG := gw 350 (by decide +kernel) (by decide +kernel)
set_option maxRecDepth 100000 in
theorem m_262 : Cond.methodLink RX7 141 yX7_fillAnew ∈ wG := gw 347 (by decide +kernel) (by decide +kernel)
set_option maxRecDepth 100000 in
theorem m_263 : Cond.instanceMethod yX7_fillAnew ∈ wG := gw 349 (by decide +kernel) (by decide +kernel)
set_option maxRecDepth 100000 in
theorem m_264 : Cond.selects RX7 yX7_fillAnew yX7_fillAnew ∈ wG := gw 0 (by decide +kernel) (by decide +kernel)
set_option maxRecDepth 100000 in
theorem m_265 : Cond.methodLink RX7 201 yX1_settle ∈ wG := gw 697 (by decide +kernel) (by decide +kernel)
set_option maxRecDepth 100000 in
theorem m_266 : Cond.instanceMethod yX1_settle ∈ wG := gw 698 (by decide +kernel) (by decide +kernel)
set_option maxRecDepth 100000 in
theorem m_267 : Cond.selects RX1 yX1_settle yX1_settle ∈ wG := gw 699 (by decide +kernel) (by decide +kernel)
set_option maxRecDepth 100000 in
theorem m_268 : Cond.code yX7_fillAndSettle cX7_fillAndSettle 1 none ∈ wG := gw 696 (by decide +kernel) (by decide +kernel)
set_option maxRecDepth 100000 in
theorem m_269 : Cond.fieldLink RX7 71 "StrengthLayout$Layout" "conditions" "LStrengthLayout$Rules;" ∈ wG := gw 158 (by decide +kernel) (by decide +kernel)
set_option maxRecDepth 100000 in
theorem m_270 : Cond.fieldLink RX7 75 "StrengthLayout$Rules" "size" "I" ∈ wG := gw 135 (by decide +kernel) (by decide +kernel)
set_option maxRecDepth 100000 in
theorem m_271 : Cond.methodLink RX7 50 yX7_isPlace ∈ wG := gw 576 (by decide +kernel) (by decide +kernel)
set_option maxRecDepth 100000 in
theorem m_272 : Cond.static yX7_isPlace ∈ wG := gw 577 (by decide +kernel) (by decide +kernel)
set_option maxRecDepth 100000 in
theorem m_273 : Cond.methodLink RX7 54 yX7_needIndex ∈ wG := gw 579 (by decide +kernel) (by decide +kernel)
set_option maxRecDepth 100000 in
theorem m_274 : Cond.static yX7_needIndex ∈ wG := gw 580 (by decide +kernel) (by decide +kernel)
set_option maxRecDepth 100000 in
theorem m_275 : Cond.methodLink RX7 62 yX7_isNumber ∈ wG := gw 650 (by decide +kernel) (by decide +kernel)
set_option maxRecDepth 100000 in
theorem m_276 : Cond.static yX7_isNumber ∈ wG := gw 651 (by decide +kernel) (by decide +kernel)
set_option maxRecDepth 100000 in
theorem m_277 : Cond.methodLink RX7 65 yX7_isStrength ∈ wG := gw 653 (by decide +kernel) (by decide +kernel)
set_option maxRecDepth 100000 in
theorem m_278 : Cond.methodLink RX7 68 yX7_needArgument ∈ wG := gw 654 (by decide +kernel) (by decide +kernel)
set_option maxRecDepth 100000 in
theorem m_279 : Cond.static yX7_needArgument ∈ wG := gw 655 (by decide +kernel) (by decide +kernel)
set_option maxRecDepth 100000 in
theorem m_280 : Cond.methodLink RX7 81 yX7_needState ∈ wG := gw 673 (by decide +kernel) (by decide +kernel)
set_option maxRecDepth 100000 in
theorem m_281 : Cond.static yX7_needState ∈ wG := gw 674 (by decide +kernel) (by decide +kernel)
set_option maxRecDepth 100000 in
theorem m_282 : Cond.methodLink RX7 84 yX2_save ∈ wG := gw 324 (by decide +kernel) (by decide +kernel)
set_option maxRecDepth 100000 in
theorem m_283 : Cond.instanceMethod yX2_save ∈ wG := gw 325 (by decide +kernel) (by decide +kernel)
set_option maxRecDepth 100000 in
theorem m_284 : Cond.selects RX2 yX2_save yX2_save ∈ wG := gw 326 (by decide +kernel) (by decide +kernel)
set_option maxRecDepth 100000 in
theorem m_285 : Cond.methodLink RX7 88 yX5_push ∈ wG := gw 692 (by decide +kernel) (by decide +kernel)
set_option maxRecDepth 100000 in
theorem m_286 : Cond.methodLink RX7 92 yX7_fillAndSettle ∈ wG := gw 693 (by decide +kernel) (by decide +kernel)
set_option maxRecDepth 100000 in
theorem m_287 : Cond.instanceMethod yX7_fillAndSettle ∈ wG := gw 695 (by decide +kernel) (by decide +kernel)
set_option maxRecDepth 100000 in
theorem m_288 : Cond.selects RX7 yX7_fillAndSettle yX7_fillAndSettle ∈ wG := gw 28 (by decide +kernel) (by decide +kernel)
set_option maxRecDepth 100000 in
theorem m_289 : Cond.code yX7_add cX7_add 6 (some .int) ∈ wG := gw 575 (by decide +kernel) (by decide +kernel)
set_option maxRecDepth 100000 in
theorem m_290 : Cond.code yX7_isCondition cX7_isCondition 2 (some .boolean) ∈ wG := gw 723 (by decide +kernel) (by decide +kernel)
set_option maxRecDepth 100000 in
theorem m_291 : Cond.fieldLink RX7 98 "StrengthLayout$Filling" "ofConditions" "LStrengthLayout$Outcome;" ∈ wG := gw 219 (by decide +kernel) (by decide +kernel)
set_option maxRecDepth 100000 in
theorem m_292 : Cond.methodLink RX7 95 yX7_isCondition ∈ wG := gw 720 (by decide +kernel) (by decide +kernel)
set_option maxRecDepth 100000 in
theorem m_293 : Cond.instanceMethod yX7_isCondition ∈ wG := gw 722 (by decide +kernel) (by decide +kernel)
set_option maxRecDepth 100000 in
theorem m_294 : Cond.selects RX7 yX7_isCondition yX7_isCondition ∈ wG := gw 30 (by decide +kernel) (by decide +kernel)
set_option maxRecDepth 100000 in
theorem m_295 : Cond.methodLink RX7 102 yX4_filledOne ∈ wG := gw 532 (by decide +kernel) (by decide +kernel)
set_option maxRecDepth 100000 in
theorem m_296 : Cond.instanceMethod yX4_filledOne ∈ wG := gw 533 (by decide +kernel) (by decide +kernel)
set_option maxRecDepth 100000 in
theorem m_297 : Cond.selects RX4 yX4_filledOne yX4_filledOne ∈ wG := gw 534 (by decide +kernel) (by decide +kernel)
set_option maxRecDepth 100000 in
theorem m_298 : Cond.methodLink RX7 108 yX5_drop ∈ wG := gw 724 (by decide +kernel) (by decide +kernel)
set_option maxRecDepth 100000 in
theorem m_299 : Cond.instanceMethod yX5_drop ∈ wG := gw 725 (by decide +kernel) (by decide +kernel)
set_option maxRecDepth 100000 in
theorem m_300 : Cond.selects RX5 yX5_drop yX5_drop ∈ wG := gw 726 (by decide +kernel) (by decide +kernel)
set_option maxRecDepth 100000 in
theorem m_301 : Cond.code yX7_remove cX7_remove 3 (some .int) ∈ wG := gw 719 (by decide +kernel) (by decide +kernel)
set_option maxRecDepth 100000 in
theorem m_302 : Cond.code yX7_change cX7_change 5 (some .int) ∈ wG := gw 738 (by decide +kernel) (by decide +kernel)
set_option maxRecDepth 100000 in
theorem m_303 : Cond.fieldLink RX7 112 "StrengthLayout$Rules" "strength" "[I" ∈ wG := gw 130 (by decide +kernel) (by decide +kernel)
set_option maxRecDepth 100000 in
theorem m_304 : Cond.methodLink RX7 115 yX7_change ∈ wG := gw 735 (by decide +kernel) (by decide +kernel)
set_option maxRecDepth 100000 in
theorem m_305 : Cond.instanceMethod yX7_change ∈ wG := gw 737 (by decide +kernel) (by decide +kernel)
set_option maxRecDepth 100000 in
theorem m_306 : Cond.selects RX7 yX7_change yX7_change ∈ wG := gw 31 (by decide +kernel) (by decide +kernel)
set_option maxRecDepth 100000 in
theorem m_307 : Cond.code yX7_setStrength cX7_setStrength 3 (some .int) ∈ wG := gw 734 (by decide +kernel) (by decide +kernel)
set_option maxRecDepth 100000 in
theorem m_308 : Cond.fieldLink RX7 119 "StrengthLayout$Rules" "number" "[I" ∈ wG := gw 127 (by decide +kernel) (by decide +kernel)
set_option maxRecDepth 100000 in
theorem m_309 : Cond.code yX7_setNumber cX7_setNumber 3 (some .int) ∈ wG := gw 745 (by decide +kernel) (by decide +kernel)
set_option maxRecDepth 100000 in
theorem m_310 : Cond.fieldLink RX7 122 "StrengthLayout$Layout" "stays" "[I" ∈ wG := gw 156 (by decide +kernel) (by decide +kernel)
set_option maxRecDepth 100000 in
theorem m_311 : Cond.code yX7_setStay cX7_setStay 3 (some .int) ∈ wG := gw 752 (by decide +kernel) (by decide +kernel)
set_option maxRecDepth 100000 in
theorem m_312 : Cond.code yX7_isValue cX7_isValue 1 (some .boolean) ∈ wG := gw 762 (by decide +kernel) (by decide +kernel)
set_option maxRecDepth 100000 in
theorem m_313 : Cond.fieldLink RX7 131 "StrengthLayout$Layout" "edits" "LStrengthLayout$Rules;" ∈ wG := gw 162 (by decide +kernel) (by decide +kernel)
set_option maxRecDepth 100000 in
theorem m_314 : Cond.fieldLink RX7 138 "StrengthLayout$Layout" "values" "[I" ∈ wG := gw 153 (by decide +kernel) (by decide +kernel)
set_option maxRecDepth 100000 in
theorem m_315 : Cond.methodLink RX7 125 yX7_isValue ∈ wG := gw 760 (by decide +kernel) (by decide +kernel)
set_option maxRecDepth 100000 in
theorem m_316 : Cond.static yX7_isValue ∈ wG := gw 761 (by decide +kernel) (by decide +kernel)
set_option maxRecDepth 100000 in
theorem m_317 : Cond.methodLink RX7 128 yX3_editOf ∈ wG := gw 520 (by decide +kernel) (by decide +kernel)
set_option maxRecDepth 100000 in
theorem m_318 : Cond.methodLink RX7 134 yX3_wishFor ∈ wG := gw 763 (by decide +kernel) (by decide +kernel)
set_option maxRecDepth 100000 in
theorem m_319 : Cond.instanceMethod yX3_wishFor ∈ wG := gw 764 (by decide +kernel) (by decide +kernel)
set_option maxRecDepth 100000 in
theorem m_320 : Cond.selects RX3 yX3_wishFor yX3_wishFor ∈ wG := gw 765 (by decide +kernel) (by decide +kernel)
set_option maxRecDepth 100000 in
theorem m_321 : Cond.code yX7_edit cX7_edit 4 (some .int) ∈ wG := gw 759 (by decide +kernel) (by decide +kernel)
set_option maxRecDepth 100000 in
theorem m_322 : Cond.code yX7_endEdits cX7_endEdits 2 (some .int) ∈ wG := gw 323 (by decide +kernel) (by decide +kernel)
set_option maxRecDepth 100000 in
theorem m_323 : Cond.code yX7_placesNotAt cX7_placesNotAt 4 (some .int) ∈ wG := gw 779 (by decide +kernel) (by decide +kernel)
set_option maxRecDepth 100000 in
theorem m_324 : Cond.methodLink RX7 144 yX7_placesNotAt ∈ wG := gw 776 (by decide +kernel) (by decide +kernel)
set_option maxRecDepth 100000 in
theorem m_325 : Cond.instanceMethod yX7_placesNotAt ∈ wG := gw 778 (by decide +kernel) (by decide +kernel)
set_option maxRecDepth 100000 in
theorem m_326 : Cond.selects RX7 yX7_placesNotAt yX7_placesNotAt ∈ wG := gw 32 (by decide +kernel) (by decide +kernel)
set_option maxRecDepth 100000 in
theorem m_327 : Cond.code yX7_settleFrom cX7_settleFrom 3 (some .int) ∈ wG := gw 775 (by decide +kernel) (by decide +kernel)
set_option maxRecDepth 100000 in
theorem m_328 : Cond.fieldLink RX7 147 "StrengthLayout" "length" "I" ∈ wG := gw 297 (by decide +kernel) (by decide +kernel)
set_option maxRecDepth 100000 in
theorem m_329 : Cond.code yX7_append cX7_append 2 (some .int) ∈ wG := gw 786 (by decide +kernel) (by decide +kernel)
set_option maxRecDepth 100000 in
theorem m_330 : Cond.code yX7_clearBuffer cX7_clearBuffer 2 (some .int) ∈ wG := gw 391 (by decide +kernel) (by decide +kernel)
set_option maxRecDepth 100000 in
theorem m_331 : Cond.methodLink RX7 270 yX6_begin ∈ wG := gw 400 (by decide +kernel) (by decide +kernel)
set_option maxRecDepth 100000 in
theorem m_332 : Cond.instanceMethod yX6_begin ∈ wG := gw 401 (by decide +kernel) (by decide +kernel)
set_option maxRecDepth 100000 in
theorem m_333 : Cond.selects RX6 yX6_begin yX6_begin ∈ wG := gw 402 (by decide +kernel) (by decide +kernel)
set_option maxRecDepth 100000 in
theorem m_334 : Cond.methodLink RX7 273 yX6_reads ∈ wG := gw 404 (by decide +kernel) (by decide +kernel)
set_option maxRecDepth 100000 in
theorem m_335 : Cond.instanceMethod yX6_reads ∈ wG := gw 405 (by decide +kernel) (by decide +kernel)
set_option maxRecDepth 100000 in
theorem m_336 : Cond.selects RX6 yX6_reads yX6_reads ∈ wG := gw 406 (by decide +kernel) (by decide +kernel)
set_option maxRecDepth 100000 in
theorem m_337 : Cond.code yX7_readBuffer cX7_readBuffer 2 (some .int) ∈ wG := gw 399 (by decide +kernel) (by decide +kernel)
set_option maxRecDepth 100000 in
theorem m_338 : Cond.methodLink RX7 150 yX7_readBuffer ∈ wG := gw 396 (by decide +kernel) (by decide +kernel)
set_option maxRecDepth 100000 in
theorem m_339 : Cond.instanceMethod yX7_readBuffer ∈ wG := gw 398 (by decide +kernel) (by decide +kernel)
set_option maxRecDepth 100000 in
theorem m_340 : Cond.selects RX7 yX7_readBuffer yX7_readBuffer ∈ wG := gw 2 (by decide +kernel) (by decide +kernel)
set_option maxRecDepth 100000 in
theorem m_341 : Cond.code yX7_firstError cX7_firstError 1 (some .int) ∈ wG := gw 395 (by decide +kernel) (by decide +kernel)
set_option maxRecDepth 100000 in
theorem m_342 : Cond.fieldLink RX7 158 "StrengthLayout$TextReader" "read" "LStrengthLayout$Rules;" ∈ wG := gw 264 (by decide +kernel) (by decide +kernel)
set_option maxRecDepth 100000 in
theorem m_343 : Cond.methodLink RX7 154 yX6_ends ∈ wG := gw 794 (by decide +kernel) (by decide +kernel)
set_option maxRecDepth 100000 in
theorem m_344 : Cond.instanceMethod yX6_ends ∈ wG := gw 795 (by decide +kernel) (by decide +kernel)
set_option maxRecDepth 100000 in
theorem m_345 : Cond.selects RX6 yX6_ends yX6_ends ∈ wG := gw 796 (by decide +kernel) (by decide +kernel)
set_option maxRecDepth 100000 in
theorem m_346 : Cond.methodLink RX7 161 yX5_pushRowOf ∈ wG := gw 798 (by decide +kernel) (by decide +kernel)
set_option maxRecDepth 100000 in
theorem m_347 : Cond.code yX7_load cX7_load 2 (some .int) ∈ wG := gw 793 (by decide +kernel) (by decide +kernel)
set_option maxRecDepth 100000 in
theorem m_348 : Cond.fieldLink RX7 165 "StrengthLayout$History" "size" "I" ∈ wG := gw 247 (by decide +kernel) (by decide +kernel)
set_option maxRecDepth 100000 in
theorem m_349 : Cond.methodLink RX7 166 yX2_restore ∈ wG := gw 806 (by decide +kernel) (by decide +kernel)
set_option maxRecDepth 100000 in
theorem m_350 : Cond.instanceMethod yX2_restore ∈ wG := gw 807 (by decide +kernel) (by decide +kernel)
set_option maxRecDepth 100000 in
theorem m_351 : Cond.selects RX2 yX2_restore yX2_restore ∈ wG := gw 808 (by decide +kernel) (by decide +kernel)
set_option maxRecDepth 100000 in
theorem m_352 : Cond.code yX7_undo cX7_undo 1 (some .int) ∈ wG := gw 805 (by decide +kernel) (by decide +kernel)
set_option maxRecDepth 100000 in
theorem m_353 : Cond.fieldLink RX7 182 "StrengthLayout$Filling" "bounds" "LStrengthLayout$Bounds;" ∈ wG := gw 217 (by decide +kernel) (by decide +kernel)
set_option maxRecDepth 100000 in
theorem m_354 : Cond.methodLink RX7 276 yX0_least ∈ wG := gw 514 (by decide +kernel) (by decide +kernel)
set_option maxRecDepth 100000 in
theorem m_355 : Cond.methodLink RX7 186 yX0_greatest ∈ wG := gw 515 (by decide +kernel) (by decide +kernel)
set_option maxRecDepth 100000 in
theorem m_356 : Cond.methodLink RX7 279 yX5_rowsWith ∈ wG := gw 516 (by decide +kernel) (by decide +kernel)
set_option maxRecDepth 100000 in
theorem m_357 : Cond.instanceMethod yX5_rowsWith ∈ wG := gw 517 (by decide +kernel) (by decide +kernel)
set_option maxRecDepth 100000 in
theorem m_358 : Cond.selects RX5 yX5_rowsWith yX5_rowsWith ∈ wG := gw 518 (by decide +kernel) (by decide +kernel)
set_option maxRecDepth 100000 in
theorem m_359 : Cond.code yX7_placeProperty cX7_placeProperty 3 (some .int) ∈ wG := gw 513 (by decide +kernel) (by decide +kernel)
set_option maxRecDepth 100000 in
theorem m_360 : Cond.methodLink RX7 169 yX7_placeProperty ∈ wG := gw 510 (by decide +kernel) (by decide +kernel)
set_option maxRecDepth 100000 in
theorem m_361 : Cond.instanceMethod yX7_placeProperty ∈ wG := gw 512 (by decide +kernel) (by decide +kernel)
set_option maxRecDepth 100000 in
theorem m_362 : Cond.selects RX7 yX7_placeProperty yX7_placeProperty ∈ wG := gw 18 (by decide +kernel) (by decide +kernel)
set_option maxRecDepth 100000 in
theorem m_363 : Cond.code yX7_place cX7_place 3 (some .int) ∈ wG := gw 816 (by decide +kernel) (by decide +kernel)
set_option maxRecDepth 100000 in
theorem m_364 : Cond.fieldLink RX7 267 "StrengthLayout$Outcome" "filled" "I" ∈ wG := gw 202 (by decide +kernel) (by decide +kernel)
set_option maxRecDepth 100000 in
theorem m_365 : Cond.code yX7_knowWithout cX7_knowWithout 2 none ∈ wG := gw 473 (by decide +kernel) (by decide +kernel)
set_option maxRecDepth 100000 in
theorem m_366 : Cond.fieldLink RX7 294 "StrengthLayout$Outcome" "turn" "[I" ∈ wG := gw 208 (by decide +kernel) (by decide +kernel)
set_option maxRecDepth 100000 in
theorem m_367 : Cond.code yX7_culpritsOf cX7_culpritsOf 6 (some .int) ∈ wG := gw 539 (by decide +kernel) (by decide +kernel)
set_option maxRecDepth 100000 in
theorem m_368 : Cond.fieldLink RX7 282 "StrengthLayout$Rules" "left" "[I" ∈ wG := gw 117 (by decide +kernel) (by decide +kernel)
set_option maxRecDepth 100000 in
theorem m_369 : Cond.fieldLink RX7 285 "StrengthLayout$Rules" "right" "[I" ∈ wG := gw 120 (by decide +kernel) (by decide +kernel)
set_option maxRecDepth 100000 in
theorem m_370 : Cond.fieldLink RX7 288 "StrengthLayout$Rules" "sign" "[I" ∈ wG := gw 123 (by decide +kernel) (by decide +kernel)
set_option maxRecDepth 100000 in
theorem m_371 : Cond.fieldLink RX7 291 "StrengthLayout$Outcome" "margin" "[I" ∈ wG := gw 205 (by decide +kernel) (by decide +kernel)
set_option maxRecDepth 100000 in
theorem m_372 : Cond.methodLink RX7 297 yX7_culpritsOf ∈ wG := gw 536 (by decide +kernel) (by decide +kernel)
set_option maxRecDepth 100000 in
theorem m_373 : Cond.instanceMethod yX7_culpritsOf ∈ wG := gw 538 (by decide +kernel) (by decide +kernel)
set_option maxRecDepth 100000 in
theorem m_374 : Cond.selects RX7 yX7_culpritsOf yX7_culpritsOf ∈ wG := gw 21 (by decide +kernel) (by decide +kernel)
set_option maxRecDepth 100000 in
theorem m_375 : Cond.methodLink RX7 300 yX3_holds ∈ wG := gw 493 (by decide +kernel) (by decide +kernel)
set_option maxRecDepth 100000 in
theorem m_376 : Cond.instanceMethod yX3_holds ∈ wG := gw 494 (by decide +kernel) (by decide +kernel)
set_option maxRecDepth 100000 in
theorem m_377 : Cond.selects RX3 yX3_holds yX3_holds ∈ wG := gw 495 (by decide +kernel) (by decide +kernel)
set_option maxRecDepth 100000 in
theorem m_378 : Cond.code yX7_conditionProperty cX7_conditionProperty 3 (some .int) ∈ wG := gw 531 (by decide +kernel) (by decide +kernel)
set_option maxRecDepth 100000 in
theorem m_379 : Cond.methodLink RX7 173 yX7_knowWithout ∈ wG := gw 470 (by decide +kernel) (by decide +kernel)
set_option maxRecDepth 100000 in
theorem m_380 : Cond.instanceMethod yX7_knowWithout ∈ wG := gw 472 (by decide +kernel) (by decide +kernel)
set_option maxRecDepth 100000 in
theorem m_381 : Cond.selects RX7 yX7_knowWithout yX7_knowWithout ∈ wG := gw 12 (by decide +kernel) (by decide +kernel)
set_option maxRecDepth 100000 in
theorem m_382 : Cond.methodLink RX7 176 yX7_conditionProperty ∈ wG := gw 528 (by decide +kernel) (by decide +kernel)
set_option maxRecDepth 100000 in
theorem m_383 : Cond.instanceMethod yX7_conditionProperty ∈ wG := gw 530 (by decide +kernel) (by decide +kernel)
set_option maxRecDepth 100000 in
theorem m_384 : Cond.selects RX7 yX7_conditionProperty yX7_conditionProperty ∈ wG := gw 20 (by decide +kernel) (by decide +kernel)
set_option maxRecDepth 100000 in
theorem m_385 : Cond.code yX7_condition cX7_condition 3 (some .int) ∈ wG := gw 823 (by decide +kernel) (by decide +kernel)
set_option maxRecDepth 100000 in
theorem m_386 : Cond.fieldLink RX7 303 "StrengthLayout$Filling" "ofEdits" "LStrengthLayout$Outcome;" ∈ wG := gw 221 (by decide +kernel) (by decide +kernel)
set_option maxRecDepth 100000 in
theorem m_387 : Cond.code yX7_editProperty cX7_editProperty 3 (some .int) ∈ wG := gw 552 (by decide +kernel) (by decide +kernel)
set_option maxRecDepth 100000 in
theorem m_388 : Cond.methodLink RX7 179 yX7_editProperty ∈ wG := gw 549 (by decide +kernel) (by decide +kernel)
set_option maxRecDepth 100000 in
theorem m_389 : Cond.instanceMethod yX7_editProperty ∈ wG := gw 551 (by decide +kernel) (by decide +kernel)
set_option maxRecDepth 100000 in
theorem m_390 : Cond.selects RX7 yX7_editProperty yX7_editProperty ∈ wG := gw 24 (by decide +kernel) (by decide +kernel)
set_option maxRecDepth 100000 in
theorem m_391 : Cond.code yX7_edited cX7_edited 3 (some .int) ∈ wG := gw 830 (by decide +kernel) (by decide +kernel)
set_option maxRecDepth 100000 in
theorem m_392 : Cond.code yX7_widest cX7_widest 3 (some .int) ∈ wG := gw 837 (by decide +kernel) (by decide +kernel)
set_option maxRecDepth 100000 in
theorem m_393 : Cond.constant RJ6 265 (1431655765) ∈ wG := gw 482 (by decide +kernel) (by decide +kernel)
set_option maxRecDepth 100000 in
theorem m_394 : Cond.constant RJ6 266 (858993459) ∈ wG := gw 483 (by decide +kernel) (by decide +kernel)
set_option maxRecDepth 100000 in
theorem m_395 : Cond.constant RJ6 267 (252645135) ∈ wG := gw 484 (by decide +kernel) (by decide +kernel)
set_option maxRecDepth 100000 in
theorem m_396 : Cond.code yJ6_bitCount_0f7a4 cJ6_bitCount_0f7a4 1 (some .int) ∈ wG := gw 481 (by decide +kernel) (by decide +kernel)
set_option maxRecDepth 100000 in
theorem m_397 : Cond.methodLink RX7 212 yX0_width ∈ wG := gw 459 (by decide +kernel) (by decide +kernel)
set_option maxRecDepth 100000 in
theorem m_398 : Cond.instanceMethod yX0_width ∈ wG := gw 460 (by decide +kernel) (by decide +kernel)
set_option maxRecDepth 100000 in
theorem m_399 : Cond.selects RX0 yX0_width yX0_width ∈ wG := gw 461 (by decide +kernel) (by decide +kernel)
set_option maxRecDepth 100000 in
theorem m_400 : Cond.code yX7_fixedPlaces cX7_fixedPlaces 3 (some .int) ∈ wG := gw 488 (by decide +kernel) (by decide +kernel)
set_option maxRecDepth 100000 in
theorem m_401 : Cond.code yX7_conditionsThatHold cX7_conditionsThatHold 3 (some .int) ∈ wG := gw 492 (by decide +kernel) (by decide +kernel)
set_option maxRecDepth 100000 in
theorem m_402 : Cond.code yX7_sumOfValues cX7_sumOfValues 3 (some .int) ∈ wG := gw 501 (by decide +kernel) (by decide +kernel)
set_option maxRecDepth 100000 in
theorem m_403 : Cond.methodLink RX7 204 yJ6_bitCount_0f7a4 ∈ wG := gw 479 (by decide +kernel) (by decide +kernel)
set_option maxRecDepth 100000 in
theorem m_404 : Cond.static yJ6_bitCount_0f7a4 ∈ wG := gw 480 (by decide +kernel) (by decide +kernel)
set_option maxRecDepth 100000 in
theorem m_405 : Cond.initialized RJ6 ∈ wG := gw 92 (by decide +kernel) (by decide +kernel)
set_option maxRecDepth 100000 in
theorem m_406 : Cond.methodLink RX7 306 yX7_fixedPlaces ∈ wG := gw 485 (by decide +kernel) (by decide +kernel)
set_option maxRecDepth 100000 in
theorem m_407 : Cond.instanceMethod yX7_fixedPlaces ∈ wG := gw 487 (by decide +kernel) (by decide +kernel)
set_option maxRecDepth 100000 in
theorem m_408 : Cond.selects RX7 yX7_fixedPlaces yX7_fixedPlaces ∈ wG := gw 14 (by decide +kernel) (by decide +kernel)
set_option maxRecDepth 100000 in
theorem m_409 : Cond.methodLink RX7 309 yX7_conditionsThatHold ∈ wG := gw 489 (by decide +kernel) (by decide +kernel)
set_option maxRecDepth 100000 in
theorem m_410 : Cond.instanceMethod yX7_conditionsThatHold ∈ wG := gw 491 (by decide +kernel) (by decide +kernel)
set_option maxRecDepth 100000 in
theorem m_411 : Cond.selects RX7 yX7_conditionsThatHold yX7_conditionsThatHold ∈ wG := gw 15 (by decide +kernel) (by decide +kernel)
set_option maxRecDepth 100000 in
theorem m_412 : Cond.methodLink RX7 312 yX7_sumOfValues ∈ wG := gw 498 (by decide +kernel) (by decide +kernel)
set_option maxRecDepth 100000 in
theorem m_413 : Cond.instanceMethod yX7_sumOfValues ∈ wG := gw 500 (by decide +kernel) (by decide +kernel)
set_option maxRecDepth 100000 in
theorem m_414 : Cond.selects RX7 yX7_sumOfValues yX7_sumOfValues ∈ wG := gw 16 (by decide +kernel) (by decide +kernel)
set_option maxRecDepth 100000 in
theorem m_415 : Cond.code yX7_countOf cX7_countOf 2 (some .int) ∈ wG := gw 478 (by decide +kernel) (by decide +kernel)
set_option maxRecDepth 100000 in
theorem m_416 : Cond.methodLink RX7 191 yX7_countOf ∈ wG := gw 475 (by decide +kernel) (by decide +kernel)
set_option maxRecDepth 100000 in
theorem m_417 : Cond.instanceMethod yX7_countOf ∈ wG := gw 477 (by decide +kernel) (by decide +kernel)
set_option maxRecDepth 100000 in
theorem m_418 : Cond.selects RX7 yX7_countOf yX7_countOf ∈ wG := gw 13 (by decide +kernel) (by decide +kernel)
set_option maxRecDepth 100000 in
theorem m_419 : Cond.code yX7_count cX7_count 2 (some .int) ∈ wG := gw 844 (by decide +kernel) (by decide +kernel)
set_option maxRecDepth 100000 in
theorem m_420 : Cond.methodLink RX7 194 yX3_copyFrom ∈ wG := gw 544 (by decide +kernel) (by decide +kernel)
set_option maxRecDepth 100000 in
theorem m_421 : Cond.code yX7_ifEdited cX7_ifEdited 5 (some .int) ∈ wG := gw 851 (by decide +kernel) (by decide +kernel)
set_option maxRecDepth 100000 in
theorem m_422 : Cond.code yX7_ifRemoved cX7_ifRemoved 2 (some .int) ∈ wG := gw 858 (by decide +kernel) (by decide +kernel)
set_option maxRecDepth 100000 in
theorem m_423 : Cond.code yX7_leastFillingStrength cX7_leastFillingStrength 3 (some .int) ∈ wG := gw 543 (by decide +kernel) (by decide +kernel)
set_option maxRecDepth 100000 in
theorem m_424 : Cond.methodLink RX7 209 yX7_leastFillingStrength ∈ wG := gw 540 (by decide +kernel) (by decide +kernel)
set_option maxRecDepth 100000 in
theorem m_425 : Cond.instanceMethod yX7_leastFillingStrength ∈ wG := gw 542 (by decide +kernel) (by decide +kernel)
set_option maxRecDepth 100000 in
theorem m_426 : Cond.selects RX7 yX7_leastFillingStrength yX7_leastFillingStrength ∈ wG := gw 22 (by decide +kernel) (by decide +kernel)
set_option maxRecDepth 100000 in
theorem m_427 : Cond.code yX7_neededStrength cX7_neededStrength 2 (some .int) ∈ wG := gw 865 (by decide +kernel) (by decide +kernel)
set_option maxRecDepth 100000 in
theorem m_428 : Cond.constantFloat RX7 215 (1184645120) ∈ wG := gw 465 (by decide +kernel) (by decide +kernel)
set_option maxRecDepth 100000 in
theorem m_429 : Cond.code yX7_freedom cX7_freedom 3 (some .float) ∈ wG := gw 458 (by decide +kernel) (by decide +kernel)
set_option maxRecDepth 100000 in
theorem m_430 : Cond.constantLong RX7 315 (31) ∈ wG := gw 505 (by decide +kernel) (by decide +kernel)
set_option maxRecDepth 100000 in
theorem m_431 : Cond.code yX7_mixed cX7_mixed 3 (some .long) ∈ wG := gw 504 (by decide +kernel) (by decide +kernel)
set_option maxRecDepth 100000 in
theorem m_432 : Cond.methodLink RX7 218 yX7_mixed ∈ wG := gw 502 (by decide +kernel) (by decide +kernel)
set_option maxRecDepth 100000 in
theorem m_433 : Cond.static yX7_mixed ∈ wG := gw 503 (by decide +kernel) (by decide +kernel)
set_option maxRecDepth 100000 in
theorem m_434 : Cond.code yX7_withPlaces cX7_withPlaces 7 (some .long) ∈ wG := gw 509 (by decide +kernel) (by decide +kernel)
set_option maxRecDepth 100000 in
theorem m_435 : Cond.code yX7_withConditions cX7_withConditions 7 (some .long) ∈ wG := gw 527 (by decide +kernel) (by decide +kernel)
set_option maxRecDepth 100000 in
theorem m_436 : Cond.code yX7_withEdits cX7_withEdits 7 (some .long) ∈ wG := gw 548 (by decide +kernel) (by decide +kernel)
set_option maxRecDepth 100000 in
theorem m_437 : Cond.code yX7_withWidest cX7_withWidest 7 (some .long) ∈ wG := gw 556 (by decide +kernel) (by decide +kernel)
set_option maxRecDepth 100000 in
theorem m_438 : Cond.constantFloat RX7 317 (1258291200) ∈ wG := gw 561 (by decide +kernel) (by decide +kernel)
set_option maxRecDepth 100000 in
theorem m_439 : Cond.code yX7_bitsOf cX7_bitsOf 4 (some .int) ∈ wG := gw 560 (by decide +kernel) (by decide +kernel)
set_option maxRecDepth 100000 in
theorem m_440 : Cond.code yX7_withBuffer cX7_withBuffer 6 (some .long) ∈ wG := gw 565 (by decide +kernel) (by decide +kernel)
set_option maxRecDepth 100000 in
theorem m_441 : Cond.constantLong RX7 216 (2129) ∈ wG := gw 474 (by decide +kernel) (by decide +kernel)
set_option maxRecDepth 100000 in
theorem m_442 : Cond.methodLink RX7 222 yX7_withPlaces ∈ wG := gw 506 (by decide +kernel) (by decide +kernel)
set_option maxRecDepth 100000 in
theorem m_443 : Cond.instanceMethod yX7_withPlaces ∈ wG := gw 508 (by decide +kernel) (by decide +kernel)
set_option maxRecDepth 100000 in
theorem m_444 : Cond.selects RX7 yX7_withPlaces yX7_withPlaces ∈ wG := gw 17 (by decide +kernel) (by decide +kernel)
set_option maxRecDepth 100000 in
theorem m_445 : Cond.methodLink RX7 226 yX7_withConditions ∈ wG := gw 524 (by decide +kernel) (by decide +kernel)
set_option maxRecDepth 100000 in
theorem m_446 : Cond.instanceMethod yX7_withConditions ∈ wG := gw 526 (by decide +kernel) (by decide +kernel)
set_option maxRecDepth 100000 in
theorem m_447 : Cond.selects RX7 yX7_withConditions yX7_withConditions ∈ wG := gw 19 (by decide +kernel) (by decide +kernel)
set_option maxRecDepth 100000 in
theorem m_448 : Cond.methodLink RX7 229 yX7_withEdits ∈ wG := gw 545 (by decide +kernel) (by decide +kernel)
set_option maxRecDepth 100000 in
theorem m_449 : Cond.instanceMethod yX7_withEdits ∈ wG := gw 547 (by decide +kernel) (by decide +kernel)
set_option maxRecDepth 100000 in
theorem m_450 : Cond.selects RX7 yX7_withEdits yX7_withEdits ∈ wG := gw 23 (by decide +kernel) (by decide +kernel)
set_option maxRecDepth 100000 in
theorem m_451 : Cond.methodLink RX7 232 yX7_withWidest ∈ wG := gw 553 (by decide +kernel) (by decide +kernel)
set_option maxRecDepth 100000 in
theorem m_452 : Cond.instanceMethod yX7_withWidest ∈ wG := gw 555 (by decide +kernel) (by decide +kernel)
set_option maxRecDepth 100000 in
theorem m_453 : Cond.selects RX7 yX7_withWidest yX7_withWidest ∈ wG := gw 25 (by decide +kernel) (by decide +kernel)
set_option maxRecDepth 100000 in
theorem m_454 : Cond.methodLink RX7 235 yX7_freedom ∈ wG := gw 557 (by decide +kernel) (by decide +kernel)
set_option maxRecDepth 100000 in
theorem m_455 : Cond.instanceMethod yX7_freedom ∈ wG := gw 456 (by decide +kernel) (by decide +kernel)
set_option maxRecDepth 100000 in
theorem m_456 : Cond.selects RX7 yX7_freedom yX7_freedom ∈ wG := gw 457 (by decide +kernel) (by decide +kernel)
set_option maxRecDepth 100000 in
theorem m_457 : Cond.methodLink RX7 239 yX7_bitsOf ∈ wG := gw 558 (by decide +kernel) (by decide +kernel)
set_option maxRecDepth 100000 in
theorem m_458 : Cond.static yX7_bitsOf ∈ wG := gw 559 (by decide +kernel) (by decide +kernel)
set_option maxRecDepth 100000 in
theorem m_459 : Cond.methodLink RX7 243 yX7_withBuffer ∈ wG := gw 562 (by decide +kernel) (by decide +kernel)
set_option maxRecDepth 100000 in
theorem m_460 : Cond.instanceMethod yX7_withBuffer ∈ wG := gw 564 (by decide +kernel) (by decide +kernel)
set_option maxRecDepth 100000 in
theorem m_461 : Cond.selects RX7 yX7_withBuffer yX7_withBuffer ∈ wG := gw 26 (by decide +kernel) (by decide +kernel)
set_option maxRecDepth 100000 in
theorem m_462 : Cond.code yX7_digest cX7_digest 4 (some .long) ∈ wG := gw 469 (by decide +kernel) (by decide +kernel)
set_option maxRecDepth 100000 in
theorem m_463 : Cond.methodLink RX8 1 objectInit ∈ wG := gw 871 (by decide +kernel) (by decide +kernel)
set_option maxRecDepth 100000 in
theorem m_464 : Cond.fieldLink RX8 7 "StrengthLayoutModel" "z" "[I" ∈ wG := gw 873 (by decide +kernel) (by decide +kernel)
set_option maxRecDepth 100000 in
theorem m_465 : Cond.fieldLink RX8 13 "StrengthLayoutModel" "saved" "[I" ∈ wG := gw 875 (by decide +kernel) (by decide +kernel)
set_option maxRecDepth 100000 in
theorem m_466 : Cond.fieldLink RX8 16 "StrengthLayoutModel" "text" "[I" ∈ wG := gw 877 (by decide +kernel) (by decide +kernel)
set_option maxRecDepth 100000 in
theorem m_467 : Cond.fieldLink RX8 19 "StrengthLayoutModel" "most" "[I" ∈ wG := gw 878 (by decide +kernel) (by decide +kernel)
set_option maxRecDepth 100000 in
theorem m_468 : Cond.arrayClass .boolean ∈ wG := gw 936 (by decide +kernel) (by decide +kernel)
set_option maxRecDepth 100000 in
theorem m_469 : Cond.fieldLink RX8 22 "StrengthLayoutModel" "isFilled" "[Z" ∈ wG := gw 880 (by decide +kernel) (by decide +kernel)
set_option maxRecDepth 100000 in
theorem m_470 : Cond.fieldLink RX8 26 "StrengthLayoutModel" "margin" "[I" ∈ wG := gw 881 (by decide +kernel) (by decide +kernel)
set_option maxRecDepth 100000 in
theorem m_471 : Cond.fieldLink RX8 29 "StrengthLayoutModel" "turnOf" "[I" ∈ wG := gw 882 (by decide +kernel) (by decide +kernel)
set_option maxRecDepth 100000 in
theorem m_472 : Cond.fieldLink RX8 32 "StrengthLayoutModel" "isFilledEdit" "[Z" ∈ wG := gw 883 (by decide +kernel) (by decide +kernel)
set_option maxRecDepth 100000 in
theorem m_473 : Cond.fieldLink RX8 35 "StrengthLayoutModel" "marginEdit" "[I" ∈ wG := gw 884 (by decide +kernel) (by decide +kernel)
set_option maxRecDepth 100000 in
theorem m_474 : Cond.fieldLink RX8 38 "StrengthLayoutModel" "read" "[I" ∈ wG := gw 890 (by decide +kernel) (by decide +kernel)
set_option maxRecDepth 100000 in
theorem m_475 : Cond.fieldLink RX8 41 "StrengthLayoutModel" "aside" "[I" ∈ wG := gw 891 (by decide +kernel) (by decide +kernel)
set_option maxRecDepth 100000 in
theorem m_476 : Cond.code yX8_init cX8_init 2 none ∈ wG := gw 870 (by decide +kernel) (by decide +kernel)
set_option maxRecDepth 100000 in
theorem m_477 : Cond.fieldLink RX8 44 "StrengthLayoutModel" "thrown" "I" ∈ wG := gw 872 (by decide +kernel) (by decide +kernel)
set_option maxRecDepth 100000 in
theorem m_478 : Cond.code yX8_thrown cX8_thrown 1 (some .int) ∈ wG := gw 940 (by decide +kernel) (by decide +kernel)
set_option maxRecDepth 100000 in
theorem m_479 : Cond.code yX8_within cX8_within 3 (some .boolean) ∈ wG := gw 958 (by decide +kernel) (by decide +kernel)
set_option maxRecDepth 100000 in
theorem m_480 : Cond.code yX8_of cX8_of 3 (some .int) ∈ wG := gw 996 (by decide +kernel) (by decide +kernel)
set_option maxRecDepth 100000 in
theorem m_481 : Cond.code yX8_ofEdit cX8_ofEdit 3 (some .int) ∈ wG := gw 984 (by decide +kernel) (by decide +kernel)
set_option maxRecDepth 100000 in
theorem m_482 : Cond.methodLink RX8 48 yX8_within ∈ wG := gw 956 (by decide +kernel) (by decide +kernel)
set_option maxRecDepth 100000 in
theorem m_483 : Cond.static yX8_within ∈ wG := gw 957 (by decide +kernel) (by decide +kernel)
set_option maxRecDepth 100000 in
theorem m_484 : Cond.initialized RX8 ∈ wG := gw 84 (by decide +kernel) (by decide +kernel)
set_option maxRecDepth 100000 in
theorem m_485 : Cond.code yX8_isPlace cX8_isPlace 1 (some .boolean) ∈ wG := gw 955 (by decide +kernel) (by decide +kernel)
set_option maxRecDepth 100000 in
theorem m_486 : Cond.code yX8_isCondition cX8_isCondition 2 (some .boolean) ∈ wG := gw 1012 (by decide +kernel) (by decide +kernel)
set_option maxRecDepth 100000 in
theorem m_487 : Cond.code yX8_bind cX8_bind 7 none ∈ wG := gw 992 (by decide +kernel) (by decide +kernel)
set_option maxRecDepth 100000 in
theorem m_488 : Cond.fieldLink RX8 52 "StrengthLayoutModel" "fits" "Z" ∈ wG := gw 885 (by decide +kernel) (by decide +kernel)
set_option maxRecDepth 100000 in
theorem m_489 : Cond.fieldLink RX8 56 "StrengthLayoutModel" "room" "I" ∈ wG := gw 886 (by decide +kernel) (by decide +kernel)
set_option maxRecDepth 100000 in
theorem m_490 : Cond.methodLink RX8 59 yX8_bind ∈ wG := gw 989 (by decide +kernel) (by decide +kernel)
set_option maxRecDepth 100000 in
theorem m_491 : Cond.instanceMethod yX8_bind ∈ wG := gw 991 (by decide +kernel) (by decide +kernel)
set_option maxRecDepth 100000 in
theorem m_492 : Cond.selects RX8 yX8_bind yX8_bind ∈ wG := gw 40 (by decide +kernel) (by decide +kernel)
set_option maxRecDepth 100000 in
theorem m_493 : Cond.code yX8_fillOne cX8_fillOne 12 none ∈ wG := gw 988 (by decide +kernel) (by decide +kernel)
set_option maxRecDepth 100000 in
theorem m_494 : Cond.fieldLink RX8 63 "StrengthLayoutModel" "turns" "I" ∈ wG := gw 879 (by decide +kernel) (by decide +kernel)
set_option maxRecDepth 100000 in
theorem m_495 : Cond.methodLink RX8 66 yX8_ofEdit ∈ wG := gw 981 (by decide +kernel) (by decide +kernel)
set_option maxRecDepth 100000 in
theorem m_496 : Cond.instanceMethod yX8_ofEdit ∈ wG := gw 983 (by decide +kernel) (by decide +kernel)
set_option maxRecDepth 100000 in
theorem m_497 : Cond.selects RX8 yX8_ofEdit yX8_ofEdit ∈ wG := gw 38 (by decide +kernel) (by decide +kernel)
set_option maxRecDepth 100000 in
theorem m_498 : Cond.methodLink RX8 70 yX8_fillOne ∈ wG := gw 985 (by decide +kernel) (by decide +kernel)
set_option maxRecDepth 100000 in
theorem m_499 : Cond.instanceMethod yX8_fillOne ∈ wG := gw 987 (by decide +kernel) (by decide +kernel)
set_option maxRecDepth 100000 in
theorem m_500 : Cond.selects RX8 yX8_fillOne yX8_fillOne ∈ wG := gw 39 (by decide +kernel) (by decide +kernel)
set_option maxRecDepth 100000 in
theorem m_501 : Cond.methodLink RX8 74 yX8_of ∈ wG := gw 993 (by decide +kernel) (by decide +kernel)
set_option maxRecDepth 100000 in
theorem m_502 : Cond.instanceMethod yX8_of ∈ wG := gw 995 (by decide +kernel) (by decide +kernel)
set_option maxRecDepth 100000 in
theorem m_503 : Cond.selects RX8 yX8_of yX8_of ∈ wG := gw 41 (by decide +kernel) (by decide +kernel)
set_option maxRecDepth 100000 in
theorem m_504 : Cond.code yX8_fill cX8_fill 5 none ∈ wG := gw 980 (by decide +kernel) (by decide +kernel)
set_option maxRecDepth 100000 in
theorem m_505 : Cond.code yX8_least cX8_least 2 (some .int) ∈ wG := gw 1000 (by decide +kernel) (by decide +kernel)
set_option maxRecDepth 100000 in
theorem m_506 : Cond.code yX8_greatest cX8_greatest 2 (some .int) ∈ wG := gw 1004 (by decide +kernel) (by decide +kernel)
set_option maxRecDepth 100000 in
theorem m_507 : Cond.methodLink RX8 77 yX8_fill ∈ wG := gw 977 (by decide +kernel) (by decide +kernel)
set_option maxRecDepth 100000 in
theorem m_508 : Cond.instanceMethod yX8_fill ∈ wG := gw 979 (by decide +kernel) (by decide +kernel)
set_option maxRecDepth 100000 in
theorem m_509 : Cond.selects RX8 yX8_fill yX8_fill ∈ wG := gw 37 (by decide +kernel) (by decide +kernel)
set_option maxRecDepth 100000 in
theorem m_510 : Cond.methodLink RX8 81 yX8_least ∈ wG := gw 997 (by decide +kernel) (by decide +kernel)
set_option maxRecDepth 100000 in
theorem m_511 : Cond.instanceMethod yX8_least ∈ wG := gw 999 (by decide +kernel) (by decide +kernel)
set_option maxRecDepth 100000 in
theorem m_512 : Cond.selects RX8 yX8_least yX8_least ∈ wG := gw 42 (by decide +kernel) (by decide +kernel)
set_option maxRecDepth 100000 in
theorem m_513 : Cond.methodLink RX8 85 yX8_greatest ∈ wG := gw 1001 (by decide +kernel) (by decide +kernel)
set_option maxRecDepth 100000 in
theorem m_514 : Cond.instanceMethod yX8_greatest ∈ wG := gw 1003 (by decide +kernel) (by decide +kernel)
set_option maxRecDepth 100000 in
theorem m_515 : Cond.selects RX8 yX8_greatest yX8_greatest ∈ wG := gw 43 (by decide +kernel) (by decide +kernel)
set_option maxRecDepth 100000 in
theorem m_516 : Cond.code yX8_settle cX8_settle 4 none ∈ wG := gw 976 (by decide +kernel) (by decide +kernel)
set_option maxRecDepth 100000 in
theorem m_517 : Cond.fieldLink RX8 88 "StrengthLayoutModel" "saves" "I" ∈ wG := gw 874 (by decide +kernel) (by decide +kernel)
set_option maxRecDepth 100000 in
theorem m_518 : Cond.code yX8_save cX8_save 2 none ∈ wG := gw 968 (by decide +kernel) (by decide +kernel)
set_option maxRecDepth 100000 in
theorem m_519 : Cond.code yX8_restore cX8_restore 3 none ∈ wG := gw 948 (by decide +kernel) (by decide +kernel)
set_option maxRecDepth 100000 in
theorem m_520 : Cond.methodLink RX8 91 yX8_restore ∈ wG := gw 945 (by decide +kernel) (by decide +kernel)
set_option maxRecDepth 100000 in
theorem m_521 : Cond.instanceMethod yX8_restore ∈ wG := gw 947 (by decide +kernel) (by decide +kernel)
set_option maxRecDepth 100000 in
theorem m_522 : Cond.selects RX8 yX8_restore yX8_restore ∈ wG := gw 33 (by decide +kernel) (by decide +kernel)
set_option maxRecDepth 100000 in
theorem m_523 : Cond.code yX8_undo cX8_undo 1 (some .int) ∈ wG := gw 944 (by decide +kernel) (by decide +kernel)
set_option maxRecDepth 100000 in
theorem m_524 : Cond.code yX8_isNumber cX8_isNumber 1 (some .boolean) ∈ wG := gw 961 (by decide +kernel) (by decide +kernel)
set_option maxRecDepth 100000 in
theorem m_525 : Cond.code yX8_isStrength cX8_isStrength 1 (some .boolean) ∈ wG := gw 964 (by decide +kernel) (by decide +kernel)
set_option maxRecDepth 100000 in
theorem m_526 : Cond.code yX8_lay cX8_lay 7 none ∈ wG := gw 972 (by decide +kernel) (by decide +kernel)
set_option maxRecDepth 100000 in
theorem m_527 : Cond.methodLink RX8 94 yX8_isPlace ∈ wG := gw 953 (by decide +kernel) (by decide +kernel)
set_option maxRecDepth 100000 in
theorem m_528 : Cond.static yX8_isPlace ∈ wG := gw 954 (by decide +kernel) (by decide +kernel)
set_option maxRecDepth 100000 in
theorem m_529 : Cond.methodLink RX8 98 yX8_isNumber ∈ wG := gw 959 (by decide +kernel) (by decide +kernel)
set_option maxRecDepth 100000 in
theorem m_530 : Cond.static yX8_isNumber ∈ wG := gw 960 (by decide +kernel) (by decide +kernel)
set_option maxRecDepth 100000 in
theorem m_531 : Cond.methodLink RX8 101 yX8_isStrength ∈ wG := gw 962 (by decide +kernel) (by decide +kernel)
set_option maxRecDepth 100000 in
theorem m_532 : Cond.static yX8_isStrength ∈ wG := gw 963 (by decide +kernel) (by decide +kernel)
set_option maxRecDepth 100000 in
theorem m_533 : Cond.methodLink RX8 104 yX8_save ∈ wG := gw 965 (by decide +kernel) (by decide +kernel)
set_option maxRecDepth 100000 in
theorem m_534 : Cond.instanceMethod yX8_save ∈ wG := gw 967 (by decide +kernel) (by decide +kernel)
set_option maxRecDepth 100000 in
theorem m_535 : Cond.selects RX8 yX8_save yX8_save ∈ wG := gw 34 (by decide +kernel) (by decide +kernel)
set_option maxRecDepth 100000 in
theorem m_536 : Cond.methodLink RX8 107 yX8_lay ∈ wG := gw 969 (by decide +kernel) (by decide +kernel)
set_option maxRecDepth 100000 in
theorem m_537 : Cond.instanceMethod yX8_lay ∈ wG := gw 971 (by decide +kernel) (by decide +kernel)
set_option maxRecDepth 100000 in
theorem m_538 : Cond.selects RX8 yX8_lay yX8_lay ∈ wG := gw 35 (by decide +kernel) (by decide +kernel)
set_option maxRecDepth 100000 in
theorem m_539 : Cond.methodLink RX8 111 yX8_settle ∈ wG := gw 973 (by decide +kernel) (by decide +kernel)
set_option maxRecDepth 100000 in
theorem m_540 : Cond.instanceMethod yX8_settle ∈ wG := gw 975 (by decide +kernel) (by decide +kernel)
set_option maxRecDepth 100000 in
theorem m_541 : Cond.selects RX8 yX8_settle yX8_settle ∈ wG := gw 36 (by decide +kernel) (by decide +kernel)
set_option maxRecDepth 100000 in
theorem m_542 : Cond.code yX8_add cX8_add 8 (some .int) ∈ wG := gw 952 (by decide +kernel) (by decide +kernel)
set_option maxRecDepth 100000 in
theorem m_543 : Cond.methodLink RX8 114 yX8_isCondition ∈ wG := gw 1009 (by decide +kernel) (by decide +kernel)
set_option maxRecDepth 100000 in
theorem m_544 : Cond.instanceMethod yX8_isCondition ∈ wG := gw 1011 (by decide +kernel) (by decide +kernel)
set_option maxRecDepth 100000 in
theorem m_545 : Cond.selects RX8 yX8_isCondition yX8_isCondition ∈ wG := gw 44 (by decide +kernel) (by decide +kernel)
set_option maxRecDepth 100000 in
theorem m_546 : Cond.code yX8_remove cX8_remove 4 (some .int) ∈ wG := gw 1008 (by decide +kernel) (by decide +kernel)
set_option maxRecDepth 100000 in
theorem m_547 : Cond.code yX8_replaced cX8_replaced 4 (some .int) ∈ wG := gw 1020 (by decide +kernel) (by decide +kernel)
set_option maxRecDepth 100000 in
theorem m_548 : Cond.methodLink RX8 117 yX8_replaced ∈ wG := gw 1017 (by decide +kernel) (by decide +kernel)
set_option maxRecDepth 100000 in
theorem m_549 : Cond.instanceMethod yX8_replaced ∈ wG := gw 1019 (by decide +kernel) (by decide +kernel)
set_option maxRecDepth 100000 in
theorem m_550 : Cond.selects RX8 yX8_replaced yX8_replaced ∈ wG := gw 45 (by decide +kernel) (by decide +kernel)
set_option maxRecDepth 100000 in
theorem m_551 : Cond.code yX8_setStrength cX8_setStrength 3 (some .int) ∈ wG := gw 1016 (by decide +kernel) (by decide +kernel)
set_option maxRecDepth 100000 in
theorem m_552 : Cond.code yX8_setNumber cX8_setNumber 3 (some .int) ∈ wG := gw 1024 (by decide +kernel) (by decide +kernel)
set_option maxRecDepth 100000 in
theorem m_553 : Cond.code yX8_setStay cX8_setStay 3 (some .int) ∈ wG := gw 1028 (by decide +kernel) (by decide +kernel)
set_option maxRecDepth 100000 in
theorem m_554 : Cond.code yX8_editOf cX8_editOf 4 (some .int) ∈ wG := gw 1039 (by decide +kernel) (by decide +kernel)
set_option maxRecDepth 100000 in
theorem m_555 : Cond.code yX8_isWish cX8_isWish 1 (some .boolean) ∈ wG := gw 1035 (by decide +kernel) (by decide +kernel)
set_option maxRecDepth 100000 in
theorem m_556 : Cond.methodLink RX8 120 yX8_editOf ∈ wG := gw 1036 (by decide +kernel) (by decide +kernel)
set_option maxRecDepth 100000 in
theorem m_557 : Cond.instanceMethod yX8_editOf ∈ wG := gw 1038 (by decide +kernel) (by decide +kernel)
set_option maxRecDepth 100000 in
theorem m_558 : Cond.selects RX8 yX8_editOf yX8_editOf ∈ wG := gw 46 (by decide +kernel) (by decide +kernel)
set_option maxRecDepth 100000 in
theorem m_559 : Cond.code yX8_layEdit cX8_layEdit 5 none ∈ wG := gw 1043 (by decide +kernel) (by decide +kernel)
set_option maxRecDepth 100000 in
theorem m_560 : Cond.methodLink RX8 123 yX8_isWish ∈ wG := gw 1033 (by decide +kernel) (by decide +kernel)
set_option maxRecDepth 100000 in
theorem m_561 : Cond.static yX8_isWish ∈ wG := gw 1034 (by decide +kernel) (by decide +kernel)
set_option maxRecDepth 100000 in
theorem m_562 : Cond.methodLink RX8 126 yX8_layEdit ∈ wG := gw 1040 (by decide +kernel) (by decide +kernel)
set_option maxRecDepth 100000 in
theorem m_563 : Cond.instanceMethod yX8_layEdit ∈ wG := gw 1042 (by decide +kernel) (by decide +kernel)
set_option maxRecDepth 100000 in
theorem m_564 : Cond.selects RX8 yX8_layEdit yX8_layEdit ∈ wG := gw 47 (by decide +kernel) (by decide +kernel)
set_option maxRecDepth 100000 in
theorem m_565 : Cond.code yX8_edit cX8_edit 5 (some .int) ∈ wG := gw 1032 (by decide +kernel) (by decide +kernel)
set_option maxRecDepth 100000 in
theorem m_566 : Cond.code yX8_endEdits cX8_endEdits 2 (some .int) ∈ wG := gw 1047 (by decide +kernel) (by decide +kernel)
set_option maxRecDepth 100000 in
theorem m_567 : Cond.code yX8_settleFrom cX8_settleFrom 4 (some .int) ∈ wG := gw 1051 (by decide +kernel) (by decide +kernel)
set_option maxRecDepth 100000 in
theorem m_568 : Cond.fieldLink RX8 129 "StrengthLayoutModel" "length" "I" ∈ wG := gw 876 (by decide +kernel) (by decide +kernel)
set_option maxRecDepth 100000 in
theorem m_569 : Cond.code yX8_append cX8_append 2 (some .int) ∈ wG := gw 1055 (by decide +kernel) (by decide +kernel)
set_option maxRecDepth 100000 in
theorem m_570 : Cond.code yX8_clearBuffer cX8_clearBuffer 2 (some .int) ∈ wG := gw 1059 (by decide +kernel) (by decide +kernel)
set_option maxRecDepth 100000 in
theorem m_571 : Cond.fieldLink RX8 132 "StrengthLayoutModel" "step" "I" ∈ wG := gw 887 (by decide +kernel) (by decide +kernel)
set_option maxRecDepth 100000 in
theorem m_572 : Cond.code yX8_goes cX8_goes 3 (some .boolean) ∈ wG := gw 1079 (by decide +kernel) (by decide +kernel)
set_option maxRecDepth 100000 in
theorem m_573 : Cond.fieldLink RX8 135 "StrengthLayoutModel" "items" "I" ∈ wG := gw 888 (by decide +kernel) (by decide +kernel)
set_option maxRecDepth 100000 in
theorem m_574 : Cond.methodLink RX8 138 yX8_goes ∈ wG := gw 1076 (by decide +kernel) (by decide +kernel)
set_option maxRecDepth 100000 in
theorem m_575 : Cond.instanceMethod yX8_goes ∈ wG := gw 1078 (by decide +kernel) (by decide +kernel)
set_option maxRecDepth 100000 in
theorem m_576 : Cond.selects RX8 yX8_goes yX8_goes ∈ wG := gw 51 (by decide +kernel) (by decide +kernel)
set_option maxRecDepth 100000 in
theorem m_577 : Cond.code yX8_takesPlace cX8_takesPlace 5 (some .boolean) ∈ wG := gw 1075 (by decide +kernel) (by decide +kernel)
set_option maxRecDepth 100000 in
theorem m_578 : Cond.fieldLink RX8 142 "StrengthLayoutModel" "isBelow" "Z" ∈ wG := gw 889 (by decide +kernel) (by decide +kernel)
set_option maxRecDepth 100000 in
theorem m_579 : Cond.code yX8_takesSign cX8_takesSign 2 (some .boolean) ∈ wG := gw 1083 (by decide +kernel) (by decide +kernel)
set_option maxRecDepth 100000 in
theorem m_580 : Cond.code yX8_beginsNumber cX8_beginsNumber 2 (some .boolean) ∈ wG := gw 1087 (by decide +kernel) (by decide +kernel)
set_option maxRecDepth 100000 in
theorem m_581 : Cond.code yX8_endItem cX8_endItem 2 none ∈ wG := gw 1099 (by decide +kernel) (by decide +kernel)
set_option maxRecDepth 100000 in
theorem m_582 : Cond.methodLink RX8 145 yX8_endItem ∈ wG := gw 1096 (by decide +kernel) (by decide +kernel)
set_option maxRecDepth 100000 in
theorem m_583 : Cond.instanceMethod yX8_endItem ∈ wG := gw 1098 (by decide +kernel) (by decide +kernel)
set_option maxRecDepth 100000 in
theorem m_584 : Cond.selects RX8 yX8_endItem yX8_endItem ∈ wG := gw 56 (by decide +kernel) (by decide +kernel)
set_option maxRecDepth 100000 in
theorem m_585 : Cond.code yX8_takesEnd cX8_takesEnd 2 (some .boolean) ∈ wG := gw 1095 (by decide +kernel) (by decide +kernel)
set_option maxRecDepth 100000 in
theorem m_586 : Cond.methodLink RX8 148 yX8_takesEnd ∈ wG := gw 1092 (by decide +kernel) (by decide +kernel)
set_option maxRecDepth 100000 in
theorem m_587 : Cond.instanceMethod yX8_takesEnd ∈ wG := gw 1094 (by decide +kernel) (by decide +kernel)
set_option maxRecDepth 100000 in
theorem m_588 : Cond.selects RX8 yX8_takesEnd yX8_takesEnd ∈ wG := gw 55 (by decide +kernel) (by decide +kernel)
set_option maxRecDepth 100000 in
theorem m_589 : Cond.code yX8_goesOn cX8_goesOn 5 (some .boolean) ∈ wG := gw 1091 (by decide +kernel) (by decide +kernel)
set_option maxRecDepth 100000 in
theorem m_590 : Cond.methodLink RX8 151 yX8_takesPlace ∈ wG := gw 1072 (by decide +kernel) (by decide +kernel)
set_option maxRecDepth 100000 in
theorem m_591 : Cond.instanceMethod yX8_takesPlace ∈ wG := gw 1074 (by decide +kernel) (by decide +kernel)
set_option maxRecDepth 100000 in
theorem m_592 : Cond.selects RX8 yX8_takesPlace yX8_takesPlace ∈ wG := gw 50 (by decide +kernel) (by decide +kernel)
set_option maxRecDepth 100000 in
theorem m_593 : Cond.methodLink RX8 154 yX8_takesSign ∈ wG := gw 1080 (by decide +kernel) (by decide +kernel)
set_option maxRecDepth 100000 in
theorem m_594 : Cond.instanceMethod yX8_takesSign ∈ wG := gw 1082 (by decide +kernel) (by decide +kernel)
set_option maxRecDepth 100000 in
theorem m_595 : Cond.selects RX8 yX8_takesSign yX8_takesSign ∈ wG := gw 52 (by decide +kernel) (by decide +kernel)
set_option maxRecDepth 100000 in
theorem m_596 : Cond.methodLink RX8 157 yX8_beginsNumber ∈ wG := gw 1084 (by decide +kernel) (by decide +kernel)
set_option maxRecDepth 100000 in
theorem m_597 : Cond.instanceMethod yX8_beginsNumber ∈ wG := gw 1086 (by decide +kernel) (by decide +kernel)
set_option maxRecDepth 100000 in
theorem m_598 : Cond.selects RX8 yX8_beginsNumber yX8_beginsNumber ∈ wG := gw 53 (by decide +kernel) (by decide +kernel)
set_option maxRecDepth 100000 in
theorem m_599 : Cond.methodLink RX8 160 yX8_goesOn ∈ wG := gw 1088 (by decide +kernel) (by decide +kernel)
set_option maxRecDepth 100000 in
theorem m_600 : Cond.instanceMethod yX8_goesOn ∈ wG := gw 1090 (by decide +kernel) (by decide +kernel)
set_option maxRecDepth 100000 in
theorem m_601 : Cond.selects RX8 yX8_goesOn yX8_goesOn ∈ wG := gw 54 (by decide +kernel) (by decide +kernel)
set_option maxRecDepth 100000 in
theorem m_602 : Cond.code yX8_takes cX8_takes 2 (some .boolean) ∈ wG := gw 1071 (by decide +kernel) (by decide +kernel)
set_option maxRecDepth 100000 in
theorem m_603 : Cond.methodLink RX8 163 yX8_takes ∈ wG := gw 1068 (by decide +kernel) (by decide +kernel)
set_option maxRecDepth 100000 in
theorem m_604 : Cond.instanceMethod yX8_takes ∈ wG := gw 1070 (by decide +kernel) (by decide +kernel)
set_option maxRecDepth 100000 in
theorem m_605 : Cond.selects RX8 yX8_takes yX8_takes ∈ wG := gw 49 (by decide +kernel) (by decide +kernel)
set_option maxRecDepth 100000 in
theorem m_606 : Cond.code yX8_readText cX8_readText 2 (some .int) ∈ wG := gw 1067 (by decide +kernel) (by decide +kernel)
set_option maxRecDepth 100000 in
theorem m_607 : Cond.methodLink RX8 166 yX8_readText ∈ wG := gw 1064 (by decide +kernel) (by decide +kernel)
set_option maxRecDepth 100000 in
theorem m_608 : Cond.instanceMethod yX8_readText ∈ wG := gw 1066 (by decide +kernel) (by decide +kernel)
set_option maxRecDepth 100000 in
theorem m_609 : Cond.selects RX8 yX8_readText yX8_readText ∈ wG := gw 48 (by decide +kernel) (by decide +kernel)
set_option maxRecDepth 100000 in
theorem m_610 : Cond.code yX8_firstError cX8_firstError 1 (some .int) ∈ wG := gw 1063 (by decide +kernel) (by decide +kernel)
set_option maxRecDepth 100000 in
theorem m_611 : Cond.code yX8_load cX8_load 3 (some .int) ∈ wG := gw 1103 (by decide +kernel) (by decide +kernel)
set_option maxRecDepth 100000 in
theorem m_612 : Cond.code yX8_withPlace cX8_withPlace 4 (some .int) ∈ wG := gw 1115 (by decide +kernel) (by decide +kernel)
set_option maxRecDepth 100000 in
theorem m_613 : Cond.methodLink RX8 170 yX8_withPlace ∈ wG := gw 1112 (by decide +kernel) (by decide +kernel)
set_option maxRecDepth 100000 in
theorem m_614 : Cond.instanceMethod yX8_withPlace ∈ wG := gw 1114 (by decide +kernel) (by decide +kernel)
set_option maxRecDepth 100000 in
theorem m_615 : Cond.selects RX8 yX8_withPlace yX8_withPlace ∈ wG := gw 58 (by decide +kernel) (by decide +kernel)
set_option maxRecDepth 100000 in
theorem m_616 : Cond.code yX8_placeNow cX8_placeNow 3 (some .int) ∈ wG := gw 1111 (by decide +kernel) (by decide +kernel)
set_option maxRecDepth 100000 in
theorem m_617 : Cond.methodLink RX8 173 yX8_placeNow ∈ wG := gw 1108 (by decide +kernel) (by decide +kernel)
set_option maxRecDepth 100000 in
theorem m_618 : Cond.instanceMethod yX8_placeNow ∈ wG := gw 1110 (by decide +kernel) (by decide +kernel)
set_option maxRecDepth 100000 in
theorem m_619 : Cond.selects RX8 yX8_placeNow yX8_placeNow ∈ wG := gw 57 (by decide +kernel) (by decide +kernel)
set_option maxRecDepth 100000 in
theorem m_620 : Cond.code yX8_place cX8_place 3 (some .int) ∈ wG := gw 1107 (by decide +kernel) (by decide +kernel)
set_option maxRecDepth 100000 in
theorem m_621 : Cond.code yX8_holds cX8_holds 4 (some .boolean) ∈ wG := gw 1131 (by decide +kernel) (by decide +kernel)
set_option maxRecDepth 100000 in
theorem m_622 : Cond.code yX8_culprits cX8_culprits 5 (some .int) ∈ wG := gw 1127 (by decide +kernel) (by decide +kernel)
set_option maxRecDepth 100000 in
theorem m_623 : Cond.methodLink RX8 176 yX8_culprits ∈ wG := gw 1124 (by decide +kernel) (by decide +kernel)
set_option maxRecDepth 100000 in
theorem m_624 : Cond.instanceMethod yX8_culprits ∈ wG := gw 1126 (by decide +kernel) (by decide +kernel)
set_option maxRecDepth 100000 in
theorem m_625 : Cond.selects RX8 yX8_culprits yX8_culprits ∈ wG := gw 60 (by decide +kernel) (by decide +kernel)
set_option maxRecDepth 100000 in
theorem m_626 : Cond.methodLink RX8 179 yX8_holds ∈ wG := gw 1128 (by decide +kernel) (by decide +kernel)
set_option maxRecDepth 100000 in
theorem m_627 : Cond.instanceMethod yX8_holds ∈ wG := gw 1130 (by decide +kernel) (by decide +kernel)
set_option maxRecDepth 100000 in
theorem m_628 : Cond.selects RX8 yX8_holds yX8_holds ∈ wG := gw 61 (by decide +kernel) (by decide +kernel)
set_option maxRecDepth 100000 in
theorem m_629 : Cond.code yX8_conditionNow cX8_conditionNow 3 (some .int) ∈ wG := gw 1123 (by decide +kernel) (by decide +kernel)
set_option maxRecDepth 100000 in
theorem m_630 : Cond.methodLink RX8 182 yX8_conditionNow ∈ wG := gw 1120 (by decide +kernel) (by decide +kernel)
set_option maxRecDepth 100000 in
theorem m_631 : Cond.instanceMethod yX8_conditionNow ∈ wG := gw 1122 (by decide +kernel) (by decide +kernel)
set_option maxRecDepth 100000 in
theorem m_632 : Cond.selects RX8 yX8_conditionNow yX8_conditionNow ∈ wG := gw 59 (by decide +kernel) (by decide +kernel)
set_option maxRecDepth 100000 in
theorem m_633 : Cond.code yX8_condition cX8_condition 3 (some .int) ∈ wG := gw 1119 (by decide +kernel) (by decide +kernel)
set_option maxRecDepth 100000 in
theorem m_634 : Cond.code yX8_editedNow cX8_editedNow 3 (some .int) ∈ wG := gw 1139 (by decide +kernel) (by decide +kernel)
set_option maxRecDepth 100000 in
theorem m_635 : Cond.methodLink RX8 185 yX8_editedNow ∈ wG := gw 1136 (by decide +kernel) (by decide +kernel)
set_option maxRecDepth 100000 in
theorem m_636 : Cond.instanceMethod yX8_editedNow ∈ wG := gw 1138 (by decide +kernel) (by decide +kernel)
set_option maxRecDepth 100000 in
theorem m_637 : Cond.selects RX8 yX8_editedNow yX8_editedNow ∈ wG := gw 62 (by decide +kernel) (by decide +kernel)
set_option maxRecDepth 100000 in
theorem m_638 : Cond.code yX8_edited cX8_edited 3 (some .int) ∈ wG := gw 1135 (by decide +kernel) (by decide +kernel)
set_option maxRecDepth 100000 in
theorem m_639 : Cond.code yX8_widest cX8_widest 3 (some .int) ∈ wG := gw 1143 (by decide +kernel) (by decide +kernel)
set_option maxRecDepth 100000 in
theorem m_640 : Cond.code yX8_filledMany cX8_filledMany 4 (some .int) ∈ wG := gw 1155 (by decide +kernel) (by decide +kernel)
set_option maxRecDepth 100000 in
theorem m_641 : Cond.code yX8_filledEdits cX8_filledEdits 3 (some .int) ∈ wG := gw 1159 (by decide +kernel) (by decide +kernel)
set_option maxRecDepth 100000 in
theorem m_642 : Cond.code yX8_fixed cX8_fixed 3 (some .int) ∈ wG := gw 1163 (by decide +kernel) (by decide +kernel)
set_option maxRecDepth 100000 in
theorem m_643 : Cond.code yX8_holding cX8_holding 3 (some .int) ∈ wG := gw 1167 (by decide +kernel) (by decide +kernel)
set_option maxRecDepth 100000 in
theorem m_644 : Cond.code yX8_values cX8_values 3 (some .int) ∈ wG := gw 1171 (by decide +kernel) (by decide +kernel)
set_option maxRecDepth 100000 in
theorem m_645 : Cond.methodLink RX8 188 yX8_filledMany ∈ wG := gw 1152 (by decide +kernel) (by decide +kernel)
set_option maxRecDepth 100000 in
theorem m_646 : Cond.instanceMethod yX8_filledMany ∈ wG := gw 1154 (by decide +kernel) (by decide +kernel)
set_option maxRecDepth 100000 in
theorem m_647 : Cond.selects RX8 yX8_filledMany yX8_filledMany ∈ wG := gw 64 (by decide +kernel) (by decide +kernel)
set_option maxRecDepth 100000 in
theorem m_648 : Cond.methodLink RX8 191 yX8_filledEdits ∈ wG := gw 1156 (by decide +kernel) (by decide +kernel)
set_option maxRecDepth 100000 in
theorem m_649 : Cond.instanceMethod yX8_filledEdits ∈ wG := gw 1158 (by decide +kernel) (by decide +kernel)
set_option maxRecDepth 100000 in
theorem m_650 : Cond.selects RX8 yX8_filledEdits yX8_filledEdits ∈ wG := gw 65 (by decide +kernel) (by decide +kernel)
set_option maxRecDepth 100000 in
theorem m_651 : Cond.methodLink RX8 194 yX8_fixed ∈ wG := gw 1160 (by decide +kernel) (by decide +kernel)
set_option maxRecDepth 100000 in
theorem m_652 : Cond.instanceMethod yX8_fixed ∈ wG := gw 1162 (by decide +kernel) (by decide +kernel)
set_option maxRecDepth 100000 in
theorem m_653 : Cond.selects RX8 yX8_fixed yX8_fixed ∈ wG := gw 66 (by decide +kernel) (by decide +kernel)
set_option maxRecDepth 100000 in
theorem m_654 : Cond.methodLink RX8 197 yX8_holding ∈ wG := gw 1164 (by decide +kernel) (by decide +kernel)
set_option maxRecDepth 100000 in
theorem m_655 : Cond.instanceMethod yX8_holding ∈ wG := gw 1166 (by decide +kernel) (by decide +kernel)
set_option maxRecDepth 100000 in
theorem m_656 : Cond.selects RX8 yX8_holding yX8_holding ∈ wG := gw 67 (by decide +kernel) (by decide +kernel)
set_option maxRecDepth 100000 in
theorem m_657 : Cond.methodLink RX8 200 yX8_values ∈ wG := gw 1168 (by decide +kernel) (by decide +kernel)
set_option maxRecDepth 100000 in
theorem m_658 : Cond.instanceMethod yX8_values ∈ wG := gw 1170 (by decide +kernel) (by decide +kernel)
set_option maxRecDepth 100000 in
theorem m_659 : Cond.selects RX8 yX8_values yX8_values ∈ wG := gw 68 (by decide +kernel) (by decide +kernel)
set_option maxRecDepth 100000 in
theorem m_660 : Cond.code yX8_counted cX8_counted 2 (some .int) ∈ wG := gw 1151 (by decide +kernel) (by decide +kernel)
set_option maxRecDepth 100000 in
theorem m_661 : Cond.methodLink RX8 203 yX8_counted ∈ wG := gw 1148 (by decide +kernel) (by decide +kernel)
set_option maxRecDepth 100000 in
theorem m_662 : Cond.instanceMethod yX8_counted ∈ wG := gw 1150 (by decide +kernel) (by decide +kernel)
set_option maxRecDepth 100000 in
theorem m_663 : Cond.selects RX8 yX8_counted yX8_counted ∈ wG := gw 63 (by decide +kernel) (by decide +kernel)
set_option maxRecDepth 100000 in
theorem m_664 : Cond.code yX8_count cX8_count 2 (some .int) ∈ wG := gw 1147 (by decide +kernel) (by decide +kernel)
set_option maxRecDepth 100000 in
theorem m_665 : Cond.code yX8_editedValue cX8_editedValue 7 (some .int) ∈ wG := gw 1179 (by decide +kernel) (by decide +kernel)
set_option maxRecDepth 100000 in
theorem m_666 : Cond.methodLink RX8 206 yX8_editedValue ∈ wG := gw 1176 (by decide +kernel) (by decide +kernel)
set_option maxRecDepth 100000 in
theorem m_667 : Cond.instanceMethod yX8_editedValue ∈ wG := gw 1178 (by decide +kernel) (by decide +kernel)
set_option maxRecDepth 100000 in
theorem m_668 : Cond.selects RX8 yX8_editedValue yX8_editedValue ∈ wG := gw 69 (by decide +kernel) (by decide +kernel)
set_option maxRecDepth 100000 in
theorem m_669 : Cond.code yX8_ifEdited cX8_ifEdited 5 (some .int) ∈ wG := gw 1175 (by decide +kernel) (by decide +kernel)
set_option maxRecDepth 100000 in
theorem m_670 : Cond.code yX8_removedAnswer cX8_removedAnswer 2 (some .int) ∈ wG := gw 1187 (by decide +kernel) (by decide +kernel)
set_option maxRecDepth 100000 in
theorem m_671 : Cond.methodLink RX8 210 yX8_removedAnswer ∈ wG := gw 1184 (by decide +kernel) (by decide +kernel)
set_option maxRecDepth 100000 in
theorem m_672 : Cond.instanceMethod yX8_removedAnswer ∈ wG := gw 1186 (by decide +kernel) (by decide +kernel)
set_option maxRecDepth 100000 in
theorem m_673 : Cond.selects RX8 yX8_removedAnswer yX8_removedAnswer ∈ wG := gw 70 (by decide +kernel) (by decide +kernel)
set_option maxRecDepth 100000 in
theorem m_674 : Cond.code yX8_ifRemoved cX8_ifRemoved 2 (some .int) ∈ wG := gw 1183 (by decide +kernel) (by decide +kernel)
set_option maxRecDepth 100000 in
theorem m_675 : Cond.code yX8_strengthAnswer cX8_strengthAnswer 6 (some .int) ∈ wG := gw 1195 (by decide +kernel) (by decide +kernel)
set_option maxRecDepth 100000 in
theorem m_676 : Cond.methodLink RX8 213 yX8_strengthAnswer ∈ wG := gw 1192 (by decide +kernel) (by decide +kernel)
set_option maxRecDepth 100000 in
theorem m_677 : Cond.instanceMethod yX8_strengthAnswer ∈ wG := gw 1194 (by decide +kernel) (by decide +kernel)
set_option maxRecDepth 100000 in
theorem m_678 : Cond.selects RX8 yX8_strengthAnswer yX8_strengthAnswer ∈ wG := gw 71 (by decide +kernel) (by decide +kernel)
set_option maxRecDepth 100000 in
theorem m_679 : Cond.code yX8_neededStrength cX8_neededStrength 2 (some .int) ∈ wG := gw 1191 (by decide +kernel) (by decide +kernel)
set_option maxRecDepth 100000 in
theorem m_680 : Cond.constantFloat RX8 216 (1184645120) ∈ wG := gw 1204 (by decide +kernel) (by decide +kernel)
set_option maxRecDepth 100000 in
theorem m_681 : Cond.code yX8_freedomNow cX8_freedomNow 3 (some .float) ∈ wG := gw 1203 (by decide +kernel) (by decide +kernel)
set_option maxRecDepth 100000 in
theorem m_682 : Cond.methodLink RX8 217 yX8_freedomNow ∈ wG := gw 1200 (by decide +kernel) (by decide +kernel)
set_option maxRecDepth 100000 in
theorem m_683 : Cond.instanceMethod yX8_freedomNow ∈ wG := gw 1202 (by decide +kernel) (by decide +kernel)
set_option maxRecDepth 100000 in
theorem m_684 : Cond.selects RX8 yX8_freedomNow yX8_freedomNow ∈ wG := gw 72 (by decide +kernel) (by decide +kernel)
set_option maxRecDepth 100000 in
theorem m_685 : Cond.code yX8_freedom cX8_freedom 1 (some .float) ∈ wG := gw 1199 (by decide +kernel) (by decide +kernel)
set_option maxRecDepth 100000 in
theorem m_686 : Cond.constantLong RX8 221 (31) ∈ wG := gw 1214 (by decide +kernel) (by decide +kernel)
set_option maxRecDepth 100000 in
theorem m_687 : Cond.fieldLink RX8 223 "StrengthLayoutModel" "h" "J" ∈ wG := gw 892 (by decide +kernel) (by decide +kernel)
set_option maxRecDepth 100000 in
theorem m_688 : Cond.code yX8_mix cX8_mix 3 none ∈ wG := gw 1213 (by decide +kernel) (by decide +kernel)
set_option maxRecDepth 100000 in
theorem m_689 : Cond.methodLink RX8 227 yX8_mix ∈ wG := gw 1210 (by decide +kernel) (by decide +kernel)
set_option maxRecDepth 100000 in
theorem m_690 : Cond.instanceMethod yX8_mix ∈ wG := gw 1212 (by decide +kernel) (by decide +kernel)
set_option maxRecDepth 100000 in
theorem m_691 : Cond.selects RX8 yX8_mix yX8_mix ∈ wG := gw 73 (by decide +kernel) (by decide +kernel)
set_option maxRecDepth 100000 in
theorem m_692 : Cond.code yX8_mixConditions cX8_mixConditions 3 none ∈ wG := gw 1218 (by decide +kernel) (by decide +kernel)
set_option maxRecDepth 100000 in
theorem m_693 : Cond.code yJxf58ca_isNaN_12338 cJxf58ca_isNaN_12338 1 (some .boolean) ∈ wG := gw 1224 (by decide +kernel) (by decide +kernel)
set_option maxRecDepth 100000 in
theorem m_694 : Cond.methodLink RJxf58ca 74 ⟨"java/lang/Float", "floatToRawIntBits", "(F)I"⟩ ∈ wG := gw 1225 (by decide +kernel) (by decide +kernel)
set_option maxRecDepth 100000 in
theorem m_695 : Cond.native ⟨"java/lang/Float", "floatToRawIntBits", "(F)I"⟩ ∈ wG := gw 1227 (by decide +kernel) (by decide +kernel)
set_option maxRecDepth 100000 in
theorem m_696 : Cond.static ⟨"java/lang/Float", "floatToRawIntBits", "(F)I"⟩ ∈ wG := gw 1226 (by decide +kernel) (by decide +kernel)
set_option maxRecDepth 100000 in
theorem m_697 : Cond.initialized "java/lang/Float" ∈ wG := gw 93 (by decide +kernel) (by decide +kernel)
set_option maxRecDepth 100000 in
theorem m_698 : Cond.constant RJxf58ca 77 (2143289344) ∈ wG := gw 1228 (by decide +kernel) (by decide +kernel)
set_option maxRecDepth 100000 in
theorem m_699 : Cond.methodLink RJxf58ca 59 yJxf58ca_isNaN_12338 ∈ wG := gw 1222 (by decide +kernel) (by decide +kernel)
set_option maxRecDepth 100000 in
theorem m_700 : Cond.static yJxf58ca_isNaN_12338 ∈ wG := gw 1223 (by decide +kernel) (by decide +kernel)
set_option maxRecDepth 100000 in
theorem m_701 : Cond.initialized RJxf58ca ∈ wG := gw 93 (by decide +kernel) (by decide +kernel)
set_option maxRecDepth 100000 in
theorem m_702 : Cond.code yJxf58ca_floatToIntBits_5c35a cJxf58ca_floatToIntBits_5c35a 1 (some .int) ∈ wG := gw 1221 (by decide +kernel) (by decide +kernel)
set_option maxRecDepth 100000 in
theorem m_703 : Cond.constantLong RX8 231 (2129) ∈ wG := gw 1209 (by decide +kernel) (by decide +kernel)
set_option maxRecDepth 100000 in
theorem m_704 : Cond.methodLink RX8 233 yX8_mixConditions ∈ wG := gw 1215 (by decide +kernel) (by decide +kernel)
set_option maxRecDepth 100000 in
theorem m_705 : Cond.instanceMethod yX8_mixConditions ∈ wG := gw 1217 (by decide +kernel) (by decide +kernel)
set_option maxRecDepth 100000 in
theorem m_706 : Cond.selects RX8 yX8_mixConditions yX8_mixConditions ∈ wG := gw 74 (by decide +kernel) (by decide +kernel)
set_option maxRecDepth 100000 in
theorem m_707 : Cond.methodLink RX8 236 yJxf58ca_floatToIntBits_5c35a ∈ wG := gw 1219 (by decide +kernel) (by decide +kernel)
set_option maxRecDepth 100000 in
theorem m_708 : Cond.static yJxf58ca_floatToIntBits_5c35a ∈ wG := gw 1220 (by decide +kernel) (by decide +kernel)
set_option maxRecDepth 100000 in
theorem m_709 : Cond.code yX8_digest cX8_digest 3 (some .long) ∈ wG := gw 1208 (by decide +kernel) (by decide +kernel)
set_option maxRecDepth 100000 in
theorem m_710 : Cond.code yJ9_max_7cf53 cJ9_max_7cf53 2 (some .int) ∈ wG := gw 711 (by decide +kernel) (by decide +kernel)
set_option maxRecDepth 100000 in
theorem m_711 : Cond.code yJ9_min_7cf53 cJ9_min_7cf53 2 (some .int) ∈ wG := gw 346 (by decide +kernel) (by decide +kernel)
set_option maxRecDepth 100000 in
theorem m_712 : Cond.classLink RL 13 "java/lang/IndexOutOfBoundsException" ∈ wG := gw 569 (by decide +kernel) (by decide +kernel)
set_option maxRecDepth 100000 in
theorem m_713 : Cond.classLink RL 15 "java/lang/IllegalArgumentException" ∈ wG := gw 570 (by decide +kernel) (by decide +kernel)
set_option maxRecDepth 100000 in
theorem m_714 : Cond.classLink RL 17 "java/lang/IllegalStateException" ∈ wG := gw 571 (by decide +kernel) (by decide +kernel)
set_option maxRecDepth 100000 in
theorem m_715 : Cond.methodLink RL 7 yX7_add ∈ wG := gw 572 (by decide +kernel) (by decide +kernel)
set_option maxRecDepth 100000 in
theorem m_716 : Cond.instanceMethod yX7_add ∈ wG := gw 573 (by decide +kernel) (by decide +kernel)
set_option maxRecDepth 100000 in
theorem m_717 : Cond.selects RX7 yX7_add yX7_add ∈ wG := gw 574 (by decide +kernel) (by decide +kernel)
set_option maxRecDepth 100000 in
theorem m_718 : Cond.codeWith yL_add cL_add 8 (some .int) [(0, 16, 19, 13), (0, 16, 23, 15), (0, 16, 27, 17)] ∈ wG := gw 568 (by decide +kernel) (by decide +kernel)
set_option maxRecDepth 100000 in
theorem m_719 : Cond.methodLink RL 19 yX7_remove ∈ wG := gw 716 (by decide +kernel) (by decide +kernel)
set_option maxRecDepth 100000 in
theorem m_720 : Cond.instanceMethod yX7_remove ∈ wG := gw 717 (by decide +kernel) (by decide +kernel)
set_option maxRecDepth 100000 in
theorem m_721 : Cond.selects RX7 yX7_remove yX7_remove ∈ wG := gw 718 (by decide +kernel) (by decide +kernel)
set_option maxRecDepth 100000 in
theorem m_722 : Cond.codeWith yL_remove cL_remove 4 (some .int) [(0, 9, 12, 13)] ∈ wG := gw 715 (by decide +kernel) (by decide +kernel)
set_option maxRecDepth 100000 in
theorem m_723 : Cond.methodLink RL 23 yX7_setStrength ∈ wG := gw 731 (by decide +kernel) (by decide +kernel)
set_option maxRecDepth 100000 in
theorem m_724 : Cond.instanceMethod yX7_setStrength ∈ wG := gw 732 (by decide +kernel) (by decide +kernel)
set_option maxRecDepth 100000 in
theorem m_725 : Cond.selects RX7 yX7_setStrength yX7_setStrength ∈ wG := gw 733 (by decide +kernel) (by decide +kernel)
set_option maxRecDepth 100000 in
theorem m_726 : Cond.codeWith yL_setStrength cL_setStrength 5 (some .int) [(0, 10, 13, 13), (0, 10, 17, 15)] ∈ wG := gw 730 (by decide +kernel) (by decide +kernel)
set_option maxRecDepth 100000 in
theorem m_727 : Cond.methodLink RL 27 yX7_setNumber ∈ wG := gw 742 (by decide +kernel) (by decide +kernel)
set_option maxRecDepth 100000 in
theorem m_728 : Cond.instanceMethod yX7_setNumber ∈ wG := gw 743 (by decide +kernel) (by decide +kernel)
set_option maxRecDepth 100000 in
theorem m_729 : Cond.selects RX7 yX7_setNumber yX7_setNumber ∈ wG := gw 744 (by decide +kernel) (by decide +kernel)
set_option maxRecDepth 100000 in
theorem m_730 : Cond.codeWith yL_setNumber cL_setNumber 5 (some .int) [(0, 10, 13, 13), (0, 10, 17, 15)] ∈ wG := gw 741 (by decide +kernel) (by decide +kernel)
set_option maxRecDepth 100000 in
theorem m_731 : Cond.methodLink RL 30 yX7_setStay ∈ wG := gw 749 (by decide +kernel) (by decide +kernel)
set_option maxRecDepth 100000 in
theorem m_732 : Cond.instanceMethod yX7_setStay ∈ wG := gw 750 (by decide +kernel) (by decide +kernel)
set_option maxRecDepth 100000 in
theorem m_733 : Cond.selects RX7 yX7_setStay yX7_setStay ∈ wG := gw 751 (by decide +kernel) (by decide +kernel)
set_option maxRecDepth 100000 in
theorem m_734 : Cond.codeWith yL_setStay cL_setStay 5 (some .int) [(0, 10, 13, 13), (0, 10, 17, 15)] ∈ wG := gw 748 (by decide +kernel) (by decide +kernel)
set_option maxRecDepth 100000 in
theorem m_735 : Cond.methodLink RL 33 yX7_edit ∈ wG := gw 756 (by decide +kernel) (by decide +kernel)
set_option maxRecDepth 100000 in
theorem m_736 : Cond.instanceMethod yX7_edit ∈ wG := gw 757 (by decide +kernel) (by decide +kernel)
set_option maxRecDepth 100000 in
theorem m_737 : Cond.selects RX7 yX7_edit yX7_edit ∈ wG := gw 758 (by decide +kernel) (by decide +kernel)
set_option maxRecDepth 100000 in
theorem m_738 : Cond.codeWith yL_edit cL_edit 6 (some .int) [(0, 12, 15, 13), (0, 12, 19, 15), (0, 12, 23, 17)] ∈ wG := gw 755 (by decide +kernel) (by decide +kernel)
set_option maxRecDepth 100000 in
theorem m_739 : Cond.methodLink RL 37 yX7_settleFrom ∈ wG := gw 772 (by decide +kernel) (by decide +kernel)
set_option maxRecDepth 100000 in
theorem m_740 : Cond.instanceMethod yX7_settleFrom ∈ wG := gw 773 (by decide +kernel) (by decide +kernel)
set_option maxRecDepth 100000 in
theorem m_741 : Cond.selects RX7 yX7_settleFrom yX7_settleFrom ∈ wG := gw 774 (by decide +kernel) (by decide +kernel)
set_option maxRecDepth 100000 in
theorem m_742 : Cond.codeWith yL_settleFrom cL_settleFrom 4 (some .int) [(0, 9, 12, 15)] ∈ wG := gw 771 (by decide +kernel) (by decide +kernel)
set_option maxRecDepth 100000 in
theorem m_743 : Cond.methodLink RL 40 yX7_append ∈ wG := gw 783 (by decide +kernel) (by decide +kernel)
set_option maxRecDepth 100000 in
theorem m_744 : Cond.instanceMethod yX7_append ∈ wG := gw 784 (by decide +kernel) (by decide +kernel)
set_option maxRecDepth 100000 in
theorem m_745 : Cond.selects RX7 yX7_append yX7_append ∈ wG := gw 785 (by decide +kernel) (by decide +kernel)
set_option maxRecDepth 100000 in
theorem m_746 : Cond.codeWith yL_append cL_append 4 (some .int) [(0, 9, 12, 15), (0, 9, 15, 17)] ∈ wG := gw 782 (by decide +kernel) (by decide +kernel)
set_option maxRecDepth 100000 in
theorem m_747 : Cond.methodLink RL 43 yX7_load ∈ wG := gw 790 (by decide +kernel) (by decide +kernel)
set_option maxRecDepth 100000 in
theorem m_748 : Cond.instanceMethod yX7_load ∈ wG := gw 791 (by decide +kernel) (by decide +kernel)
set_option maxRecDepth 100000 in
theorem m_749 : Cond.selects RX7 yX7_load yX7_load ∈ wG := gw 792 (by decide +kernel) (by decide +kernel)
set_option maxRecDepth 100000 in
theorem m_750 : Cond.codeWith yL_load cL_load 3 (some .int) [(0, 8, 11, 15), (0, 8, 14, 17)] ∈ wG := gw 789 (by decide +kernel) (by decide +kernel)
set_option maxRecDepth 100000 in
theorem m_751 : Cond.methodLink RL 47 yX7_undo ∈ wG := gw 802 (by decide +kernel) (by decide +kernel)
set_option maxRecDepth 100000 in
theorem m_752 : Cond.instanceMethod yX7_undo ∈ wG := gw 803 (by decide +kernel) (by decide +kernel)
set_option maxRecDepth 100000 in
theorem m_753 : Cond.selects RX7 yX7_undo yX7_undo ∈ wG := gw 804 (by decide +kernel) (by decide +kernel)
set_option maxRecDepth 100000 in
theorem m_754 : Cond.codeWith yL_undo cL_undo 3 (some .int) [(0, 8, 11, 17)] ∈ wG := gw 801 (by decide +kernel) (by decide +kernel)
set_option maxRecDepth 100000 in
theorem m_755 : Cond.methodLink RL 50 yX7_place ∈ wG := gw 813 (by decide +kernel) (by decide +kernel)
set_option maxRecDepth 100000 in
theorem m_756 : Cond.instanceMethod yX7_place ∈ wG := gw 814 (by decide +kernel) (by decide +kernel)
set_option maxRecDepth 100000 in
theorem m_757 : Cond.selects RX7 yX7_place yX7_place ∈ wG := gw 815 (by decide +kernel) (by decide +kernel)
set_option maxRecDepth 100000 in
theorem m_758 : Cond.codeWith yL_place cL_place 5 (some .int) [(0, 10, 13, 13), (0, 10, 17, 15)] ∈ wG := gw 812 (by decide +kernel) (by decide +kernel)
set_option maxRecDepth 100000 in
theorem m_759 : Cond.methodLink RL 53 yX7_condition ∈ wG := gw 820 (by decide +kernel) (by decide +kernel)
set_option maxRecDepth 100000 in
theorem m_760 : Cond.instanceMethod yX7_condition ∈ wG := gw 821 (by decide +kernel) (by decide +kernel)
set_option maxRecDepth 100000 in
theorem m_761 : Cond.selects RX7 yX7_condition yX7_condition ∈ wG := gw 822 (by decide +kernel) (by decide +kernel)
set_option maxRecDepth 100000 in
theorem m_762 : Cond.codeWith yL_condition cL_condition 5 (some .int) [(0, 10, 13, 13), (0, 10, 17, 15)] ∈ wG := gw 819 (by decide +kernel) (by decide +kernel)
set_option maxRecDepth 100000 in
theorem m_763 : Cond.methodLink RL 56 yX7_edited ∈ wG := gw 827 (by decide +kernel) (by decide +kernel)
set_option maxRecDepth 100000 in
theorem m_764 : Cond.instanceMethod yX7_edited ∈ wG := gw 828 (by decide +kernel) (by decide +kernel)
set_option maxRecDepth 100000 in
theorem m_765 : Cond.selects RX7 yX7_edited yX7_edited ∈ wG := gw 829 (by decide +kernel) (by decide +kernel)
set_option maxRecDepth 100000 in
theorem m_766 : Cond.codeWith yL_edited cL_edited 5 (some .int) [(0, 10, 13, 13), (0, 10, 17, 15)] ∈ wG := gw 826 (by decide +kernel) (by decide +kernel)
set_option maxRecDepth 100000 in
theorem m_767 : Cond.methodLink RL 59 yX7_widest ∈ wG := gw 834 (by decide +kernel) (by decide +kernel)
set_option maxRecDepth 100000 in
theorem m_768 : Cond.instanceMethod yX7_widest ∈ wG := gw 835 (by decide +kernel) (by decide +kernel)
set_option maxRecDepth 100000 in
theorem m_769 : Cond.selects RX7 yX7_widest yX7_widest ∈ wG := gw 836 (by decide +kernel) (by decide +kernel)
set_option maxRecDepth 100000 in
theorem m_770 : Cond.codeWith yL_widest cL_widest 5 (some .int) [(0, 10, 13, 13)] ∈ wG := gw 833 (by decide +kernel) (by decide +kernel)
set_option maxRecDepth 100000 in
theorem m_771 : Cond.methodLink RL 62 yX7_count ∈ wG := gw 841 (by decide +kernel) (by decide +kernel)
set_option maxRecDepth 100000 in
theorem m_772 : Cond.instanceMethod yX7_count ∈ wG := gw 842 (by decide +kernel) (by decide +kernel)
set_option maxRecDepth 100000 in
theorem m_773 : Cond.selects RX7 yX7_count yX7_count ∈ wG := gw 843 (by decide +kernel) (by decide +kernel)
set_option maxRecDepth 100000 in
theorem m_774 : Cond.codeWith yL_count cL_count 4 (some .int) [(0, 9, 12, 15)] ∈ wG := gw 840 (by decide +kernel) (by decide +kernel)
set_option maxRecDepth 100000 in
theorem m_775 : Cond.methodLink RL 65 yX7_ifEdited ∈ wG := gw 848 (by decide +kernel) (by decide +kernel)
set_option maxRecDepth 100000 in
theorem m_776 : Cond.instanceMethod yX7_ifEdited ∈ wG := gw 849 (by decide +kernel) (by decide +kernel)
set_option maxRecDepth 100000 in
theorem m_777 : Cond.selects RX7 yX7_ifEdited yX7_ifEdited ∈ wG := gw 850 (by decide +kernel) (by decide +kernel)
set_option maxRecDepth 100000 in
theorem m_778 : Cond.codeWith yL_ifEdited cL_ifEdited 7 (some .int) [(0, 14, 17, 13), (0, 14, 21, 15)] ∈ wG := gw 847 (by decide +kernel) (by decide +kernel)
set_option maxRecDepth 100000 in
theorem m_779 : Cond.methodLink RL 69 yX7_ifRemoved ∈ wG := gw 855 (by decide +kernel) (by decide +kernel)
set_option maxRecDepth 100000 in
theorem m_780 : Cond.instanceMethod yX7_ifRemoved ∈ wG := gw 856 (by decide +kernel) (by decide +kernel)
set_option maxRecDepth 100000 in
theorem m_781 : Cond.selects RX7 yX7_ifRemoved yX7_ifRemoved ∈ wG := gw 857 (by decide +kernel) (by decide +kernel)
set_option maxRecDepth 100000 in
theorem m_782 : Cond.codeWith yL_ifRemoved cL_ifRemoved 4 (some .int) [(0, 9, 12, 13)] ∈ wG := gw 854 (by decide +kernel) (by decide +kernel)
set_option maxRecDepth 100000 in
theorem m_783 : Cond.methodLink RL 72 yX7_neededStrength ∈ wG := gw 862 (by decide +kernel) (by decide +kernel)
set_option maxRecDepth 100000 in
theorem m_784 : Cond.instanceMethod yX7_neededStrength ∈ wG := gw 863 (by decide +kernel) (by decide +kernel)
set_option maxRecDepth 100000 in
theorem m_785 : Cond.selects RX7 yX7_neededStrength yX7_neededStrength ∈ wG := gw 864 (by decide +kernel) (by decide +kernel)
set_option maxRecDepth 100000 in
theorem m_786 : Cond.codeWith yL_neededStrength cL_neededStrength 4 (some .int) [(0, 9, 12, 13)] ∈ wG := gw 861 (by decide +kernel) (by decide +kernel)
set_option maxRecDepth 100000 in
theorem m_787 : Cond.classLink RL 8 RX7 ∈ wG := gw 94 (by decide +kernel) (by decide +kernel)
set_option maxRecDepth 100000 in
theorem m_788 : Cond.instantiable RX7 10 ∈ wG := gw 95 (by decide +kernel) (by decide +kernel)
set_option maxRecDepth 100000 in
theorem m_789 : Cond.classLink RL 76 RX8 ∈ wG := gw 866 (by decide +kernel) (by decide +kernel)
set_option maxRecDepth 100000 in
theorem m_790 : Cond.instantiable RX8 21 ∈ wG := gw 867 (by decide +kernel) (by decide +kernel)
set_option maxRecDepth 100000 in
theorem m_791 : Cond.arrayClass .long ∈ wG := gw 1229 (by decide +kernel) (by decide +kernel)
set_option maxRecDepth 100000 in
theorem m_792 : Cond.methodLink RL 75 yX7_init ∈ wG := gw 96 (by decide +kernel) (by decide +kernel)
set_option maxRecDepth 100000 in
theorem m_793 : Cond.instanceMethod yX7_init ∈ wG := gw 97 (by decide +kernel) (by decide +kernel)
set_option maxRecDepth 100000 in
theorem m_794 : Cond.methodLink RL 78 yX8_init ∈ wG := gw 868 (by decide +kernel) (by decide +kernel)
set_option maxRecDepth 100000 in
theorem m_795 : Cond.instanceMethod yX8_init ∈ wG := gw 869 (by decide +kernel) (by decide +kernel)
set_option maxRecDepth 100000 in
theorem m_796 : Cond.methodLink RL 79 yL_add ∈ wG := gw 566 (by decide +kernel) (by decide +kernel)
set_option maxRecDepth 100000 in
theorem m_797 : Cond.static yL_add ∈ wG := gw 567 (by decide +kernel) (by decide +kernel)
set_option maxRecDepth 100000 in
theorem m_798 : Cond.initialized RL ∈ wG := gw 75 (by decide +kernel) (by decide +kernel)
set_option maxRecDepth 100000 in
theorem m_799 : Cond.methodLink RL 84 yX8_add ∈ wG := gw 949 (by decide +kernel) (by decide +kernel)
set_option maxRecDepth 100000 in
theorem m_800 : Cond.instanceMethod yX8_add ∈ wG := gw 950 (by decide +kernel) (by decide +kernel)
set_option maxRecDepth 100000 in
theorem m_801 : Cond.selects RX8 yX8_add yX8_add ∈ wG := gw 951 (by decide +kernel) (by decide +kernel)
set_option maxRecDepth 100000 in
theorem m_802 : Cond.methodLink RL 85 yX8_thrown ∈ wG := gw 937 (by decide +kernel) (by decide +kernel)
set_option maxRecDepth 100000 in
theorem m_803 : Cond.instanceMethod yX8_thrown ∈ wG := gw 938 (by decide +kernel) (by decide +kernel)
set_option maxRecDepth 100000 in
theorem m_804 : Cond.selects RX8 yX8_thrown yX8_thrown ∈ wG := gw 939 (by decide +kernel) (by decide +kernel)
set_option maxRecDepth 100000 in
theorem m_805 : Cond.methodLink RL 88 yL_remove ∈ wG := gw 713 (by decide +kernel) (by decide +kernel)
set_option maxRecDepth 100000 in
theorem m_806 : Cond.static yL_remove ∈ wG := gw 714 (by decide +kernel) (by decide +kernel)
set_option maxRecDepth 100000 in
theorem m_807 : Cond.methodLink RL 91 yX8_remove ∈ wG := gw 1005 (by decide +kernel) (by decide +kernel)
set_option maxRecDepth 100000 in
theorem m_808 : Cond.instanceMethod yX8_remove ∈ wG := gw 1006 (by decide +kernel) (by decide +kernel)
set_option maxRecDepth 100000 in
theorem m_809 : Cond.selects RX8 yX8_remove yX8_remove ∈ wG := gw 1007 (by decide +kernel) (by decide +kernel)
set_option maxRecDepth 100000 in
theorem m_810 : Cond.methodLink RL 92 yL_setStrength ∈ wG := gw 728 (by decide +kernel) (by decide +kernel)
set_option maxRecDepth 100000 in
theorem m_811 : Cond.static yL_setStrength ∈ wG := gw 729 (by decide +kernel) (by decide +kernel)
set_option maxRecDepth 100000 in
theorem m_812 : Cond.methodLink RL 95 yX8_setStrength ∈ wG := gw 1013 (by decide +kernel) (by decide +kernel)
set_option maxRecDepth 100000 in
theorem m_813 : Cond.instanceMethod yX8_setStrength ∈ wG := gw 1014 (by decide +kernel) (by decide +kernel)
set_option maxRecDepth 100000 in
theorem m_814 : Cond.selects RX8 yX8_setStrength yX8_setStrength ∈ wG := gw 1015 (by decide +kernel) (by decide +kernel)
set_option maxRecDepth 100000 in
theorem m_815 : Cond.methodLink RL 96 yL_setNumber ∈ wG := gw 739 (by decide +kernel) (by decide +kernel)
set_option maxRecDepth 100000 in
theorem m_816 : Cond.static yL_setNumber ∈ wG := gw 740 (by decide +kernel) (by decide +kernel)
set_option maxRecDepth 100000 in
theorem m_817 : Cond.methodLink RL 98 yX8_setNumber ∈ wG := gw 1021 (by decide +kernel) (by decide +kernel)
set_option maxRecDepth 100000 in
theorem m_818 : Cond.instanceMethod yX8_setNumber ∈ wG := gw 1022 (by decide +kernel) (by decide +kernel)
set_option maxRecDepth 100000 in
theorem m_819 : Cond.selects RX8 yX8_setNumber yX8_setNumber ∈ wG := gw 1023 (by decide +kernel) (by decide +kernel)
set_option maxRecDepth 100000 in
theorem m_820 : Cond.methodLink RL 99 yL_setStay ∈ wG := gw 746 (by decide +kernel) (by decide +kernel)
set_option maxRecDepth 100000 in
theorem m_821 : Cond.static yL_setStay ∈ wG := gw 747 (by decide +kernel) (by decide +kernel)
set_option maxRecDepth 100000 in
theorem m_822 : Cond.methodLink RL 101 yX8_setStay ∈ wG := gw 1025 (by decide +kernel) (by decide +kernel)
set_option maxRecDepth 100000 in
theorem m_823 : Cond.instanceMethod yX8_setStay ∈ wG := gw 1026 (by decide +kernel) (by decide +kernel)
set_option maxRecDepth 100000 in
theorem m_824 : Cond.selects RX8 yX8_setStay yX8_setStay ∈ wG := gw 1027 (by decide +kernel) (by decide +kernel)
set_option maxRecDepth 100000 in
theorem m_825 : Cond.methodLink RL 102 yL_edit ∈ wG := gw 753 (by decide +kernel) (by decide +kernel)
set_option maxRecDepth 100000 in
theorem m_826 : Cond.static yL_edit ∈ wG := gw 754 (by decide +kernel) (by decide +kernel)
set_option maxRecDepth 100000 in
theorem m_827 : Cond.methodLink RL 105 yX8_edit ∈ wG := gw 1029 (by decide +kernel) (by decide +kernel)
set_option maxRecDepth 100000 in
theorem m_828 : Cond.instanceMethod yX8_edit ∈ wG := gw 1030 (by decide +kernel) (by decide +kernel)
set_option maxRecDepth 100000 in
theorem m_829 : Cond.selects RX8 yX8_edit yX8_edit ∈ wG := gw 1031 (by decide +kernel) (by decide +kernel)
set_option maxRecDepth 100000 in
theorem m_830 : Cond.methodLink RL 106 yX7_endEdits ∈ wG := gw 320 (by decide +kernel) (by decide +kernel)
set_option maxRecDepth 100000 in
theorem m_831 : Cond.instanceMethod yX7_endEdits ∈ wG := gw 321 (by decide +kernel) (by decide +kernel)
set_option maxRecDepth 100000 in
theorem m_832 : Cond.selects RX7 yX7_endEdits yX7_endEdits ∈ wG := gw 322 (by decide +kernel) (by decide +kernel)
set_option maxRecDepth 100000 in
theorem m_833 : Cond.methodLink RL 109 yX8_endEdits ∈ wG := gw 1044 (by decide +kernel) (by decide +kernel)
set_option maxRecDepth 100000 in
theorem m_834 : Cond.instanceMethod yX8_endEdits ∈ wG := gw 1045 (by decide +kernel) (by decide +kernel)
set_option maxRecDepth 100000 in
theorem m_835 : Cond.selects RX8 yX8_endEdits yX8_endEdits ∈ wG := gw 1046 (by decide +kernel) (by decide +kernel)
set_option maxRecDepth 100000 in
theorem m_836 : Cond.methodLink RL 110 yL_settleFrom ∈ wG := gw 769 (by decide +kernel) (by decide +kernel)
set_option maxRecDepth 100000 in
theorem m_837 : Cond.static yL_settleFrom ∈ wG := gw 770 (by decide +kernel) (by decide +kernel)
set_option maxRecDepth 100000 in
theorem m_838 : Cond.methodLink RL 112 yX8_settleFrom ∈ wG := gw 1048 (by decide +kernel) (by decide +kernel)
set_option maxRecDepth 100000 in
theorem m_839 : Cond.instanceMethod yX8_settleFrom ∈ wG := gw 1049 (by decide +kernel) (by decide +kernel)
set_option maxRecDepth 100000 in
theorem m_840 : Cond.selects RX8 yX8_settleFrom yX8_settleFrom ∈ wG := gw 1050 (by decide +kernel) (by decide +kernel)
set_option maxRecDepth 100000 in
theorem m_841 : Cond.methodLink RL 113 yL_append ∈ wG := gw 780 (by decide +kernel) (by decide +kernel)
set_option maxRecDepth 100000 in
theorem m_842 : Cond.static yL_append ∈ wG := gw 781 (by decide +kernel) (by decide +kernel)
set_option maxRecDepth 100000 in
theorem m_843 : Cond.methodLink RL 115 yX8_append ∈ wG := gw 1052 (by decide +kernel) (by decide +kernel)
set_option maxRecDepth 100000 in
theorem m_844 : Cond.instanceMethod yX8_append ∈ wG := gw 1053 (by decide +kernel) (by decide +kernel)
set_option maxRecDepth 100000 in
theorem m_845 : Cond.selects RX8 yX8_append yX8_append ∈ wG := gw 1054 (by decide +kernel) (by decide +kernel)
set_option maxRecDepth 100000 in
theorem m_846 : Cond.methodLink RL 116 yX7_clearBuffer ∈ wG := gw 388 (by decide +kernel) (by decide +kernel)
set_option maxRecDepth 100000 in
theorem m_847 : Cond.instanceMethod yX7_clearBuffer ∈ wG := gw 389 (by decide +kernel) (by decide +kernel)
set_option maxRecDepth 100000 in
theorem m_848 : Cond.selects RX7 yX7_clearBuffer yX7_clearBuffer ∈ wG := gw 390 (by decide +kernel) (by decide +kernel)
set_option maxRecDepth 100000 in
theorem m_849 : Cond.methodLink RL 119 yX8_clearBuffer ∈ wG := gw 1056 (by decide +kernel) (by decide +kernel)
set_option maxRecDepth 100000 in
theorem m_850 : Cond.instanceMethod yX8_clearBuffer ∈ wG := gw 1057 (by decide +kernel) (by decide +kernel)
set_option maxRecDepth 100000 in
theorem m_851 : Cond.selects RX8 yX8_clearBuffer yX8_clearBuffer ∈ wG := gw 1058 (by decide +kernel) (by decide +kernel)
set_option maxRecDepth 100000 in
theorem m_852 : Cond.methodLink RL 120 yX7_firstError ∈ wG := gw 392 (by decide +kernel) (by decide +kernel)
set_option maxRecDepth 100000 in
theorem m_853 : Cond.instanceMethod yX7_firstError ∈ wG := gw 393 (by decide +kernel) (by decide +kernel)
set_option maxRecDepth 100000 in
theorem m_854 : Cond.selects RX7 yX7_firstError yX7_firstError ∈ wG := gw 394 (by decide +kernel) (by decide +kernel)
set_option maxRecDepth 100000 in
theorem m_855 : Cond.methodLink RL 123 yX8_firstError ∈ wG := gw 1060 (by decide +kernel) (by decide +kernel)
set_option maxRecDepth 100000 in
theorem m_856 : Cond.instanceMethod yX8_firstError ∈ wG := gw 1061 (by decide +kernel) (by decide +kernel)
set_option maxRecDepth 100000 in
theorem m_857 : Cond.selects RX8 yX8_firstError yX8_firstError ∈ wG := gw 1062 (by decide +kernel) (by decide +kernel)
set_option maxRecDepth 100000 in
theorem m_858 : Cond.methodLink RL 124 yL_load ∈ wG := gw 787 (by decide +kernel) (by decide +kernel)
set_option maxRecDepth 100000 in
theorem m_859 : Cond.static yL_load ∈ wG := gw 788 (by decide +kernel) (by decide +kernel)
set_option maxRecDepth 100000 in
theorem m_860 : Cond.methodLink RL 127 yX8_load ∈ wG := gw 1100 (by decide +kernel) (by decide +kernel)
set_option maxRecDepth 100000 in
theorem m_861 : Cond.instanceMethod yX8_load ∈ wG := gw 1101 (by decide +kernel) (by decide +kernel)
set_option maxRecDepth 100000 in
theorem m_862 : Cond.selects RX8 yX8_load yX8_load ∈ wG := gw 1102 (by decide +kernel) (by decide +kernel)
set_option maxRecDepth 100000 in
theorem m_863 : Cond.methodLink RL 128 yL_undo ∈ wG := gw 799 (by decide +kernel) (by decide +kernel)
set_option maxRecDepth 100000 in
theorem m_864 : Cond.static yL_undo ∈ wG := gw 800 (by decide +kernel) (by decide +kernel)
set_option maxRecDepth 100000 in
theorem m_865 : Cond.methodLink RL 130 yX8_undo ∈ wG := gw 941 (by decide +kernel) (by decide +kernel)
set_option maxRecDepth 100000 in
theorem m_866 : Cond.instanceMethod yX8_undo ∈ wG := gw 942 (by decide +kernel) (by decide +kernel)
set_option maxRecDepth 100000 in
theorem m_867 : Cond.selects RX8 yX8_undo yX8_undo ∈ wG := gw 943 (by decide +kernel) (by decide +kernel)
set_option maxRecDepth 100000 in
theorem m_868 : Cond.methodLink RL 131 yL_place ∈ wG := gw 810 (by decide +kernel) (by decide +kernel)
set_option maxRecDepth 100000 in
theorem m_869 : Cond.static yL_place ∈ wG := gw 811 (by decide +kernel) (by decide +kernel)
set_option maxRecDepth 100000 in
theorem m_870 : Cond.methodLink RL 133 yX8_place ∈ wG := gw 1104 (by decide +kernel) (by decide +kernel)
set_option maxRecDepth 100000 in
theorem m_871 : Cond.instanceMethod yX8_place ∈ wG := gw 1105 (by decide +kernel) (by decide +kernel)
set_option maxRecDepth 100000 in
theorem m_872 : Cond.selects RX8 yX8_place yX8_place ∈ wG := gw 1106 (by decide +kernel) (by decide +kernel)
set_option maxRecDepth 100000 in
theorem m_873 : Cond.methodLink RL 134 yL_condition ∈ wG := gw 817 (by decide +kernel) (by decide +kernel)
set_option maxRecDepth 100000 in
theorem m_874 : Cond.static yL_condition ∈ wG := gw 818 (by decide +kernel) (by decide +kernel)
set_option maxRecDepth 100000 in
theorem m_875 : Cond.methodLink RL 136 yX8_condition ∈ wG := gw 1116 (by decide +kernel) (by decide +kernel)
set_option maxRecDepth 100000 in
theorem m_876 : Cond.instanceMethod yX8_condition ∈ wG := gw 1117 (by decide +kernel) (by decide +kernel)
set_option maxRecDepth 100000 in
theorem m_877 : Cond.selects RX8 yX8_condition yX8_condition ∈ wG := gw 1118 (by decide +kernel) (by decide +kernel)
set_option maxRecDepth 100000 in
theorem m_878 : Cond.methodLink RL 137 yL_edited ∈ wG := gw 824 (by decide +kernel) (by decide +kernel)
set_option maxRecDepth 100000 in
theorem m_879 : Cond.static yL_edited ∈ wG := gw 825 (by decide +kernel) (by decide +kernel)
set_option maxRecDepth 100000 in
theorem m_880 : Cond.methodLink RL 139 yX8_edited ∈ wG := gw 1132 (by decide +kernel) (by decide +kernel)
set_option maxRecDepth 100000 in
theorem m_881 : Cond.instanceMethod yX8_edited ∈ wG := gw 1133 (by decide +kernel) (by decide +kernel)
set_option maxRecDepth 100000 in
theorem m_882 : Cond.selects RX8 yX8_edited yX8_edited ∈ wG := gw 1134 (by decide +kernel) (by decide +kernel)
set_option maxRecDepth 100000 in
theorem m_883 : Cond.methodLink RL 140 yL_widest ∈ wG := gw 831 (by decide +kernel) (by decide +kernel)
set_option maxRecDepth 100000 in
theorem m_884 : Cond.static yL_widest ∈ wG := gw 832 (by decide +kernel) (by decide +kernel)
set_option maxRecDepth 100000 in
theorem m_885 : Cond.methodLink RL 142 yX8_widest ∈ wG := gw 1140 (by decide +kernel) (by decide +kernel)
set_option maxRecDepth 100000 in
theorem m_886 : Cond.instanceMethod yX8_widest ∈ wG := gw 1141 (by decide +kernel) (by decide +kernel)
set_option maxRecDepth 100000 in
theorem m_887 : Cond.selects RX8 yX8_widest yX8_widest ∈ wG := gw 1142 (by decide +kernel) (by decide +kernel)
set_option maxRecDepth 100000 in
theorem m_888 : Cond.methodLink RL 143 yL_count ∈ wG := gw 838 (by decide +kernel) (by decide +kernel)
set_option maxRecDepth 100000 in
theorem m_889 : Cond.static yL_count ∈ wG := gw 839 (by decide +kernel) (by decide +kernel)
set_option maxRecDepth 100000 in
theorem m_890 : Cond.methodLink RL 145 yX8_count ∈ wG := gw 1144 (by decide +kernel) (by decide +kernel)
set_option maxRecDepth 100000 in
theorem m_891 : Cond.instanceMethod yX8_count ∈ wG := gw 1145 (by decide +kernel) (by decide +kernel)
set_option maxRecDepth 100000 in
theorem m_892 : Cond.selects RX8 yX8_count yX8_count ∈ wG := gw 1146 (by decide +kernel) (by decide +kernel)
set_option maxRecDepth 100000 in
theorem m_893 : Cond.methodLink RL 146 yL_ifEdited ∈ wG := gw 845 (by decide +kernel) (by decide +kernel)
set_option maxRecDepth 100000 in
theorem m_894 : Cond.static yL_ifEdited ∈ wG := gw 846 (by decide +kernel) (by decide +kernel)
set_option maxRecDepth 100000 in
theorem m_895 : Cond.methodLink RL 149 yX8_ifEdited ∈ wG := gw 1172 (by decide +kernel) (by decide +kernel)
set_option maxRecDepth 100000 in
theorem m_896 : Cond.instanceMethod yX8_ifEdited ∈ wG := gw 1173 (by decide +kernel) (by decide +kernel)
set_option maxRecDepth 100000 in
theorem m_897 : Cond.selects RX8 yX8_ifEdited yX8_ifEdited ∈ wG := gw 1174 (by decide +kernel) (by decide +kernel)
set_option maxRecDepth 100000 in
theorem m_898 : Cond.methodLink RL 150 yL_ifRemoved ∈ wG := gw 852 (by decide +kernel) (by decide +kernel)
set_option maxRecDepth 100000 in
theorem m_899 : Cond.static yL_ifRemoved ∈ wG := gw 853 (by decide +kernel) (by decide +kernel)
set_option maxRecDepth 100000 in
theorem m_900 : Cond.methodLink RL 152 yX8_ifRemoved ∈ wG := gw 1180 (by decide +kernel) (by decide +kernel)
set_option maxRecDepth 100000 in
theorem m_901 : Cond.instanceMethod yX8_ifRemoved ∈ wG := gw 1181 (by decide +kernel) (by decide +kernel)
set_option maxRecDepth 100000 in
theorem m_902 : Cond.selects RX8 yX8_ifRemoved yX8_ifRemoved ∈ wG := gw 1182 (by decide +kernel) (by decide +kernel)
set_option maxRecDepth 100000 in
theorem m_903 : Cond.methodLink RL 153 yL_neededStrength ∈ wG := gw 859 (by decide +kernel) (by decide +kernel)
set_option maxRecDepth 100000 in
theorem m_904 : Cond.static yL_neededStrength ∈ wG := gw 860 (by decide +kernel) (by decide +kernel)
set_option maxRecDepth 100000 in
theorem m_905 : Cond.methodLink RL 155 yX8_neededStrength ∈ wG := gw 1188 (by decide +kernel) (by decide +kernel)
set_option maxRecDepth 100000 in
theorem m_906 : Cond.instanceMethod yX8_neededStrength ∈ wG := gw 1189 (by decide +kernel) (by decide +kernel)
set_option maxRecDepth 100000 in
theorem m_907 : Cond.selects RX8 yX8_neededStrength yX8_neededStrength ∈ wG := gw 1190 (by decide +kernel) (by decide +kernel)
set_option maxRecDepth 100000 in
theorem m_908 : Cond.methodLink RL 156 yX7_freedom ∈ wG := gw 455 (by decide +kernel) (by decide +kernel)
set_option maxRecDepth 100000 in
theorem m_909 : Cond.methodLink RL 160 yX8_freedom ∈ wG := gw 1196 (by decide +kernel) (by decide +kernel)
set_option maxRecDepth 100000 in
theorem m_910 : Cond.instanceMethod yX8_freedom ∈ wG := gw 1197 (by decide +kernel) (by decide +kernel)
set_option maxRecDepth 100000 in
theorem m_911 : Cond.selects RX8 yX8_freedom yX8_freedom ∈ wG := gw 1198 (by decide +kernel) (by decide +kernel)
set_option maxRecDepth 100000 in
theorem m_912 : Cond.methodLink RL 161 yX7_digest ∈ wG := gw 466 (by decide +kernel) (by decide +kernel)
set_option maxRecDepth 100000 in
theorem m_913 : Cond.instanceMethod yX7_digest ∈ wG := gw 467 (by decide +kernel) (by decide +kernel)
set_option maxRecDepth 100000 in
theorem m_914 : Cond.selects RX7 yX7_digest yX7_digest ∈ wG := gw 468 (by decide +kernel) (by decide +kernel)
set_option maxRecDepth 100000 in
theorem m_915 : Cond.methodLink RL 165 yX8_digest ∈ wG := gw 1205 (by decide +kernel) (by decide +kernel)
set_option maxRecDepth 100000 in
theorem m_916 : Cond.instanceMethod yX8_digest ∈ wG := gw 1206 (by decide +kernel) (by decide +kernel)
set_option maxRecDepth 100000 in
theorem m_917 : Cond.selects RX8 yX8_digest yX8_digest ∈ wG := gw 1207 (by decide +kernel) (by decide +kernel)
set_option maxRecDepth 100000 in
theorem f_X0 : ∀ w ∈ u_ws RX0 TX0 1, w ∈ wG := fun w h => List.mem_filter.mpr ⟨(show ∀ w ∈ u_ws RX0 TX0 1, w ∈ lw_tbl by decide +kernel) w h, (show ∀ w ∈ u_ws RX0 TX0 1, goodWord w = true by decide +kernel) w h⟩
set_option maxRecDepth 100000 in
theorem f_X1 : ∀ w ∈ u_ws RX1 TX1 5, w ∈ wG := fun w h => List.mem_filter.mpr ⟨(show ∀ w ∈ u_ws RX1 TX1 5, w ∈ lw_tbl by decide +kernel) w h, (show ∀ w ∈ u_ws RX1 TX1 5, goodWord w = true by decide +kernel) w h⟩
set_option maxRecDepth 100000 in
theorem f_X2 : ∀ w ∈ u_ws RX2 TX2 3, w ∈ wG := fun w h => List.mem_filter.mpr ⟨(show ∀ w ∈ u_ws RX2 TX2 3, w ∈ lw_tbl by decide +kernel) w h, (show ∀ w ∈ u_ws RX2 TX2 3, goodWord w = true by decide +kernel) w h⟩
set_option maxRecDepth 100000 in
theorem f_X3 : ∀ w ∈ u_ws RX3 TX3 4, w ∈ wG := fun w h => List.mem_filter.mpr ⟨(show ∀ w ∈ u_ws RX3 TX3 4, w ∈ lw_tbl by decide +kernel) w h, (show ∀ w ∈ u_ws RX3 TX3 4, goodWord w = true by decide +kernel) w h⟩
set_option maxRecDepth 100000 in
theorem f_X4 : ∀ w ∈ u_ws RX4 TX4 3, w ∈ wG := fun w h => List.mem_filter.mpr ⟨(show ∀ w ∈ u_ws RX4 TX4 3, w ∈ lw_tbl by decide +kernel) w h, (show ∀ w ∈ u_ws RX4 TX4 3, goodWord w = true by decide +kernel) w h⟩
set_option maxRecDepth 100000 in
theorem f_X5 : ∀ w ∈ u_ws RX5 TX5 6, w ∈ wG := fun w h => List.mem_filter.mpr ⟨(show ∀ w ∈ u_ws RX5 TX5 6, w ∈ lw_tbl by decide +kernel) w h, (show ∀ w ∈ u_ws RX5 TX5 6, goodWord w = true by decide +kernel) w h⟩
set_option maxRecDepth 100000 in
theorem f_X6 : ∀ w ∈ u_ws RX6 TX6 8, w ∈ wG := fun w h => List.mem_filter.mpr ⟨(show ∀ w ∈ u_ws RX6 TX6 8, w ∈ lw_tbl by decide +kernel) w h, (show ∀ w ∈ u_ws RX6 TX6 8, goodWord w = true by decide +kernel) w h⟩
set_option maxRecDepth 100000 in
theorem f_X7 : ∀ w ∈ u_ws RX7 TX7 10, w ∈ wG := fun w h => List.mem_filter.mpr ⟨(show ∀ w ∈ u_ws RX7 TX7 10, w ∈ lw_tbl by decide +kernel) w h, (show ∀ w ∈ u_ws RX7 TX7 10, goodWord w = true by decide +kernel) w h⟩
set_option maxRecDepth 100000 in
theorem f_X8 : ∀ w ∈ u_ws RX8 TX8 21, w ∈ wG := fun w h => List.mem_filter.mpr ⟨(show ∀ w ∈ u_ws RX8 TX8 21, w ∈ lw_tbl by decide +kernel) w h, (show ∀ w ∈ u_ws RX8 TX8 21, goodWord w = true by decide +kernel) w h⟩
