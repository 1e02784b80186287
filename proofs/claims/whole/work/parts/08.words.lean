theorem wd_0 : Cond.selects RX5 yX5_accept yX5_accept ∈ ALLW := aw 0 (by decide +kernel) (by decide +kernel)
theorem wd_1 : Cond.selects RX5 yX5_acceptDigit yX5_acceptDigit ∈ ALLW := aw 1 (by decide +kernel) (by decide +kernel)
theorem wd_2 : Cond.selects RX5 yX5_partIsWhole yX5_partIsWhole ∈ ALLW := aw 2 (by decide +kernel) (by decide +kernel)
theorem wd_3 : Cond.selects RX6 yX6_sumOf yX6_sumOf ∈ ALLW := aw 3 (by decide +kernel) (by decide +kernel)
theorem wd_4 : Cond.selects RX6 yX6_propertyOf yX6_propertyOf ∈ ALLW := aw 4 (by decide +kernel) (by decide +kernel)
theorem wd_5 : Cond.selects RX6 yX6_countOf yX6_countOf ∈ ALLW := aw 5 (by decide +kernel) (by decide +kernel)
theorem wd_6 : Cond.selects RX6 yX6_mixBlock yX6_mixBlock ∈ ALLW := aw 6 (by decide +kernel) (by decide +kernel)
theorem wd_7 : Cond.selects RX6 yX6_regretOf yX6_regretOf ∈ ALLW := aw 7 (by decide +kernel) (by decide +kernel)
theorem wd_8 : Cond.selects RX6 yX6_gainOf yX6_gainOf ∈ ALLW := aw 8 (by decide +kernel) (by decide +kernel)
theorem wd_9 : Cond.selects RX6 yX6_fineOf yX6_fineOf ∈ ALLW := aw 9 (by decide +kernel) (by decide +kernel)
theorem wd_10 : Cond.selects RX6 yX6_cheapestValue yX6_cheapestValue ∈ ALLW := aw 10 (by decide +kernel) (by decide +kernel)
theorem wd_11 : Cond.selects RX6 yX6_mateOf yX6_mateOf ∈ ALLW := aw 11 (by decide +kernel) (by decide +kernel)
theorem wd_13 : Cond.selects RX6 yX6_requireRoomForBlock yX6_requireRoomForBlock ∈ ALLW := aw 13 (by decide +kernel) (by decide +kernel)
theorem wd_14 : Cond.selects RX3 yX3_dropOldest yX3_dropOldest ∈ ALLW := aw 14 (by decide +kernel) (by decide +kernel)
theorem wd_15 : Cond.selects RX5 yX5_endPart yX5_endPart ∈ ALLW := aw 15 (by decide +kernel) (by decide +kernel)
theorem wd_16 : Cond.selects RX6 yX6_find yX6_find ∈ ALLW := aw 16 (by decide +kernel) (by decide +kernel)
theorem wd_17 : Cond.selects RX6 yX6_findWithPlace yX6_findWithPlace ∈ ALLW := aw 17 (by decide +kernel) (by decide +kernel)
theorem wd_18 : Cond.selects RX6 yX6_settingAt yX6_settingAt ∈ ALLW := aw 18 (by decide +kernel) (by decide +kernel)
theorem wd_19 : Cond.selects RX7 yX7_save yX7_save ∈ ALLW := aw 19 (by decide +kernel) (by decide +kernel)
theorem wd_20 : Cond.selects RX7 yX7_begin yX7_begin ∈ ALLW := aw 20 (by decide +kernel) (by decide +kernel)
theorem wd_21 : Cond.selects RX7 yX7_setOf yX7_setOf ∈ ALLW := aw 21 (by decide +kernel) (by decide +kernel)
theorem wd_22 : Cond.selects RX7 yX7_choose yX7_choose ∈ ALLW := aw 22 (by decide +kernel) (by decide +kernel)
theorem wd_23 : Cond.selects RX7 yX7_lay yX7_lay ∈ ALLW := aw 23 (by decide +kernel) (by decide +kernel)
theorem wd_24 : Cond.selects RX7 yX7_of yX7_of ∈ ALLW := aw 24 (by decide +kernel) (by decide +kernel)
theorem wd_25 : Cond.selects RX7 yX7_bestCode yX7_bestCode ∈ ALLW := aw 25 (by decide +kernel) (by decide +kernel)
theorem wd_26 : Cond.selects RX7 yX7_costBy yX7_costBy ∈ ALLW := aw 26 (by decide +kernel) (by decide +kernel)
theorem wd_27 : Cond.selects RX7 yX7_runsOf yX7_runsOf ∈ ALLW := aw 27 (by decide +kernel) (by decide +kernel)
theorem wd_28 : Cond.selects RX7 yX7_different yX7_different ∈ ALLW := aw 28 (by decide +kernel) (by decide +kernel)
theorem wd_29 : Cond.selects RX7 yX7_firstOf yX7_firstOf ∈ ALLW := aw 29 (by decide +kernel) (by decide +kernel)
theorem wd_30 : Cond.selects RX7 yX7_stepBits yX7_stepBits ∈ ALLW := aw 30 (by decide +kernel) (by decide +kernel)
theorem wd_31 : Cond.selects RX7 yX7_rare yX7_rare ∈ ALLW := aw 31 (by decide +kernel) (by decide +kernel)
theorem wd_32 : Cond.selects RX7 yX7_commonOne yX7_commonOne ∈ ALLW := aw 32 (by decide +kernel) (by decide +kernel)
theorem wd_33 : Cond.selects RX7 yX7_timesOf yX7_timesOf ∈ ALLW := aw 33 (by decide +kernel) (by decide +kernel)
theorem wd_34 : Cond.selects RX7 yX7_frameBits yX7_frameBits ∈ ALLW := aw 34 (by decide +kernel) (by decide +kernel)
theorem wd_35 : Cond.selects RX7 yX7_least yX7_least ∈ ALLW := aw 35 (by decide +kernel) (by decide +kernel)
theorem wd_36 : Cond.selects RX7 yX7_rightUpTo yX7_rightUpTo ∈ ALLW := aw 36 (by decide +kernel) (by decide +kernel)
theorem wd_37 : Cond.selects RX7 yX7_takes yX7_takes ∈ ALLW := aw 37 (by decide +kernel) (by decide +kernel)
theorem wd_38 : Cond.selects RX7 yX7_isEnded yX7_isEnded ∈ ALLW := aw 38 (by decide +kernel) (by decide +kernel)
theorem wd_39 : Cond.selects RX7 yX7_takesDigit yX7_takesDigit ∈ ALLW := aw 39 (by decide +kernel) (by decide +kernel)
theorem wd_40 : Cond.selects RX7 yX7_valuesRead yX7_valuesRead ∈ ALLW := aw 40 (by decide +kernel) (by decide +kernel)
theorem wd_41 : Cond.selects RX7 yX7_times yX7_times ∈ ALLW := aw 41 (by decide +kernel) (by decide +kernel)
theorem wd_42 : Cond.selects RX7 yX7_isBlock yX7_isBlock ∈ ALLW := aw 42 (by decide +kernel) (by decide +kernel)
theorem wd_43 : Cond.selects RX7 yX7_isPlace yX7_isPlace ∈ ALLW := aw 43 (by decide +kernel) (by decide +kernel)
theorem wd_44 : Cond.selects RX7 yX7_canJoin yX7_canJoin ∈ ALLW := aw 44 (by decide +kernel) (by decide +kernel)
theorem wd_45 : Cond.selects RX7 yX7_layBoth yX7_layBoth ∈ ALLW := aw 45 (by decide +kernel) (by decide +kernel)
theorem wd_46 : Cond.selects RX7 yX7_remove yX7_remove ∈ ALLW := aw 46 (by decide +kernel) (by decide +kernel)
theorem wd_47 : Cond.selects RX7 yX7_dayOf yX7_dayOf ∈ ALLW := aw 47 (by decide +kernel) (by decide +kernel)
theorem wd_48 : Cond.selects RX7 yX7_regretBy yX7_regretBy ∈ ALLW := aw 48 (by decide +kernel) (by decide +kernel)
theorem wd_49 : Cond.selects RX7 yX7_fineOf yX7_fineOf ∈ ALLW := aw 49 (by decide +kernel) (by decide +kernel)
theorem wd_50 : Cond.selects RX7 yX7_daysLeft yX7_daysLeft ∈ ALLW := aw 50 (by decide +kernel) (by decide +kernel)
theorem wd_51 : Cond.selects RX7 yX7_workBy yX7_workBy ∈ ALLW := aw 51 (by decide +kernel) (by decide +kernel)
theorem wd_52 : Cond.selects RX7 yX7_answer yX7_answer ∈ ALLW := aw 52 (by decide +kernel) (by decide +kernel)
theorem wd_53 : Cond.selects RX7 yX7_blockNow yX7_blockNow ∈ ALLW := aw 53 (by decide +kernel) (by decide +kernel)
theorem wd_54 : Cond.selects RX7 yX7_firstAlike yX7_firstAlike ∈ ALLW := aw 54 (by decide +kernel) (by decide +kernel)
theorem wd_55 : Cond.selects RX7 yX7_areAlike yX7_areAlike ∈ ALLW := aw 55 (by decide +kernel) (by decide +kernel)
theorem wd_56 : Cond.selects RX7 yX7_counted yX7_counted ∈ ALLW := aw 56 (by decide +kernel) (by decide +kernel)
theorem wd_57 : Cond.selects RX7 yX7_sumOf yX7_sumOf ∈ ALLW := aw 57 (by decide +kernel) (by decide +kernel)
theorem wd_58 : Cond.selects RX7 yX7_blocksWith yX7_blocksWith ∈ ALLW := aw 58 (by decide +kernel) (by decide +kernel)
theorem wd_59 : Cond.selects RX7 yX7_costNow yX7_costNow ∈ ALLW := aw 59 (by decide +kernel) (by decide +kernel)
theorem wd_60 : Cond.selects RX7 yX7_workNow yX7_workNow ∈ ALLW := aw 60 (by decide +kernel) (by decide +kernel)
theorem wd_61 : Cond.selects RX7 yX7_regretThen yX7_regretThen ∈ ALLW := aw 61 (by decide +kernel) (by decide +kernel)
theorem wd_62 : Cond.selects RX7 yX7_gainNow yX7_gainNow ∈ ALLW := aw 62 (by decide +kernel) (by decide +kernel)
theorem wd_63 : Cond.selects RX7 yX7_cheapestNow yX7_cheapestNow ∈ ALLW := aw 63 (by decide +kernel) (by decide +kernel)
theorem wd_64 : Cond.selects RX7 yX7_mateFor yX7_mateFor ∈ ALLW := aw 64 (by decide +kernel) (by decide +kernel)
theorem wd_65 : Cond.selects RX7 yX7_mean yX7_mean ∈ ALLW := aw 65 (by decide +kernel) (by decide +kernel)
theorem wd_66 : Cond.selects RX7 yX7_mix yX7_mix ∈ ALLW := aw 66 (by decide +kernel) (by decide +kernel)
theorem wd_67 : Cond.selects RX7 yX7_mixBlock yX7_mixBlock ∈ ALLW := aw 67 (by decide +kernel) (by decide +kernel)
theorem wd_69 : Cond.initialized RX6 ∈ ALLW := aw 69 (by decide +kernel) (by decide +kernel)
theorem wd_70 : Cond.initialized RX2 ∈ ALLW := aw 70 (by decide +kernel) (by decide +kernel)
theorem wd_71 : Cond.initialized RX0 ∈ ALLW := aw 71 (by decide +kernel) (by decide +kernel)
theorem wd_72 : Cond.initialized RX4 ∈ ALLW := aw 72 (by decide +kernel) (by decide +kernel)
theorem wd_73 : Cond.initialized RX3 ∈ ALLW := aw 73 (by decide +kernel) (by decide +kernel)
theorem wd_74 : Cond.initialized RX5 ∈ ALLW := aw 74 (by decide +kernel) (by decide +kernel)
theorem wd_75 : Cond.initialized RX7 ∈ ALLW := aw 75 (by decide +kernel) (by decide +kernel)
theorem wd_79 : Cond.initialized "java/lang/IllegalArgumentException" ∈ ALLW := aw 79 (by decide +kernel) (by decide +kernel)
theorem wd_80 : Cond.initialized "java/lang/IllegalStateException" ∈ ALLW := aw 80 (by decide +kernel) (by decide +kernel)
theorem wd_81 : Cond.initialized RX1 ∈ ALLW := aw 81 (by decide +kernel) (by decide +kernel)
theorem wd_82 : Cond.initialized "java/lang/IndexOutOfBoundsException" ∈ ALLW := aw 82 (by decide +kernel) (by decide +kernel)
theorem wd_83 : Cond.initialized "java/lang/Math" ∈ ALLW := aw 83 (by decide +kernel) (by decide +kernel)
theorem wd_84 : Cond.initialized RJxe99ae ∈ ALLW := aw 84 (by decide +kernel) (by decide +kernel)
theorem wd_88 : Cond.instanceMethod yX6_init ∈ ALLW := aw 88 (by decide +kernel) (by decide +kernel)
theorem wd_89 : Cond.code yX6_init cX6_init 1 none ∈ ALLW := aw 89 (by decide +kernel) (by decide +kernel)
theorem wd_90 : Cond.methodLink RX6 1 objectInit ∈ ALLW := aw 90 (by decide +kernel) (by decide +kernel)
theorem wd_91 : Cond.instanceMethod objectInit ∈ ALLW := aw 91 (by decide +kernel) (by decide +kernel)
theorem wd_92 : Cond.code objectInit ⟨#[0xb1]⟩ 1 none ∈ ALLW := aw 92 (by decide +kernel) (by decide +kernel)
theorem wd_93 : Cond.classLink RX6 7 RX2 ∈ ALLW := aw 93 (by decide +kernel) (by decide +kernel)
theorem wd_94 : Cond.instantiable RX2 5 ∈ ALLW := aw 94 (by decide +kernel) (by decide +kernel)
theorem wd_95 : Cond.methodLink RX6 9 yX2_init ∈ ALLW := aw 95 (by decide +kernel) (by decide +kernel)
theorem wd_96 : Cond.instanceMethod yX2_init ∈ ALLW := aw 96 (by decide +kernel) (by decide +kernel)
theorem wd_97 : Cond.code yX2_init cX2_init 2 none ∈ ALLW := aw 97 (by decide +kernel) (by decide +kernel)
theorem wd_98 : Cond.methodLink RX2 3 objectInit ∈ ALLW := aw 98 (by decide +kernel) (by decide +kernel)
theorem wd_99 : Cond.classLink RX2 9 RX0 ∈ ALLW := aw 99 (by decide +kernel) (by decide +kernel)
theorem wd_101 : Cond.instantiable RX0 8 ∈ ALLW := aw 101 (by decide +kernel) (by decide +kernel)
theorem wd_103 : Cond.instanceMethod yX0_init ∈ ALLW := aw 103 (by decide +kernel) (by decide +kernel)
theorem wd_104 : Cond.code yX0_init cX0_init 1 none ∈ ALLW := aw 104 (by decide +kernel) (by decide +kernel)
theorem wd_105 : Cond.methodLink RX0 1 objectInit ∈ ALLW := aw 105 (by decide +kernel) (by decide +kernel)
theorem wd_106 : Cond.classLink RX0 7 RX4 ∈ ALLW := aw 106 (by decide +kernel) (by decide +kernel)
theorem wd_107 : Cond.instantiable RX4 2 ∈ ALLW := aw 107 (by decide +kernel) (by decide +kernel)
theorem wd_109 : Cond.instanceMethod yX4_init ∈ ALLW := aw 109 (by decide +kernel) (by decide +kernel)
theorem wd_110 : Cond.code yX4_init cX4_init 1 none ∈ ALLW := aw 110 (by decide +kernel) (by decide +kernel)
theorem wd_111 : Cond.methodLink RX4 3 objectInit ∈ ALLW := aw 111 (by decide +kernel) (by decide +kernel)
theorem wd_112 : Cond.fieldLink RX4 9 RX4 "values" "[I" ∈ ALLW := aw 112 (by decide +kernel) (by decide +kernel)
theorem wd_113 : Cond.fieldLink RX4 15 RX4 "size" "I" ∈ ALLW := aw 113 (by decide +kernel) (by decide +kernel)
theorem wd_119 : Cond.arrayClass .int ∈ ALLW := aw 119 (by decide +kernel) (by decide +kernel)
theorem wd_120 : Cond.fieldLink RX0 10 RX0 "row" "LVowBlocks$Row;" ∈ ALLW := aw 120 (by decide +kernel) (by decide +kernel)
theorem wd_121 : Cond.fieldLink RX6 81 RX0 "row" "LVowBlocks$Row;" ∈ ALLW := aw 121 (by decide +kernel) (by decide +kernel)
theorem wd_122 : Cond.fieldLink RX2 51 RX0 "row" "LVowBlocks$Row;" ∈ ALLW := aw 122 (by decide +kernel) (by decide +kernel)
theorem wd_123 : Cond.fieldLink RX0 16 RX0 "code" "I" ∈ ALLW := aw 123 (by decide +kernel) (by decide +kernel)
theorem wd_124 : Cond.fieldLink RX2 65 RX0 "code" "I" ∈ ALLW := aw 124 (by decide +kernel) (by decide +kernel)
theorem wd_125 : Cond.fieldLink RX6 170 RX0 "code" "I" ∈ ALLW := aw 125 (by decide +kernel) (by decide +kernel)
theorem wd_126 : Cond.fieldLink RX0 20 RX0 "vowed" "I" ∈ ALLW := aw 126 (by decide +kernel) (by decide +kernel)
theorem wd_127 : Cond.fieldLink RX6 277 RX0 "vowed" "I" ∈ ALLW := aw 127 (by decide +kernel) (by decide +kernel)
theorem wd_128 : Cond.fieldLink RX0 23 RX0 "regrets" "I" ∈ ALLW := aw 128 (by decide +kernel) (by decide +kernel)
theorem wd_129 : Cond.fieldLink RX6 280 RX0 "regrets" "I" ∈ ALLW := aw 129 (by decide +kernel) (by decide +kernel)
theorem wd_130 : Cond.fieldLink RX0 26 RX0 "worked" "I" ∈ ALLW := aw 130 (by decide +kernel) (by decide +kernel)
theorem wd_131 : Cond.fieldLink RX6 167 RX0 "worked" "I" ∈ ALLW := aw 131 (by decide +kernel) (by decide +kernel)
theorem wd_132 : Cond.fieldLink RX0 29 RX0 "questions" "I" ∈ ALLW := aw 132 (by decide +kernel) (by decide +kernel)
theorem wd_133 : Cond.fieldLink RX6 164 RX0 "questions" "I" ∈ ALLW := aw 133 (by decide +kernel) (by decide +kernel)
theorem wd_134 : Cond.fieldLink RX0 32 RX0 "fines" "I" ∈ ALLW := aw 134 (by decide +kernel) (by decide +kernel)
theorem wd_135 : Cond.fieldLink RX6 155 RX0 "fines" "I" ∈ ALLW := aw 135 (by decide +kernel) (by decide +kernel)
theorem wd_136 : Cond.fieldLink RX0 35 RX0 "choices" "I" ∈ ALLW := aw 136 (by decide +kernel) (by decide +kernel)
theorem wd_137 : Cond.fieldLink RX6 289 RX0 "choices" "I" ∈ ALLW := aw 137 (by decide +kernel) (by decide +kernel)
theorem wd_155 : Cond.fieldLink RX2 11 RX2 "blocks" "[LVowBlocks$Block;" ∈ ALLW := aw 155 (by decide +kernel) (by decide +kernel)
theorem wd_156 : Cond.fieldLink RX2 17 RX2 "size" "I" ∈ ALLW := aw 156 (by decide +kernel) (by decide +kernel)
theorem wd_157 : Cond.fieldLink RX2 21 RX2 "day" "I" ∈ ALLW := aw 157 (by decide +kernel) (by decide +kernel)
theorem wd_158 : Cond.fieldLink RX6 142 RX2 "day" "I" ∈ ALLW := aw 158 (by decide +kernel) (by decide +kernel)
theorem wd_159 : Cond.fieldLink RX2 24 RX2 "year" "I" ∈ ALLW := aw 159 (by decide +kernel) (by decide +kernel)
theorem wd_160 : Cond.fieldLink RX6 186 RX2 "year" "I" ∈ ALLW := aw 160 (by decide +kernel) (by decide +kernel)
theorem wd_161 : Cond.fieldLink RX2 27 RX2 "fine" "I" ∈ ALLW := aw 161 (by decide +kernel) (by decide +kernel)
theorem wd_162 : Cond.fieldLink RX6 189 RX2 "fine" "I" ∈ ALLW := aw 162 (by decide +kernel) (by decide +kernel)
theorem wd_174 : Cond.classLink RX6 16 RX3 ∈ ALLW := aw 174 (by decide +kernel) (by decide +kernel)
theorem wd_175 : Cond.instantiable RX3 2 ∈ ALLW := aw 175 (by decide +kernel) (by decide +kernel)
theorem wd_176 : Cond.methodLink RX6 18 yX3_init ∈ ALLW := aw 176 (by decide +kernel) (by decide +kernel)
theorem wd_177 : Cond.instanceMethod yX3_init ∈ ALLW := aw 177 (by decide +kernel) (by decide +kernel)
theorem wd_178 : Cond.code yX3_init cX3_init 2 none ∈ ALLW := aw 178 (by decide +kernel) (by decide +kernel)
theorem wd_179 : Cond.methodLink RX3 3 objectInit ∈ ALLW := aw 179 (by decide +kernel) (by decide +kernel)
theorem wd_180 : Cond.classLink RX3 9 RX2 ∈ ALLW := aw 180 (by decide +kernel) (by decide +kernel)
theorem wd_182 : Cond.methodLink RX3 21 yX2_init ∈ ALLW := aw 182 (by decide +kernel) (by decide +kernel)
theorem wd_183 : Cond.fieldLink RX3 11 RX3 "states" "[LVowBlocks$Column;" ∈ ALLW := aw 183 (by decide +kernel) (by decide +kernel)
theorem wd_184 : Cond.fieldLink RX3 17 RX3 "size" "I" ∈ ALLW := aw 184 (by decide +kernel) (by decide +kernel)
theorem wd_190 : Cond.classLink RX6 23 RX5 ∈ ALLW := aw 190 (by decide +kernel) (by decide +kernel)
theorem wd_191 : Cond.instantiable RX5 5 ∈ ALLW := aw 191 (by decide +kernel) (by decide +kernel)
theorem wd_193 : Cond.instanceMethod yX5_init ∈ ALLW := aw 193 (by decide +kernel) (by decide +kernel)
theorem wd_194 : Cond.code yX5_init cX5_init 1 none ∈ ALLW := aw 194 (by decide +kernel) (by decide +kernel)
theorem wd_195 : Cond.methodLink RX5 3 objectInit ∈ ALLW := aw 195 (by decide +kernel) (by decide +kernel)
theorem wd_196 : Cond.fieldLink RX5 9 RX5 "signs" "[I" ∈ ALLW := aw 196 (by decide +kernel) (by decide +kernel)
theorem wd_197 : Cond.fieldLink RX5 15 RX5 "length" "I" ∈ ALLW := aw 197 (by decide +kernel) (by decide +kernel)
theorem wd_198 : Cond.fieldLink RX5 19 RX5 "mode" "I" ∈ ALLW := aw 198 (by decide +kernel) (by decide +kernel)
theorem wd_199 : Cond.fieldLink RX5 22 RX5 "value" "I" ∈ ALLW := aw 199 (by decide +kernel) (by decide +kernel)
theorem wd_200 : Cond.fieldLink RX5 25 RX5 "times" "I" ∈ ALLW := aw 200 (by decide +kernel) (by decide +kernel)
theorem wd_212 : Cond.classLink RX6 30 RX4 ∈ ALLW := aw 212 (by decide +kernel) (by decide +kernel)
theorem wd_214 : Cond.fieldLink RX6 10 RX6 "column" "LVowBlocks$Column;" ∈ ALLW := aw 214 (by decide +kernel) (by decide +kernel)
theorem wd_215 : Cond.fieldLink RX6 19 RX6 "history" "LVowBlocks$History;" ∈ ALLW := aw 215 (by decide +kernel) (by decide +kernel)
theorem wd_216 : Cond.fieldLink RX6 26 RX6 "text" "LVowBlocks$RowText;" ∈ ALLW := aw 216 (by decide +kernel) (by decide +kernel)
theorem wd_217 : Cond.fieldLink RX6 33 RX6 "trial" "LVowBlocks$Row;" ∈ ALLW := aw 217 (by decide +kernel) (by decide +kernel)
theorem wd_228 : Cond.instanceMethod yX6_clearBuffer ∈ ALLW := aw 228 (by decide +kernel) (by decide +kernel)
theorem wd_229 : Cond.selects RX6 yX6_clearBuffer yX6_clearBuffer ∈ ALLW := aw 229 (by decide +kernel) (by decide +kernel)
theorem wd_230 : Cond.code yX6_clearBuffer cX6_clearBuffer 2 (some .int) ∈ ALLW := aw 230 (by decide +kernel) (by decide +kernel)
theorem wd_231 : Cond.methodLink RX6 200 yX5_length ∈ ALLW := aw 231 (by decide +kernel) (by decide +kernel)
theorem wd_232 : Cond.instanceMethod yX5_length ∈ ALLW := aw 232 (by decide +kernel) (by decide +kernel)
theorem wd_233 : Cond.selects RX5 yX5_length yX5_length ∈ ALLW := aw 233 (by decide +kernel) (by decide +kernel)
theorem wd_234 : Cond.code yX5_length cX5_length 1 (some .int) ∈ ALLW := aw 234 (by decide +kernel) (by decide +kernel)
theorem wd_235 : Cond.methodLink RX6 74 yX5_empty ∈ ALLW := aw 235 (by decide +kernel) (by decide +kernel)
theorem wd_236 : Cond.instanceMethod yX5_empty ∈ ALLW := aw 236 (by decide +kernel) (by decide +kernel)
theorem wd_237 : Cond.selects RX5 yX5_empty yX5_empty ∈ ALLW := aw 237 (by decide +kernel) (by decide +kernel)
theorem wd_238 : Cond.code yX5_empty cX5_empty 1 none ∈ ALLW := aw 238 (by decide +kernel) (by decide +kernel)
theorem wd_240 : Cond.instanceMethod yX6_firstError ∈ ALLW := aw 240 (by decide +kernel) (by decide +kernel)
theorem wd_241 : Cond.selects RX6 yX6_firstError yX6_firstError ∈ ALLW := aw 241 (by decide +kernel) (by decide +kernel)
theorem wd_242 : Cond.code yX6_firstError cX6_firstError 1 (some .int) ∈ ALLW := aw 242 (by decide +kernel) (by decide +kernel)
theorem wd_243 : Cond.methodLink RX6 203 yX5_errorPlace ∈ ALLW := aw 243 (by decide +kernel) (by decide +kernel)
theorem wd_244 : Cond.instanceMethod yX5_errorPlace ∈ ALLW := aw 244 (by decide +kernel) (by decide +kernel)
theorem wd_245 : Cond.selects RX5 yX5_errorPlace yX5_errorPlace ∈ ALLW := aw 245 (by decide +kernel) (by decide +kernel)
theorem wd_246 : Cond.code yX5_errorPlace cX5_errorPlace 2 (some .int) ∈ ALLW := aw 246 (by decide +kernel) (by decide +kernel)
theorem wd_247 : Cond.methodLink RX5 32 yX5_accept ∈ ALLW := aw 247 (by decide +kernel) (by decide +kernel)
theorem wd_249 : Cond.instanceMethod yX5_accept ∈ ALLW := aw 249 (by decide +kernel) (by decide +kernel)
theorem wd_250 : Cond.code yX5_accept cX5_accept 2 (some .boolean) ∈ ALLW := aw 250 (by decide +kernel) (by decide +kernel)
theorem wd_251 : Cond.methodLink RX5 52 yX5_acceptDigit ∈ ALLW := aw 251 (by decide +kernel) (by decide +kernel)
theorem wd_253 : Cond.instanceMethod yX5_acceptDigit ∈ ALLW := aw 253 (by decide +kernel) (by decide +kernel)
theorem wd_254 : Cond.code yX5_acceptDigit cX5_acceptDigit 2 (some .boolean) ∈ ALLW := aw 254 (by decide +kernel) (by decide +kernel)
theorem wd_255 : Cond.methodLink RX5 45 yX5_partIsWhole ∈ ALLW := aw 255 (by decide +kernel) (by decide +kernel)
theorem wd_257 : Cond.instanceMethod yX5_partIsWhole ∈ ALLW := aw 257 (by decide +kernel) (by decide +kernel)
theorem wd_258 : Cond.code yX5_partIsWhole cX5_partIsWhole 1 (some .boolean) ∈ ALLW := aw 258 (by decide +kernel) (by decide +kernel)
theorem wd_260 : Cond.instanceMethod yX6_meanBits ∈ ALLW := aw 260 (by decide +kernel) (by decide +kernel)
theorem wd_261 : Cond.selects RX6 yX6_meanBits yX6_meanBits ∈ ALLW := aw 261 (by decide +kernel) (by decide +kernel)
theorem wd_262 : Cond.code yX6_meanBits cX6_meanBits 2 (some .double) ∈ ALLW := aw 262 (by decide +kernel) (by decide +kernel)
theorem wd_263 : Cond.methodLink RX6 235 yX6_sumOf ∈ ALLW := aw 263 (by decide +kernel) (by decide +kernel)
theorem wd_265 : Cond.instanceMethod yX6_sumOf ∈ ALLW := aw 265 (by decide +kernel) (by decide +kernel)
theorem wd_266 : Cond.code yX6_sumOf cX6_sumOf 4 (some .int) ∈ ALLW := aw 266 (by decide +kernel) (by decide +kernel)
theorem wd_267 : Cond.methodLink RX6 244 yX2_size ∈ ALLW := aw 267 (by decide +kernel) (by decide +kernel)
theorem wd_268 : Cond.instanceMethod yX2_size ∈ ALLW := aw 268 (by decide +kernel) (by decide +kernel)
theorem wd_269 : Cond.selects RX2 yX2_size yX2_size ∈ ALLW := aw 269 (by decide +kernel) (by decide +kernel)
theorem wd_270 : Cond.code yX2_size cX2_size 1 (some .int) ∈ ALLW := aw 270 (by decide +kernel) (by decide +kernel)
theorem wd_271 : Cond.methodLink RX6 245 yX2_at ∈ ALLW := aw 271 (by decide +kernel) (by decide +kernel)
theorem wd_272 : Cond.instanceMethod yX2_at ∈ ALLW := aw 272 (by decide +kernel) (by decide +kernel)
theorem wd_273 : Cond.selects RX2 yX2_at yX2_at ∈ ALLW := aw 273 (by decide +kernel) (by decide +kernel)
theorem wd_274 : Cond.code yX2_at cX2_at 2 (some (.object "VowBlocks$Block")) ∈ ALLW := aw 274 (by decide +kernel) (by decide +kernel)
theorem wd_275 : Cond.methodLink RX2 31 yX2_has ∈ ALLW := aw 275 (by decide +kernel) (by decide +kernel)
theorem wd_276 : Cond.instanceMethod yX2_has ∈ ALLW := aw 276 (by decide +kernel) (by decide +kernel)
theorem wd_277 : Cond.selects RX2 yX2_has yX2_has ∈ ALLW := aw 277 (by decide +kernel) (by decide +kernel)
theorem wd_278 : Cond.code yX2_has cX2_has 2 (some .boolean) ∈ ALLW := aw 278 (by decide +kernel) (by decide +kernel)
theorem wd_279 : Cond.methodLink RX6 212 yX6_propertyOf ∈ ALLW := aw 279 (by decide +kernel) (by decide +kernel)
theorem wd_281 : Cond.instanceMethod yX6_propertyOf ∈ ALLW := aw 281 (by decide +kernel) (by decide +kernel)
theorem wd_282 : Cond.code yX6_propertyOf cX6_propertyOf 3 (some .int) ∈ ALLW := aw 282 (by decide +kernel) (by decide +kernel)
theorem wd_283 : Cond.methodLink RX6 95 yX4_size ∈ ALLW := aw 283 (by decide +kernel) (by decide +kernel)
theorem wd_284 : Cond.instanceMethod yX4_size ∈ ALLW := aw 284 (by decide +kernel) (by decide +kernel)
theorem wd_285 : Cond.selects RX4 yX4_size yX4_size ∈ ALLW := aw 285 (by decide +kernel) (by decide +kernel)
theorem wd_286 : Cond.code yX4_size cX4_size 1 (some .int) ∈ ALLW := aw 286 (by decide +kernel) (by decide +kernel)
theorem wd_287 : Cond.methodLink RX6 219 yX1_bits ∈ ALLW := aw 287 (by decide +kernel) (by decide +kernel)
theorem wd_288 : Cond.static yX1_bits ∈ ALLW := aw 288 (by decide +kernel) (by decide +kernel)
theorem wd_289 : Cond.code yX1_bits cX1_bits 4 (some .int) ∈ ALLW := aw 289 (by decide +kernel) (by decide +kernel)
theorem wd_290 : Cond.methodLink RX1 9 yX4_size ∈ ALLW := aw 290 (by decide +kernel) (by decide +kernel)
theorem wd_291 : Cond.methodLink RX1 15 yX4_runsAmong ∈ ALLW := aw 291 (by decide +kernel) (by decide +kernel)
theorem wd_292 : Cond.instanceMethod yX4_runsAmong ∈ ALLW := aw 292 (by decide +kernel) (by decide +kernel)
theorem wd_293 : Cond.selects RX4 yX4_runsAmong yX4_runsAmong ∈ ALLW := aw 293 (by decide +kernel) (by decide +kernel)
theorem wd_294 : Cond.code yX4_runsAmong cX4_runsAmong 4 (some .int) ∈ ALLW := aw 294 (by decide +kernel) (by decide +kernel)
theorem wd_295 : Cond.methodLink RX1 19 yX4_differentValues ∈ ALLW := aw 295 (by decide +kernel) (by decide +kernel)
theorem wd_296 : Cond.instanceMethod yX4_differentValues ∈ ALLW := aw 296 (by decide +kernel) (by decide +kernel)
theorem wd_297 : Cond.selects RX4 yX4_differentValues yX4_differentValues ∈ ALLW := aw 297 (by decide +kernel) (by decide +kernel)
theorem wd_298 : Cond.code yX4_differentValues cX4_differentValues 4 (some .int) ∈ ALLW := aw 298 (by decide +kernel) (by decide +kernel)
theorem wd_299 : Cond.methodLink RX1 22 yX1_widthFor ∈ ALLW := aw 299 (by decide +kernel) (by decide +kernel)
theorem wd_300 : Cond.static yX1_widthFor ∈ ALLW := aw 300 (by decide +kernel) (by decide +kernel)
theorem wd_301 : Cond.code yX1_widthFor cX1_widthFor 2 (some .int) ∈ ALLW := aw 301 (by decide +kernel) (by decide +kernel)
theorem wd_302 : Cond.methodLink RX1 27 yX4_spanOfSteps ∈ ALLW := aw 302 (by decide +kernel) (by decide +kernel)
theorem wd_303 : Cond.instanceMethod yX4_spanOfSteps ∈ ALLW := aw 303 (by decide +kernel) (by decide +kernel)
theorem wd_304 : Cond.selects RX4 yX4_spanOfSteps yX4_spanOfSteps ∈ ALLW := aw 304 (by decide +kernel) (by decide +kernel)
theorem wd_305 : Cond.code yX4_spanOfSteps cX4_spanOfSteps 5 (some .int) ∈ ALLW := aw 305 (by decide +kernel) (by decide +kernel)
theorem wd_306 : Cond.methodLink RX1 30 yX4_mostTimes ∈ ALLW := aw 306 (by decide +kernel) (by decide +kernel)
theorem wd_307 : Cond.instanceMethod yX4_mostTimes ∈ ALLW := aw 307 (by decide +kernel) (by decide +kernel)
theorem wd_308 : Cond.selects RX4 yX4_mostTimes yX4_mostTimes ∈ ALLW := aw 308 (by decide +kernel) (by decide +kernel)
theorem wd_309 : Cond.code yX4_mostTimes cX4_mostTimes 5 (some .int) ∈ ALLW := aw 309 (by decide +kernel) (by decide +kernel)
theorem wd_310 : Cond.methodLink RX1 33 yX4_span ∈ ALLW := aw 310 (by decide +kernel) (by decide +kernel)
theorem wd_311 : Cond.instanceMethod yX4_span ∈ ALLW := aw 311 (by decide +kernel) (by decide +kernel)
theorem wd_312 : Cond.selects RX4 yX4_span yX4_span ∈ ALLW := aw 312 (by decide +kernel) (by decide +kernel)
theorem wd_313 : Cond.code yX4_span cX4_span 4 (some .int) ∈ ALLW := aw 313 (by decide +kernel) (by decide +kernel)
theorem wd_314 : Cond.methodLink RX6 283 yX1_best ∈ ALLW := aw 314 (by decide +kernel) (by decide +kernel)
theorem wd_315 : Cond.static yX1_best ∈ ALLW := aw 315 (by decide +kernel) (by decide +kernel)
theorem wd_316 : Cond.code yX1_best cX1_best 5 (some .int) ∈ ALLW := aw 316 (by decide +kernel) (by decide +kernel)
theorem wd_317 : Cond.methodLink RX1 36 yX1_bits ∈ ALLW := aw 317 (by decide +kernel) (by decide +kernel)
theorem wd_318 : Cond.methodLink RX6 286 yX2_firstAlike ∈ ALLW := aw 318 (by decide +kernel) (by decide +kernel)
theorem wd_319 : Cond.instanceMethod yX2_firstAlike ∈ ALLW := aw 319 (by decide +kernel) (by decide +kernel)
theorem wd_320 : Cond.selects RX2 yX2_firstAlike yX2_firstAlike ∈ ALLW := aw 320 (by decide +kernel) (by decide +kernel)
theorem wd_321 : Cond.code yX2_firstAlike cX2_firstAlike 3 (some .int) ∈ ALLW := aw 321 (by decide +kernel) (by decide +kernel)
theorem wd_322 : Cond.methodLink RX2 55 yX4_isLike ∈ ALLW := aw 322 (by decide +kernel) (by decide +kernel)
theorem wd_323 : Cond.instanceMethod yX4_isLike ∈ ALLW := aw 323 (by decide +kernel) (by decide +kernel)
theorem wd_324 : Cond.selects RX4 yX4_isLike yX4_isLike ∈ ALLW := aw 324 (by decide +kernel) (by decide +kernel)
theorem wd_325 : Cond.code yX4_isLike cX4_isLike 3 (some .boolean) ∈ ALLW := aw 325 (by decide +kernel) (by decide +kernel)
theorem wd_327 : Cond.instanceMethod yX6_digest ∈ ALLW := aw 327 (by decide +kernel) (by decide +kernel)
theorem wd_328 : Cond.selects RX6 yX6_digest yX6_digest ∈ ALLW := aw 328 (by decide +kernel) (by decide +kernel)
theorem wd_329 : Cond.code yX6_digest cX6_digest 4 (some .long) ∈ ALLW := aw 329 (by decide +kernel) (by decide +kernel)
theorem wd_330 : Cond.constantLong RX6 238 2441 ∈ ALLW := aw 330 (by decide +kernel) (by decide +kernel)
theorem wd_331 : Cond.methodLink RX6 216 yX6_countOf ∈ ALLW := aw 331 (by decide +kernel) (by decide +kernel)
theorem wd_333 : Cond.instanceMethod yX6_countOf ∈ ALLW := aw 333 (by decide +kernel) (by decide +kernel)
theorem wd_334 : Cond.code yX6_countOf cX6_countOf 2 (some .int) ∈ ALLW := aw 334 (by decide +kernel) (by decide +kernel)
theorem wd_335 : Cond.methodLink RX6 292 yX2_differentRows ∈ ALLW := aw 335 (by decide +kernel) (by decide +kernel)
theorem wd_336 : Cond.instanceMethod yX2_differentRows ∈ ALLW := aw 336 (by decide +kernel) (by decide +kernel)
theorem wd_337 : Cond.selects RX2 yX2_differentRows yX2_differentRows ∈ ALLW := aw 337 (by decide +kernel) (by decide +kernel)
theorem wd_338 : Cond.code yX2_differentRows cX2_differentRows 3 (some .int) ∈ ALLW := aw 338 (by decide +kernel) (by decide +kernel)
theorem wd_339 : Cond.methodLink RX2 61 yX2_firstAlike ∈ ALLW := aw 339 (by decide +kernel) (by decide +kernel)
theorem wd_340 : Cond.methodLink RX6 206 yX3_size ∈ ALLW := aw 340 (by decide +kernel) (by decide +kernel)
theorem wd_341 : Cond.instanceMethod yX3_size ∈ ALLW := aw 341 (by decide +kernel) (by decide +kernel)
theorem wd_342 : Cond.selects RX3 yX3_size yX3_size ∈ ALLW := aw 342 (by decide +kernel) (by decide +kernel)
theorem wd_343 : Cond.code yX3_size cX3_size 1 (some .int) ∈ ALLW := aw 343 (by decide +kernel) (by decide +kernel)
theorem wd_344 : Cond.methodLink RX6 295 yX2_blocksWithCode ∈ ALLW := aw 344 (by decide +kernel) (by decide +kernel)
theorem wd_345 : Cond.instanceMethod yX2_blocksWithCode ∈ ALLW := aw 345 (by decide +kernel) (by decide +kernel)
theorem wd_346 : Cond.selects RX2 yX2_blocksWithCode yX2_blocksWithCode ∈ ALLW := aw 346 (by decide +kernel) (by decide +kernel)
theorem wd_347 : Cond.code yX2_blocksWithCode cX2_blocksWithCode 4 (some .int) ∈ ALLW := aw 347 (by decide +kernel) (by decide +kernel)
theorem wd_348 : Cond.methodLink RX6 240 yX6_mix ∈ ALLW := aw 348 (by decide +kernel) (by decide +kernel)
theorem wd_349 : Cond.static yX6_mix ∈ ALLW := aw 349 (by decide +kernel) (by decide +kernel)
theorem wd_350 : Cond.code yX6_mix cX6_mix 4 (some .long) ∈ ALLW := aw 350 (by decide +kernel) (by decide +kernel)
theorem wd_351 : Cond.constantLong RX6 317 31 ∈ ALLW := aw 351 (by decide +kernel) (by decide +kernel)
theorem wd_352 : Cond.methodLink RX6 247 yX6_mixBlock ∈ ALLW := aw 352 (by decide +kernel) (by decide +kernel)
theorem wd_354 : Cond.instanceMethod yX6_mixBlock ∈ ALLW := aw 354 (by decide +kernel) (by decide +kernel)
theorem wd_355 : Cond.code yX6_mixBlock cX6_mixBlock 7 (some .long) ∈ ALLW := aw 355 (by decide +kernel) (by decide +kernel)
theorem wd_356 : Cond.methodLink RX6 103 yX4_at ∈ ALLW := aw 356 (by decide +kernel) (by decide +kernel)
theorem wd_357 : Cond.instanceMethod yX4_at ∈ ALLW := aw 357 (by decide +kernel) (by decide +kernel)
theorem wd_358 : Cond.selects RX4 yX4_at yX4_at ∈ ALLW := aw 358 (by decide +kernel) (by decide +kernel)
theorem wd_359 : Cond.code yX4_at cX4_at 2 (some .int) ∈ ALLW := aw 359 (by decide +kernel) (by decide +kernel)
theorem wd_360 : Cond.methodLink RX4 19 yX4_has ∈ ALLW := aw 360 (by decide +kernel) (by decide +kernel)
theorem wd_361 : Cond.instanceMethod yX4_has ∈ ALLW := aw 361 (by decide +kernel) (by decide +kernel)
theorem wd_362 : Cond.selects RX4 yX4_has yX4_has ∈ ALLW := aw 362 (by decide +kernel) (by decide +kernel)
theorem wd_363 : Cond.code yX4_has cX4_has 2 (some .boolean) ∈ ALLW := aw 363 (by decide +kernel) (by decide +kernel)
theorem wd_364 : Cond.methodLink RX6 173 yX1_effort ∈ ALLW := aw 364 (by decide +kernel) (by decide +kernel)
theorem wd_365 : Cond.static yX1_effort ∈ ALLW := aw 365 (by decide +kernel) (by decide +kernel)
theorem wd_366 : Cond.code yX1_effort cX1_effort 4 (some .int) ∈ ALLW := aw 366 (by decide +kernel) (by decide +kernel)
theorem wd_367 : Cond.methodLink RX1 49 yX1_reach ∈ ALLW := aw 367 (by decide +kernel) (by decide +kernel)
theorem wd_368 : Cond.static yX1_reach ∈ ALLW := aw 368 (by decide +kernel) (by decide +kernel)
theorem wd_369 : Cond.code yX1_reach cX1_reach 3 (some .int) ∈ ALLW := aw 369 (by decide +kernel) (by decide +kernel)
theorem wd_370 : Cond.methodLink RX1 46 yX4_firstPlace ∈ ALLW := aw 370 (by decide +kernel) (by decide +kernel)
theorem wd_371 : Cond.instanceMethod yX4_firstPlace ∈ ALLW := aw 371 (by decide +kernel) (by decide +kernel)
theorem wd_372 : Cond.selects RX4 yX4_firstPlace yX4_firstPlace ∈ ALLW := aw 372 (by decide +kernel) (by decide +kernel)
theorem wd_373 : Cond.code yX4_firstPlace cX4_firstPlace 3 (some .int) ∈ ALLW := aw 373 (by decide +kernel) (by decide +kernel)
theorem wd_374 : Cond.methodLink RX1 52 yX1_tableEffort ∈ ALLW := aw 374 (by decide +kernel) (by decide +kernel)
theorem wd_375 : Cond.static yX1_tableEffort ∈ ALLW := aw 375 (by decide +kernel) (by decide +kernel)
theorem wd_376 : Cond.code yX1_tableEffort cX1_tableEffort 5 (some .int) ∈ ALLW := aw 376 (by decide +kernel) (by decide +kernel)
theorem wd_377 : Cond.methodLink RX1 59 yX1_rowEffort ∈ ALLW := aw 377 (by decide +kernel) (by decide +kernel)
theorem wd_378 : Cond.static yX1_rowEffort ∈ ALLW := aw 378 (by decide +kernel) (by decide +kernel)
theorem wd_379 : Cond.code yX1_rowEffort cX1_rowEffort 3 (some .int) ∈ ALLW := aw 379 (by decide +kernel) (by decide +kernel)
theorem wd_380 : Cond.methodLink RX1 56 yX1_commonEffort ∈ ALLW := aw 380 (by decide +kernel) (by decide +kernel)
theorem wd_381 : Cond.static yX1_commonEffort ∈ ALLW := aw 381 (by decide +kernel) (by decide +kernel)
theorem wd_382 : Cond.code yX1_commonEffort cX1_commonEffort 4 (some .int) ∈ ALLW := aw 382 (by decide +kernel) (by decide +kernel)
theorem wd_383 : Cond.methodLink RX1 65 yX4_commonValue ∈ ALLW := aw 383 (by decide +kernel) (by decide +kernel)
theorem wd_384 : Cond.instanceMethod yX4_commonValue ∈ ALLW := aw 384 (by decide +kernel) (by decide +kernel)
theorem wd_385 : Cond.selects RX4 yX4_commonValue yX4_commonValue ∈ ALLW := aw 385 (by decide +kernel) (by decide +kernel)
theorem wd_386 : Cond.code yX4_commonValue cX4_commonValue 4 (some .int) ∈ ALLW := aw 386 (by decide +kernel) (by decide +kernel)
theorem wd_387 : Cond.methodLink RX4 40 yX4_mostTimes ∈ ALLW := aw 387 (by decide +kernel) (by decide +kernel)
theorem wd_388 : Cond.methodLink RX4 44 yX4_timesOf ∈ ALLW := aw 388 (by decide +kernel) (by decide +kernel)
theorem wd_389 : Cond.instanceMethod yX4_timesOf ∈ ALLW := aw 389 (by decide +kernel) (by decide +kernel)
theorem wd_390 : Cond.selects RX4 yX4_timesOf yX4_timesOf ∈ ALLW := aw 390 (by decide +kernel) (by decide +kernel)
theorem wd_391 : Cond.code yX4_timesOf cX4_timesOf 4 (some .int) ∈ ALLW := aw 391 (by decide +kernel) (by decide +kernel)
theorem wd_392 : Cond.methodLink RX4 34 Lib.Math.min.name ∈ ALLW := aw 392 (by decide +kernel) (by decide +kernel)
theorem wd_393 : Cond.static Lib.Math.min.name ∈ ALLW := aw 393 (by decide +kernel) (by decide +kernel)
theorem wd_394 : Cond.code Lib.Math.min.name Lib.Math.min.code 2 (some .int) ∈ ALLW := aw 394 (by decide +kernel) (by decide +kernel)
theorem wd_395 : Cond.methodLink RX1 62 yX1_frameEffort ∈ ALLW := aw 395 (by decide +kernel) (by decide +kernel)
theorem wd_396 : Cond.static yX1_frameEffort ∈ ALLW := aw 396 (by decide +kernel) (by decide +kernel)
theorem wd_397 : Cond.code yX1_frameEffort cX1_frameEffort 5 (some .int) ∈ ALLW := aw 397 (by decide +kernel) (by decide +kernel)
theorem wd_398 : Cond.methodLink RX1 68 yX4_least ∈ ALLW := aw 398 (by decide +kernel) (by decide +kernel)
theorem wd_399 : Cond.instanceMethod yX4_least ∈ ALLW := aw 399 (by decide +kernel) (by decide +kernel)
theorem wd_400 : Cond.selects RX4 yX4_least yX4_least ∈ ALLW := aw 400 (by decide +kernel) (by decide +kernel)
theorem wd_401 : Cond.code yX4_least cX4_least 3 (some .int) ∈ ALLW := aw 401 (by decide +kernel) (by decide +kernel)
theorem wd_402 : Cond.methodLink RX6 223 yX6_regretOf ∈ ALLW := aw 402 (by decide +kernel) (by decide +kernel)
theorem wd_404 : Cond.instanceMethod yX6_regretOf ∈ ALLW := aw 404 (by decide +kernel) (by decide +kernel)
theorem wd_405 : Cond.code yX6_regretOf cX6_regretOf 4 (some .int) ∈ ALLW := aw 405 (by decide +kernel) (by decide +kernel)
theorem wd_406 : Cond.methodLink RX6 298 yX0_daysLeft ∈ ALLW := aw 406 (by decide +kernel) (by decide +kernel)
theorem wd_407 : Cond.instanceMethod yX0_daysLeft ∈ ALLW := aw 407 (by decide +kernel) (by decide +kernel)
theorem wd_408 : Cond.selects RX0 yX0_daysLeft yX0_daysLeft ∈ ALLW := aw 408 (by decide +kernel) (by decide +kernel)
theorem wd_409 : Cond.code yX0_daysLeft cX0_daysLeft 3 (some .int) ∈ ALLW := aw 409 (by decide +kernel) (by decide +kernel)
theorem wd_410 : Cond.methodLink RX0 60 Lib.Math.max.name ∈ ALLW := aw 410 (by decide +kernel) (by decide +kernel)
theorem wd_411 : Cond.static Lib.Math.max.name ∈ ALLW := aw 411 (by decide +kernel) (by decide +kernel)
theorem wd_412 : Cond.code Lib.Math.max.name Lib.Math.max.code 2 (some .int) ∈ ALLW := aw 412 (by decide +kernel) (by decide +kernel)
theorem wd_413 : Cond.methodLink RX6 302 Lib.Math.max.name ∈ ALLW := aw 413 (by decide +kernel) (by decide +kernel)
theorem wd_414 : Cond.methodLink RX6 307 yX0_excess ∈ ALLW := aw 414 (by decide +kernel) (by decide +kernel)
theorem wd_415 : Cond.instanceMethod yX0_excess ∈ ALLW := aw 415 (by decide +kernel) (by decide +kernel)
theorem wd_416 : Cond.selects RX0 yX0_excess yX0_excess ∈ ALLW := aw 416 (by decide +kernel) (by decide +kernel)
theorem wd_417 : Cond.code yX0_excess cX0_excess 1 (some .int) ∈ ALLW := aw 417 (by decide +kernel) (by decide +kernel)
theorem wd_418 : Cond.methodLink RX0 56 yX1_bits ∈ ALLW := aw 418 (by decide +kernel) (by decide +kernel)
theorem wd_419 : Cond.methodLink RX0 46 yX1_best ∈ ALLW := aw 419 (by decide +kernel) (by decide +kernel)
theorem wd_420 : Cond.methodLink RX6 310 Lib.Math.min.name ∈ ALLW := aw 420 (by decide +kernel) (by decide +kernel)
theorem wd_421 : Cond.methodLink RX6 226 yX6_gainOf ∈ ALLW := aw 421 (by decide +kernel) (by decide +kernel)
theorem wd_423 : Cond.instanceMethod yX6_gainOf ∈ ALLW := aw 423 (by decide +kernel) (by decide +kernel)
theorem wd_424 : Cond.code yX6_gainOf cX6_gainOf 3 (some .int) ∈ ALLW := aw 424 (by decide +kernel) (by decide +kernel)
theorem wd_425 : Cond.methodLink RX6 151 yX6_fineOf ∈ ALLW := aw 425 (by decide +kernel) (by decide +kernel)
theorem wd_427 : Cond.instanceMethod yX6_fineOf ∈ ALLW := aw 427 (by decide +kernel) (by decide +kernel)
theorem wd_428 : Cond.code yX6_fineOf cX6_fineOf 2 (some .int) ∈ ALLW := aw 428 (by decide +kernel) (by decide +kernel)
theorem wd_429 : Cond.methodLink RX6 229 yX6_cheapestValue ∈ ALLW := aw 429 (by decide +kernel) (by decide +kernel)
theorem wd_431 : Cond.instanceMethod yX6_cheapestValue ∈ ALLW := aw 431 (by decide +kernel) (by decide +kernel)
theorem wd_432 : Cond.code yX6_cheapestValue cX6_cheapestValue 7 (some .int) ∈ ALLW := aw 432 (by decide +kernel) (by decide +kernel)
theorem wd_433 : Cond.methodLink RX6 313 yX4_copyFrom ∈ ALLW := aw 433 (by decide +kernel) (by decide +kernel)
theorem wd_434 : Cond.instanceMethod yX4_copyFrom ∈ ALLW := aw 434 (by decide +kernel) (by decide +kernel)
theorem wd_435 : Cond.selects RX4 yX4_copyFrom yX4_copyFrom ∈ ALLW := aw 435 (by decide +kernel) (by decide +kernel)
theorem wd_436 : Cond.code yX4_copyFrom cX4_copyFrom 3 none ∈ ALLW := aw 436 (by decide +kernel) (by decide +kernel)
theorem wd_437 : Cond.methodLink RX6 107 yX4_replace ∈ ALLW := aw 437 (by decide +kernel) (by decide +kernel)
theorem wd_438 : Cond.instanceMethod yX4_replace ∈ ALLW := aw 438 (by decide +kernel) (by decide +kernel)
theorem wd_439 : Cond.selects RX4 yX4_replace yX4_replace ∈ ALLW := aw 439 (by decide +kernel) (by decide +kernel)
theorem wd_440 : Cond.code yX4_replace cX4_replace 3 none ∈ ALLW := aw 440 (by decide +kernel) (by decide +kernel)
theorem wd_441 : Cond.methodLink RX6 232 yX6_mateOf ∈ ALLW := aw 441 (by decide +kernel) (by decide +kernel)
theorem wd_443 : Cond.instanceMethod yX6_mateOf ∈ ALLW := aw 443 (by decide +kernel) (by decide +kernel)
theorem wd_444 : Cond.code yX6_mateOf cX6_mateOf 7 (some .int) ∈ ALLW := aw 444 (by decide +kernel) (by decide +kernel)
theorem wd_445 : Cond.methodLink RX6 86 yX4_hasRoomFor ∈ ALLW := aw 445 (by decide +kernel) (by decide +kernel)
theorem wd_446 : Cond.instanceMethod yX4_hasRoomFor ∈ ALLW := aw 446 (by decide +kernel) (by decide +kernel)
theorem wd_447 : Cond.selects RX4 yX4_hasRoomFor yX4_hasRoomFor ∈ ALLW := aw 447 (by decide +kernel) (by decide +kernel)
theorem wd_448 : Cond.code yX4_hasRoomFor cX4_hasRoomFor 2 (some .boolean) ∈ ALLW := aw 448 (by decide +kernel) (by decide +kernel)
theorem wd_449 : Cond.methodLink RX6 135 yX4_pushTail ∈ ALLW := aw 449 (by decide +kernel) (by decide +kernel)
theorem wd_450 : Cond.instanceMethod yX4_pushTail ∈ ALLW := aw 450 (by decide +kernel) (by decide +kernel)
theorem wd_451 : Cond.selects RX4 yX4_pushTail yX4_pushTail ∈ ALLW := aw 451 (by decide +kernel) (by decide +kernel)
theorem wd_452 : Cond.code yX4_pushTail cX4_pushTail 4 none ∈ ALLW := aw 452 (by decide +kernel) (by decide +kernel)
theorem wd_453 : Cond.methodLink RX4 26 yX4_at ∈ ALLW := aw 453 (by decide +kernel) (by decide +kernel)
theorem wd_454 : Cond.methodLink RX4 30 yX4_push ∈ ALLW := aw 454 (by decide +kernel) (by decide +kernel)
theorem wd_455 : Cond.instanceMethod yX4_push ∈ ALLW := aw 455 (by decide +kernel) (by decide +kernel)
theorem wd_456 : Cond.selects RX4 yX4_push yX4_push ∈ ALLW := aw 456 (by decide +kernel) (by decide +kernel)
theorem wd_457 : Cond.code yX4_push cX4_push 4 (some .boolean) ∈ ALLW := aw 457 (by decide +kernel) (by decide +kernel)
theorem wd_458 : Cond.methodLink RX4 23 yX4_hasRoomFor ∈ ALLW := aw 458 (by decide +kernel) (by decide +kernel)
theorem wd_459 : Cond.methodLink RX6 251 yX6_meanBits ∈ ALLW := aw 459 (by decide +kernel) (by decide +kernel)
theorem wd_460 : Cond.methodLink RX6 255 yX6_doubleBits ∈ ALLW := aw 460 (by decide +kernel) (by decide +kernel)
theorem wd_461 : Cond.static yX6_doubleBits ∈ ALLW := aw 461 (by decide +kernel) (by decide +kernel)
theorem wd_462 : Cond.code yX6_doubleBits cX6_doubleBits 7 (some .long) ∈ ALLW := aw 462 (by decide +kernel) (by decide +kernel)
theorem wd_463 : Cond.constantLong RX6 319 1023 ∈ ALLW := aw 463 (by decide +kernel) (by decide +kernel)
theorem wd_464 : Cond.constantDouble RX6 321 4611686018427387904 ∈ ALLW := aw 464 (by decide +kernel) (by decide +kernel)
theorem wd_465 : Cond.constantDouble RX6 323 4841369599423283200 ∈ ALLW := aw 465 (by decide +kernel) (by decide +kernel)
theorem wd_466 : Cond.methodLink RX6 259 yX5_codeAt ∈ ALLW := aw 466 (by decide +kernel) (by decide +kernel)
theorem wd_467 : Cond.instanceMethod yX5_codeAt ∈ ALLW := aw 467 (by decide +kernel) (by decide +kernel)
theorem wd_468 : Cond.selects RX5 yX5_codeAt yX5_codeAt ∈ ALLW := aw 468 (by decide +kernel) (by decide +kernel)
theorem wd_469 : Cond.code yX5_codeAt cX5_codeAt 2 (some .int) ∈ ALLW := aw 469 (by decide +kernel) (by decide +kernel)
theorem wd_476 : Cond.instanceMethod yX6_make ∈ ALLW := aw 476 (by decide +kernel) (by decide +kernel)
theorem wd_477 : Cond.selects RX6 yX6_make yX6_make ∈ ALLW := aw 477 (by decide +kernel) (by decide +kernel)
theorem wd_478 : Cond.code yX6_make cX6_make 3 (some .int) ∈ ALLW := aw 478 (by decide +kernel) (by decide +kernel)
theorem wd_479 : Cond.methodLink RX6 37 yX6_requireValue ∈ ALLW := aw 479 (by decide +kernel) (by decide +kernel)
theorem wd_480 : Cond.static yX6_requireValue ∈ ALLW := aw 480 (by decide +kernel) (by decide +kernel)
theorem wd_481 : Cond.code yX6_requireValue cX6_requireValue 1 none ∈ ALLW := aw 481 (by decide +kernel) (by decide +kernel)
theorem wd_482 : Cond.methodLink RX6 41 yX6_requireWithin ∈ ALLW := aw 482 (by decide +kernel) (by decide +kernel)
theorem wd_483 : Cond.static yX6_requireWithin ∈ ALLW := aw 483 (by decide +kernel) (by decide +kernel)
theorem wd_484 : Cond.code yX6_requireWithin cX6_requireWithin 3 none ∈ ALLW := aw 484 (by decide +kernel) (by decide +kernel)
theorem wd_485 : Cond.classLink RX6 67 "java/lang/IllegalArgumentException" ∈ ALLW := aw 485 (by decide +kernel) (by decide +kernel)
theorem wd_553 : Cond.methodLink RX6 45 yX6_requireRoomForBlock ∈ ALLW := aw 553 (by decide +kernel) (by decide +kernel)
theorem wd_555 : Cond.instanceMethod yX6_requireRoomForBlock ∈ ALLW := aw 555 (by decide +kernel) (by decide +kernel)
theorem wd_556 : Cond.code yX6_requireRoomForBlock cX6_requireRoomForBlock 1 none ∈ ALLW := aw 556 (by decide +kernel) (by decide +kernel)
theorem wd_557 : Cond.methodLink RX6 272 yX2_isFull ∈ ALLW := aw 557 (by decide +kernel) (by decide +kernel)
theorem wd_558 : Cond.instanceMethod yX2_isFull ∈ ALLW := aw 558 (by decide +kernel) (by decide +kernel)
theorem wd_559 : Cond.selects RX2 yX2_isFull yX2_isFull ∈ ALLW := aw 559 (by decide +kernel) (by decide +kernel)
theorem wd_560 : Cond.code yX2_isFull cX2_isFull 1 (some .boolean) ∈ ALLW := aw 560 (by decide +kernel) (by decide +kernel)
theorem wd_561 : Cond.classLink RX6 90 "java/lang/IllegalStateException" ∈ ALLW := aw 561 (by decide +kernel) (by decide +kernel)
theorem wd_577 : Cond.methodLink RX6 48 yX4_clear ∈ ALLW := aw 577 (by decide +kernel) (by decide +kernel)
theorem wd_578 : Cond.instanceMethod yX4_clear ∈ ALLW := aw 578 (by decide +kernel) (by decide +kernel)
theorem wd_579 : Cond.selects RX4 yX4_clear yX4_clear ∈ ALLW := aw 579 (by decide +kernel) (by decide +kernel)
theorem wd_580 : Cond.code yX4_clear cX4_clear 1 none ∈ ALLW := aw 580 (by decide +kernel) (by decide +kernel)
theorem wd_581 : Cond.methodLink RX6 51 yX4_push ∈ ALLW := aw 581 (by decide +kernel) (by decide +kernel)
theorem wd_582 : Cond.methodLink RX6 55 yX3_save ∈ ALLW := aw 582 (by decide +kernel) (by decide +kernel)
theorem wd_583 : Cond.instanceMethod yX3_save ∈ ALLW := aw 583 (by decide +kernel) (by decide +kernel)
theorem wd_584 : Cond.selects RX3 yX3_save yX3_save ∈ ALLW := aw 584 (by decide +kernel) (by decide +kernel)
theorem wd_585 : Cond.code yX3_save cX3_save 2 none ∈ ALLW := aw 585 (by decide +kernel) (by decide +kernel)
theorem wd_586 : Cond.methodLink RX3 22 yX3_dropOldest ∈ ALLW := aw 586 (by decide +kernel) (by decide +kernel)
theorem wd_588 : Cond.instanceMethod yX3_dropOldest ∈ ALLW := aw 588 (by decide +kernel) (by decide +kernel)
theorem wd_589 : Cond.code yX3_dropOldest cX3_dropOldest 3 none ∈ ALLW := aw 589 (by decide +kernel) (by decide +kernel)
theorem wd_590 : Cond.methodLink RX3 25 yX2_copyFrom ∈ ALLW := aw 590 (by decide +kernel) (by decide +kernel)
theorem wd_591 : Cond.instanceMethod yX2_copyFrom ∈ ALLW := aw 591 (by decide +kernel) (by decide +kernel)
theorem wd_592 : Cond.selects RX2 yX2_copyFrom yX2_copyFrom ∈ ALLW := aw 592 (by decide +kernel) (by decide +kernel)
theorem wd_593 : Cond.code yX2_copyFrom cX2_copyFrom 3 none ∈ ALLW := aw 593 (by decide +kernel) (by decide +kernel)
theorem wd_594 : Cond.methodLink RX2 43 yX0_copyFrom ∈ ALLW := aw 594 (by decide +kernel) (by decide +kernel)
theorem wd_595 : Cond.instanceMethod yX0_copyFrom ∈ ALLW := aw 595 (by decide +kernel) (by decide +kernel)
theorem wd_596 : Cond.selects RX0 yX0_copyFrom yX0_copyFrom ∈ ALLW := aw 596 (by decide +kernel) (by decide +kernel)
theorem wd_597 : Cond.code yX0_copyFrom cX0_copyFrom 2 none ∈ ALLW := aw 597 (by decide +kernel) (by decide +kernel)
theorem wd_598 : Cond.methodLink RX0 38 yX4_copyFrom ∈ ALLW := aw 598 (by decide +kernel) (by decide +kernel)
theorem wd_599 : Cond.methodLink RX6 59 yX2_open ∈ ALLW := aw 599 (by decide +kernel) (by decide +kernel)
theorem wd_600 : Cond.instanceMethod yX2_open ∈ ALLW := aw 600 (by decide +kernel) (by decide +kernel)
theorem wd_601 : Cond.selects RX2 yX2_open yX2_open ∈ ALLW := aw 601 (by decide +kernel) (by decide +kernel)
theorem wd_602 : Cond.code yX2_open cX2_open 2 (some .int) ∈ ALLW := aw 602 (by decide +kernel) (by decide +kernel)
theorem wd_603 : Cond.methodLink RX2 35 yX2_isFull ∈ ALLW := aw 603 (by decide +kernel) (by decide +kernel)
theorem wd_604 : Cond.methodLink RX2 39 yX0_begin ∈ ALLW := aw 604 (by decide +kernel) (by decide +kernel)
theorem wd_605 : Cond.instanceMethod yX0_begin ∈ ALLW := aw 605 (by decide +kernel) (by decide +kernel)
theorem wd_606 : Cond.selects RX0 yX0_begin yX0_begin ∈ ALLW := aw 606 (by decide +kernel) (by decide +kernel)
theorem wd_607 : Cond.code yX0_begin cX0_begin 3 none ∈ ALLW := aw 607 (by decide +kernel) (by decide +kernel)
theorem wd_608 : Cond.methodLink RX0 42 yX0_vow ∈ ALLW := aw 608 (by decide +kernel) (by decide +kernel)
theorem wd_609 : Cond.instanceMethod yX0_vow ∈ ALLW := aw 609 (by decide +kernel) (by decide +kernel)
theorem wd_610 : Cond.selects RX0 yX0_vow yX0_vow ∈ ALLW := aw 610 (by decide +kernel) (by decide +kernel)
theorem wd_611 : Cond.code yX0_vow cX0_vow 2 none ∈ ALLW := aw 611 (by decide +kernel) (by decide +kernel)
theorem wd_616 : Cond.instanceMethod yX6_read ∈ ALLW := aw 616 (by decide +kernel) (by decide +kernel)
theorem wd_617 : Cond.selects RX6 yX6_read yX6_read ∈ ALLW := aw 617 (by decide +kernel) (by decide +kernel)
theorem wd_618 : Cond.code yX6_read cX6_read 1 (some .int) ∈ ALLW := aw 618 (by decide +kernel) (by decide +kernel)
theorem wd_619 : Cond.methodLink RX6 63 yX5_spell ∈ ALLW := aw 619 (by decide +kernel) (by decide +kernel)
theorem wd_620 : Cond.instanceMethod yX5_spell ∈ ALLW := aw 620 (by decide +kernel) (by decide +kernel)
theorem wd_621 : Cond.selects RX5 yX5_spell yX5_spell ∈ ALLW := aw 621 (by decide +kernel) (by decide +kernel)
theorem wd_622 : Cond.code yX5_spell cX5_spell 3 (some .boolean) ∈ ALLW := aw 622 (by decide +kernel) (by decide +kernel)
theorem wd_623 : Cond.methodLink RX5 36 yX4_clear ∈ ALLW := aw 623 (by decide +kernel) (by decide +kernel)
theorem wd_624 : Cond.methodLink RX5 41 yX5_endPart ∈ ALLW := aw 624 (by decide +kernel) (by decide +kernel)
theorem wd_626 : Cond.instanceMethod yX5_endPart ∈ ALLW := aw 626 (by decide +kernel) (by decide +kernel)
theorem wd_627 : Cond.code yX5_endPart cX5_endPart 2 (some .boolean) ∈ ALLW := aw 627 (by decide +kernel) (by decide +kernel)
theorem wd_628 : Cond.methodLink RX5 48 yX4_push ∈ ALLW := aw 628 (by decide +kernel) (by decide +kernel)
theorem wd_635 : Cond.instanceMethod yX6_add ∈ ALLW := aw 635 (by decide +kernel) (by decide +kernel)
theorem wd_636 : Cond.selects RX6 yX6_add yX6_add ∈ ALLW := aw 636 (by decide +kernel) (by decide +kernel)
theorem wd_637 : Cond.code yX6_add cX6_add 4 (some .int) ∈ ALLW := aw 637 (by decide +kernel) (by decide +kernel)
theorem wd_638 : Cond.methodLink RX6 77 yX6_find ∈ ALLW := aw 638 (by decide +kernel) (by decide +kernel)
theorem wd_640 : Cond.instanceMethod yX6_find ∈ ALLW := aw 640 (by decide +kernel) (by decide +kernel)
theorem wd_641 : Cond.code yX6_find cX6_find 2 (some (.object "VowBlocks$Block")) ∈ ALLW := aw 641 (by decide +kernel) (by decide +kernel)
theorem wd_642 : Cond.methodLink RX6 262 yX2_has ∈ ALLW := aw 642 (by decide +kernel) (by decide +kernel)
theorem wd_643 : Cond.classLink RX6 130 "java/lang/IndexOutOfBoundsException" ∈ ALLW := aw 643 (by decide +kernel) (by decide +kernel)
theorem wd_664 : Cond.instanceMethod yX6_put ∈ ALLW := aw 664 (by decide +kernel) (by decide +kernel)
theorem wd_665 : Cond.selects RX6 yX6_put yX6_put ∈ ALLW := aw 665 (by decide +kernel) (by decide +kernel)
theorem wd_666 : Cond.code yX6_put cX6_put 6 (some .int) ∈ ALLW := aw 666 (by decide +kernel) (by decide +kernel)
theorem wd_667 : Cond.methodLink RX6 99 yX6_findWithPlace ∈ ALLW := aw 667 (by decide +kernel) (by decide +kernel)
theorem wd_669 : Cond.instanceMethod yX6_findWithPlace ∈ ALLW := aw 669 (by decide +kernel) (by decide +kernel)
theorem wd_670 : Cond.code yX6_findWithPlace cX6_findWithPlace 4 (some (.object "VowBlocks$Block")) ∈ ALLW := aw 670 (by decide +kernel) (by decide +kernel)
theorem wd_671 : Cond.methodLink RX6 267 yX4_has ∈ ALLW := aw 671 (by decide +kernel) (by decide +kernel)
theorem wd_677 : Cond.instanceMethod yX6_take ∈ ALLW := aw 677 (by decide +kernel) (by decide +kernel)
theorem wd_678 : Cond.selects RX6 yX6_take yX6_take ∈ ALLW := aw 678 (by decide +kernel) (by decide +kernel)
theorem wd_679 : Cond.code yX6_take cX6_take 5 (some .int) ∈ ALLW := aw 679 (by decide +kernel) (by decide +kernel)
theorem wd_681 : Cond.methodLink RX6 113 yX4_remove ∈ ALLW := aw 681 (by decide +kernel) (by decide +kernel)
theorem wd_682 : Cond.instanceMethod yX4_remove ∈ ALLW := aw 682 (by decide +kernel) (by decide +kernel)
theorem wd_683 : Cond.selects RX4 yX4_remove yX4_remove ∈ ALLW := aw 683 (by decide +kernel) (by decide +kernel)
theorem wd_684 : Cond.code yX4_remove cX4_remove 3 none ∈ ALLW := aw 684 (by decide +kernel) (by decide +kernel)
theorem wd_689 : Cond.instanceMethod yX6_turn ∈ ALLW := aw 689 (by decide +kernel) (by decide +kernel)
theorem wd_690 : Cond.selects RX6 yX6_turn yX6_turn ∈ ALLW := aw 690 (by decide +kernel) (by decide +kernel)
theorem wd_691 : Cond.code yX6_turn cX6_turn 3 (some .int) ∈ ALLW := aw 691 (by decide +kernel) (by decide +kernel)
theorem wd_692 : Cond.methodLink RX6 116 yX4_reverse ∈ ALLW := aw 692 (by decide +kernel) (by decide +kernel)
theorem wd_693 : Cond.instanceMethod yX4_reverse ∈ ALLW := aw 693 (by decide +kernel) (by decide +kernel)
theorem wd_694 : Cond.selects RX4 yX4_reverse yX4_reverse ∈ ALLW := aw 694 (by decide +kernel) (by decide +kernel)
theorem wd_695 : Cond.code yX4_reverse cX4_reverse 3 none ∈ ALLW := aw 695 (by decide +kernel) (by decide +kernel)
theorem wd_700 : Cond.instanceMethod yX6_join ∈ ALLW := aw 700 (by decide +kernel) (by decide +kernel)
theorem wd_701 : Cond.selects RX6 yX6_join yX6_join ∈ ALLW := aw 701 (by decide +kernel) (by decide +kernel)
theorem wd_702 : Cond.code yX6_join cX6_join 5 (some .int) ∈ ALLW := aw 702 (by decide +kernel) (by decide +kernel)
theorem wd_705 : Cond.methodLink RX6 123 yX0_absorb ∈ ALLW := aw 705 (by decide +kernel) (by decide +kernel)
theorem wd_706 : Cond.instanceMethod yX0_absorb ∈ ALLW := aw 706 (by decide +kernel) (by decide +kernel)
theorem wd_707 : Cond.selects RX0 yX0_absorb yX0_absorb ∈ ALLW := aw 707 (by decide +kernel) (by decide +kernel)
theorem wd_708 : Cond.code yX0_absorb cX0_absorb 2 none ∈ ALLW := aw 708 (by decide +kernel) (by decide +kernel)
theorem wd_709 : Cond.methodLink RX0 52 yX4_pushTail ∈ ALLW := aw 709 (by decide +kernel) (by decide +kernel)
theorem wd_710 : Cond.methodLink RX6 127 yX2_drop ∈ ALLW := aw 710 (by decide +kernel) (by decide +kernel)
theorem wd_711 : Cond.instanceMethod yX2_drop ∈ ALLW := aw 711 (by decide +kernel) (by decide +kernel)
theorem wd_712 : Cond.selects RX2 yX2_drop yX2_drop ∈ ALLW := aw 712 (by decide +kernel) (by decide +kernel)
theorem wd_713 : Cond.code yX2_drop cX2_drop 4 none ∈ ALLW := aw 713 (by decide +kernel) (by decide +kernel)
theorem wd_718 : Cond.instanceMethod yX6_cut ∈ ALLW := aw 718 (by decide +kernel) (by decide +kernel)
theorem wd_719 : Cond.selects RX6 yX6_cut yX6_cut ∈ ALLW := aw 719 (by decide +kernel) (by decide +kernel)
theorem wd_720 : Cond.code yX6_cut cX6_cut 4 (some .int) ∈ ALLW := aw 720 (by decide +kernel) (by decide +kernel)
theorem wd_722 : Cond.methodLink RX6 139 yX4_shorten ∈ ALLW := aw 722 (by decide +kernel) (by decide +kernel)
theorem wd_723 : Cond.instanceMethod yX4_shorten ∈ ALLW := aw 723 (by decide +kernel) (by decide +kernel)
theorem wd_724 : Cond.selects RX4 yX4_shorten yX4_shorten ∈ ALLW := aw 724 (by decide +kernel) (by decide +kernel)
theorem wd_725 : Cond.code yX4_shorten cX4_shorten 2 none ∈ ALLW := aw 725 (by decide +kernel) (by decide +kernel)
theorem wd_730 : Cond.instanceMethod yX6_pass ∈ ALLW := aw 730 (by decide +kernel) (by decide +kernel)
theorem wd_731 : Cond.selects RX6 yX6_pass yX6_pass ∈ ALLW := aw 731 (by decide +kernel) (by decide +kernel)
theorem wd_732 : Cond.code yX6_pass cX6_pass 4 (some .int) ∈ ALLW := aw 732 (by decide +kernel) (by decide +kernel)
theorem wd_734 : Cond.methodLink RX6 148 yX2_liveDay ∈ ALLW := aw 734 (by decide +kernel) (by decide +kernel)
theorem wd_735 : Cond.instanceMethod yX2_liveDay ∈ ALLW := aw 735 (by decide +kernel) (by decide +kernel)
theorem wd_736 : Cond.selects RX2 yX2_liveDay yX2_liveDay ∈ ALLW := aw 736 (by decide +kernel) (by decide +kernel)
theorem wd_737 : Cond.code yX2_liveDay cX2_liveDay 3 (some .int) ∈ ALLW := aw 737 (by decide +kernel) (by decide +kernel)
theorem wd_738 : Cond.methodLink RX2 47 yX0_liveDay ∈ ALLW := aw 738 (by decide +kernel) (by decide +kernel)
theorem wd_739 : Cond.instanceMethod yX0_liveDay ∈ ALLW := aw 739 (by decide +kernel) (by decide +kernel)
theorem wd_740 : Cond.selects RX0 yX0_liveDay yX0_liveDay ∈ ALLW := aw 740 (by decide +kernel) (by decide +kernel)
theorem wd_741 : Cond.code yX0_liveDay cX0_liveDay 4 (some .int) ∈ ALLW := aw 741 (by decide +kernel) (by decide +kernel)
theorem wd_742 : Cond.methodLink RX0 66 yX0_excess ∈ ALLW := aw 742 (by decide +kernel) (by decide +kernel)
theorem wd_743 : Cond.methodLink RX0 70 yX0_daysLeft ∈ ALLW := aw 743 (by decide +kernel) (by decide +kernel)
theorem wd_748 : Cond.instanceMethod yX6_breakVow ∈ ALLW := aw 748 (by decide +kernel) (by decide +kernel)
theorem wd_749 : Cond.selects RX6 yX6_breakVow yX6_breakVow ∈ ALLW := aw 749 (by decide +kernel) (by decide +kernel)
theorem wd_750 : Cond.code yX6_breakVow cX6_breakVow 4 (some .int) ∈ ALLW := aw 750 (by decide +kernel) (by decide +kernel)
theorem wd_751 : Cond.methodLink RX6 158 yX0_vow ∈ ALLW := aw 751 (by decide +kernel) (by decide +kernel)
theorem wd_756 : Cond.instanceMethod yX6_ask ∈ ALLW := aw 756 (by decide +kernel) (by decide +kernel)
theorem wd_757 : Cond.selects RX6 yX6_ask yX6_ask ∈ ALLW := aw 757 (by decide +kernel) (by decide +kernel)
theorem wd_758 : Cond.code yX6_ask cX6_ask 5 (some .int) ∈ ALLW := aw 758 (by decide +kernel) (by decide +kernel)
theorem wd_759 : Cond.methodLink RX6 161 yX6_requireQuestion ∈ ALLW := aw 759 (by decide +kernel) (by decide +kernel)
theorem wd_760 : Cond.static yX6_requireQuestion ∈ ALLW := aw 760 (by decide +kernel) (by decide +kernel)
theorem wd_761 : Cond.code yX6_requireQuestion cX6_requireQuestion 2 none ∈ ALLW := aw 761 (by decide +kernel) (by decide +kernel)
theorem wd_762 : Cond.methodLink RX6 179 yX1_answer ∈ ALLW := aw 762 (by decide +kernel) (by decide +kernel)
theorem wd_763 : Cond.static yX1_answer ∈ ALLW := aw 763 (by decide +kernel) (by decide +kernel)
theorem wd_764 : Cond.code yX1_answer cX1_answer 3 (some .int) ∈ ALLW := aw 764 (by decide +kernel) (by decide +kernel)
theorem wd_765 : Cond.methodLink RX1 40 yX4_timesOf ∈ ALLW := aw 765 (by decide +kernel) (by decide +kernel)
theorem wd_766 : Cond.methodLink RX1 43 yX4_sum ∈ ALLW := aw 766 (by decide +kernel) (by decide +kernel)
theorem wd_767 : Cond.instanceMethod yX4_sum ∈ ALLW := aw 767 (by decide +kernel) (by decide +kernel)
theorem wd_768 : Cond.selects RX4 yX4_sum yX4_sum ∈ ALLW := aw 768 (by decide +kernel) (by decide +kernel)
theorem wd_769 : Cond.code yX4_sum cX4_sum 3 (some .int) ∈ ALLW := aw 769 (by decide +kernel) (by decide +kernel)
theorem wd_774 : Cond.instanceMethod yX6_set ∈ ALLW := aw 774 (by decide +kernel) (by decide +kernel)
theorem wd_775 : Cond.selects RX6 yX6_set yX6_set ∈ ALLW := aw 775 (by decide +kernel) (by decide +kernel)
theorem wd_776 : Cond.code yX6_set cX6_set 4 (some .int) ∈ ALLW := aw 776 (by decide +kernel) (by decide +kernel)
theorem wd_777 : Cond.methodLink RX6 183 yX6_settingAt ∈ ALLW := aw 777 (by decide +kernel) (by decide +kernel)
theorem wd_779 : Cond.instanceMethod yX6_settingAt ∈ ALLW := aw 779 (by decide +kernel) (by decide +kernel)
theorem wd_780 : Cond.code yX6_settingAt cX6_settingAt 2 (some .int) ∈ ALLW := aw 780 (by decide +kernel) (by decide +kernel)
theorem wd_786 : Cond.instanceMethod yX6_append ∈ ALLW := aw 786 (by decide +kernel) (by decide +kernel)
theorem wd_787 : Cond.selects RX6 yX6_append yX6_append ∈ ALLW := aw 787 (by decide +kernel) (by decide +kernel)
theorem wd_788 : Cond.code yX6_append cX6_append 2 (some .int) ∈ ALLW := aw 788 (by decide +kernel) (by decide +kernel)
theorem wd_789 : Cond.methodLink RX6 192 yX5_isFull ∈ ALLW := aw 789 (by decide +kernel) (by decide +kernel)
theorem wd_790 : Cond.instanceMethod yX5_isFull ∈ ALLW := aw 790 (by decide +kernel) (by decide +kernel)
theorem wd_791 : Cond.selects RX5 yX5_isFull yX5_isFull ∈ ALLW := aw 791 (by decide +kernel) (by decide +kernel)
theorem wd_792 : Cond.code yX5_isFull cX5_isFull 1 (some .boolean) ∈ ALLW := aw 792 (by decide +kernel) (by decide +kernel)
theorem wd_794 : Cond.methodLink RX6 198 yX5_push ∈ ALLW := aw 794 (by decide +kernel) (by decide +kernel)
theorem wd_795 : Cond.instanceMethod yX5_push ∈ ALLW := aw 795 (by decide +kernel) (by decide +kernel)
theorem wd_796 : Cond.selects RX5 yX5_push yX5_push ∈ ALLW := aw 796 (by decide +kernel) (by decide +kernel)
theorem wd_797 : Cond.code yX5_push cX5_push 2 none ∈ ALLW := aw 797 (by decide +kernel) (by decide +kernel)
theorem wd_798 : Cond.methodLink RX5 28 yX5_isFull ∈ ALLW := aw 798 (by decide +kernel) (by decide +kernel)
theorem wd_803 : Cond.instanceMethod yX6_undo ∈ ALLW := aw 803 (by decide +kernel) (by decide +kernel)
theorem wd_804 : Cond.selects RX6 yX6_undo yX6_undo ∈ ALLW := aw 804 (by decide +kernel) (by decide +kernel)
theorem wd_805 : Cond.code yX6_undo cX6_undo 1 (some .int) ∈ ALLW := aw 805 (by decide +kernel) (by decide +kernel)
theorem wd_807 : Cond.methodLink RX6 209 yX3_restore ∈ ALLW := aw 807 (by decide +kernel) (by decide +kernel)
theorem wd_808 : Cond.instanceMethod yX3_restore ∈ ALLW := aw 808 (by decide +kernel) (by decide +kernel)
theorem wd_809 : Cond.selects RX3 yX3_restore yX3_restore ∈ ALLW := aw 809 (by decide +kernel) (by decide +kernel)
theorem wd_810 : Cond.code yX3_restore cX3_restore 2 none ∈ ALLW := aw 810 (by decide +kernel) (by decide +kernel)
theorem wd_815 : Cond.instanceMethod yX6_block ∈ ALLW := aw 815 (by decide +kernel) (by decide +kernel)
theorem wd_816 : Cond.selects RX6 yX6_block yX6_block ∈ ALLW := aw 816 (by decide +kernel) (by decide +kernel)
theorem wd_817 : Cond.code yX6_block cX6_block 4 (some .int) ∈ ALLW := aw 817 (by decide +kernel) (by decide +kernel)
theorem wd_822 : Cond.instanceMethod yX6_value ∈ ALLW := aw 822 (by decide +kernel) (by decide +kernel)
theorem wd_823 : Cond.selects RX6 yX6_value yX6_value ∈ ALLW := aw 823 (by decide +kernel) (by decide +kernel)
theorem wd_824 : Cond.code yX6_value cX6_value 3 (some .int) ∈ ALLW := aw 824 (by decide +kernel) (by decide +kernel)
theorem wd_829 : Cond.instanceMethod yX6_count ∈ ALLW := aw 829 (by decide +kernel) (by decide +kernel)
theorem wd_830 : Cond.selects RX6 yX6_count yX6_count ∈ ALLW := aw 830 (by decide +kernel) (by decide +kernel)
theorem wd_831 : Cond.code yX6_count cX6_count 2 (some .int) ∈ ALLW := aw 831 (by decide +kernel) (by decide +kernel)
theorem wd_836 : Cond.instanceMethod yX6_setting ∈ ALLW := aw 836 (by decide +kernel) (by decide +kernel)
theorem wd_837 : Cond.selects RX6 yX6_setting yX6_setting ∈ ALLW := aw 837 (by decide +kernel) (by decide +kernel)
theorem wd_838 : Cond.code yX6_setting cX6_setting 2 (some .int) ∈ ALLW := aw 838 (by decide +kernel) (by decide +kernel)
theorem wd_843 : Cond.instanceMethod yX6_cost ∈ ALLW := aw 843 (by decide +kernel) (by decide +kernel)
theorem wd_844 : Cond.selects RX6 yX6_cost yX6_cost ∈ ALLW := aw 844 (by decide +kernel) (by decide +kernel)
theorem wd_845 : Cond.code yX6_cost cX6_cost 4 (some .int) ∈ ALLW := aw 845 (by decide +kernel) (by decide +kernel)
theorem wd_850 : Cond.instanceMethod yX6_work ∈ ALLW := aw 850 (by decide +kernel) (by decide +kernel)
theorem wd_851 : Cond.selects RX6 yX6_work yX6_work ∈ ALLW := aw 851 (by decide +kernel) (by decide +kernel)
theorem wd_852 : Cond.code yX6_work cX6_work 6 (some .int) ∈ ALLW := aw 852 (by decide +kernel) (by decide +kernel)
theorem wd_857 : Cond.instanceMethod yX6_regretIn ∈ ALLW := aw 857 (by decide +kernel) (by decide +kernel)
theorem wd_858 : Cond.selects RX6 yX6_regretIn yX6_regretIn ∈ ALLW := aw 858 (by decide +kernel) (by decide +kernel)
theorem wd_859 : Cond.code yX6_regretIn cX6_regretIn 4 (some .int) ∈ ALLW := aw 859 (by decide +kernel) (by decide +kernel)
theorem wd_864 : Cond.instanceMethod yX6_gain ∈ ALLW := aw 864 (by decide +kernel) (by decide +kernel)
theorem wd_865 : Cond.selects RX6 yX6_gain yX6_gain ∈ ALLW := aw 865 (by decide +kernel) (by decide +kernel)
theorem wd_866 : Cond.code yX6_gain cX6_gain 2 (some .int) ∈ ALLW := aw 866 (by decide +kernel) (by decide +kernel)
theorem wd_871 : Cond.instanceMethod yX6_cheapest ∈ ALLW := aw 871 (by decide +kernel) (by decide +kernel)
theorem wd_872 : Cond.selects RX6 yX6_cheapest yX6_cheapest ∈ ALLW := aw 872 (by decide +kernel) (by decide +kernel)
theorem wd_873 : Cond.code yX6_cheapest cX6_cheapest 3 (some .int) ∈ ALLW := aw 873 (by decide +kernel) (by decide +kernel)
theorem wd_878 : Cond.instanceMethod yX6_mate ∈ ALLW := aw 878 (by decide +kernel) (by decide +kernel)
theorem wd_879 : Cond.selects RX6 yX6_mate yX6_mate ∈ ALLW := aw 879 (by decide +kernel) (by decide +kernel)
theorem wd_880 : Cond.code yX6_mate cX6_mate 2 (some .int) ∈ ALLW := aw 880 (by decide +kernel) (by decide +kernel)
theorem wd_884 : Cond.instanceMethod yX7_init ∈ ALLW := aw 884 (by decide +kernel) (by decide +kernel)
theorem wd_885 : Cond.code yX7_init cX7_init 1 none ∈ ALLW := aw 885 (by decide +kernel) (by decide +kernel)
theorem wd_886 : Cond.methodLink RX7 1 objectInit ∈ ALLW := aw 886 (by decide +kernel) (by decide +kernel)
theorem wd_887 : Cond.fieldLink RX7 7 RX7 "z" "[I" ∈ ALLW := aw 887 (by decide +kernel) (by decide +kernel)
theorem wd_888 : Cond.fieldLink RX7 29 RX7 "states" "I" ∈ ALLW := aw 888 (by decide +kernel) (by decide +kernel)
theorem wd_889 : Cond.fieldLink RX7 13 RX7 "history" "[I" ∈ ALLW := aw 889 (by decide +kernel) (by decide +kernel)
theorem wd_890 : Cond.fieldLink RX7 108 RX7 "length" "I" ∈ ALLW := aw 890 (by decide +kernel) (by decide +kernel)
theorem wd_891 : Cond.fieldLink RX7 16 RX7 "text" "[I" ∈ ALLW := aw 891 (by decide +kernel) (by decide +kernel)
theorem wd_892 : Cond.fieldLink RX7 25 RX7 "thrown" "I" ∈ ALLW := aw 892 (by decide +kernel) (by decide +kernel)
theorem wd_893 : Cond.fieldLink RX7 19 RX7 "row" "[I" ∈ ALLW := aw 893 (by decide +kernel) (by decide +kernel)
theorem wd_894 : Cond.fieldLink RX7 44 RX7 "n" "I" ∈ ALLW := aw 894 (by decide +kernel) (by decide +kernel)
theorem wd_895 : Cond.fieldLink RX7 22 RX7 "parts" "[I" ∈ ALLW := aw 895 (by decide +kernel) (by decide +kernel)
theorem wd_896 : Cond.fieldLink RX7 118 RX7 "read" "I" ∈ ALLW := aw 896 (by decide +kernel) (by decide +kernel)
theorem wd_897 : Cond.fieldLink RX7 166 RX7 "isTimes" "Z" ∈ ALLW := aw 897 (by decide +kernel) (by decide +kernel)
theorem wd_898 : Cond.fieldLink RX7 163 RX7 "number" "I" ∈ ALLW := aw 898 (by decide +kernel) (by decide +kernel)
theorem wd_899 : Cond.fieldLink RX7 222 RX7 "hash" "J" ∈ ALLW := aw 899 (by decide +kernel) (by decide +kernel)
theorem wd_928 : Cond.instanceMethod yX7_thrown ∈ ALLW := aw 928 (by decide +kernel) (by decide +kernel)
theorem wd_929 : Cond.selects RX7 yX7_thrown yX7_thrown ∈ ALLW := aw 929 (by decide +kernel) (by decide +kernel)
theorem wd_930 : Cond.code yX7_thrown cX7_thrown 1 (some .int) ∈ ALLW := aw 930 (by decide +kernel) (by decide +kernel)
theorem wd_932 : Cond.instanceMethod yX7_make ∈ ALLW := aw 932 (by decide +kernel) (by decide +kernel)
theorem wd_933 : Cond.selects RX7 yX7_make yX7_make ∈ ALLW := aw 933 (by decide +kernel) (by decide +kernel)
theorem wd_934 : Cond.code yX7_make cX7_make 5 (some .int) ∈ ALLW := aw 934 (by decide +kernel) (by decide +kernel)
theorem wd_935 : Cond.methodLink RX7 93 yX7_isValue ∈ ALLW := aw 935 (by decide +kernel) (by decide +kernel)
theorem wd_936 : Cond.static yX7_isValue ∈ ALLW := aw 936 (by decide +kernel) (by decide +kernel)
theorem wd_937 : Cond.code yX7_isValue cX7_isValue 1 (some .boolean) ∈ ALLW := aw 937 (by decide +kernel) (by decide +kernel)
theorem wd_938 : Cond.methodLink RX7 32 yX7_within ∈ ALLW := aw 938 (by decide +kernel) (by decide +kernel)
theorem wd_939 : Cond.static yX7_within ∈ ALLW := aw 939 (by decide +kernel) (by decide +kernel)
theorem wd_940 : Cond.code yX7_within cX7_within 3 (some .boolean) ∈ ALLW := aw 940 (by decide +kernel) (by decide +kernel)
theorem wd_941 : Cond.methodLink RX7 96 yX7_save ∈ ALLW := aw 941 (by decide +kernel) (by decide +kernel)
theorem wd_943 : Cond.instanceMethod yX7_save ∈ ALLW := aw 943 (by decide +kernel) (by decide +kernel)
theorem wd_944 : Cond.code yX7_save cX7_save 2 none ∈ ALLW := aw 944 (by decide +kernel) (by decide +kernel)
theorem wd_945 : Cond.methodLink RX7 99 yX7_begin ∈ ALLW := aw 945 (by decide +kernel) (by decide +kernel)
theorem wd_947 : Cond.instanceMethod yX7_begin ∈ ALLW := aw 947 (by decide +kernel) (by decide +kernel)
theorem wd_948 : Cond.code yX7_begin cX7_begin 4 (some .int) ∈ ALLW := aw 948 (by decide +kernel) (by decide +kernel)
theorem wd_949 : Cond.methodLink RX7 89 yX7_setOf ∈ ALLW := aw 949 (by decide +kernel) (by decide +kernel)
theorem wd_951 : Cond.instanceMethod yX7_setOf ∈ ALLW := aw 951 (by decide +kernel) (by decide +kernel)
theorem wd_952 : Cond.code yX7_setOf cX7_setOf 4 none ∈ ALLW := aw 952 (by decide +kernel) (by decide +kernel)
theorem wd_953 : Cond.methodLink RX7 102 yX7_choose ∈ ALLW := aw 953 (by decide +kernel) (by decide +kernel)
theorem wd_955 : Cond.instanceMethod yX7_choose ∈ ALLW := aw 955 (by decide +kernel) (by decide +kernel)
theorem wd_956 : Cond.code yX7_choose cX7_choose 2 none ∈ ALLW := aw 956 (by decide +kernel) (by decide +kernel)
theorem wd_957 : Cond.methodLink RX7 47 yX7_lay ∈ ALLW := aw 957 (by decide +kernel) (by decide +kernel)
theorem wd_959 : Cond.instanceMethod yX7_lay ∈ ALLW := aw 959 (by decide +kernel) (by decide +kernel)
theorem wd_960 : Cond.code yX7_lay cX7_lay 3 none ∈ ALLW := aw 960 (by decide +kernel) (by decide +kernel)
theorem wd_961 : Cond.methodLink RX7 40 yX7_of ∈ ALLW := aw 961 (by decide +kernel) (by decide +kernel)
theorem wd_963 : Cond.instanceMethod yX7_of ∈ ALLW := aw 963 (by decide +kernel) (by decide +kernel)
theorem wd_964 : Cond.code yX7_of cX7_of 3 (some .int) ∈ ALLW := aw 964 (by decide +kernel) (by decide +kernel)
theorem wd_965 : Cond.methodLink RX7 86 yX7_bestCode ∈ ALLW := aw 965 (by decide +kernel) (by decide +kernel)
theorem wd_967 : Cond.instanceMethod yX7_bestCode ∈ ALLW := aw 967 (by decide +kernel) (by decide +kernel)
theorem wd_968 : Cond.code yX7_bestCode cX7_bestCode 3 (some .int) ∈ ALLW := aw 968 (by decide +kernel) (by decide +kernel)
theorem wd_969 : Cond.methodLink RX7 83 yX7_costBy ∈ ALLW := aw 969 (by decide +kernel) (by decide +kernel)
theorem wd_971 : Cond.instanceMethod yX7_costBy ∈ ALLW := aw 971 (by decide +kernel) (by decide +kernel)
theorem wd_972 : Cond.code yX7_costBy cX7_costBy 2 (some .int) ∈ ALLW := aw 972 (by decide +kernel) (by decide +kernel)
theorem wd_973 : Cond.methodLink RX7 68 yX7_runsOf ∈ ALLW := aw 973 (by decide +kernel) (by decide +kernel)
theorem wd_975 : Cond.instanceMethod yX7_runsOf ∈ ALLW := aw 975 (by decide +kernel) (by decide +kernel)
theorem wd_976 : Cond.code yX7_runsOf cX7_runsOf 4 (some .int) ∈ ALLW := aw 976 (by decide +kernel) (by decide +kernel)
theorem wd_977 : Cond.methodLink RX7 71 yX7_different ∈ ALLW := aw 977 (by decide +kernel) (by decide +kernel)
theorem wd_979 : Cond.instanceMethod yX7_different ∈ ALLW := aw 979 (by decide +kernel) (by decide +kernel)
theorem wd_980 : Cond.code yX7_different cX7_different 3 (some .int) ∈ ALLW := aw 980 (by decide +kernel) (by decide +kernel)
theorem wd_981 : Cond.methodLink RX7 51 yX7_firstOf ∈ ALLW := aw 981 (by decide +kernel) (by decide +kernel)
theorem wd_983 : Cond.instanceMethod yX7_firstOf ∈ ALLW := aw 983 (by decide +kernel) (by decide +kernel)
theorem wd_984 : Cond.code yX7_firstOf cX7_firstOf 3 (some .int) ∈ ALLW := aw 984 (by decide +kernel) (by decide +kernel)
theorem wd_985 : Cond.methodLink RX7 65 yX7_bitsFor ∈ ALLW := aw 985 (by decide +kernel) (by decide +kernel)
theorem wd_986 : Cond.static yX7_bitsFor ∈ ALLW := aw 986 (by decide +kernel) (by decide +kernel)
theorem wd_987 : Cond.code yX7_bitsFor cX7_bitsFor 2 (some .int) ∈ ALLW := aw 987 (by decide +kernel) (by decide +kernel)
theorem wd_988 : Cond.methodLink RX7 74 yX7_stepBits ∈ ALLW := aw 988 (by decide +kernel) (by decide +kernel)
theorem wd_990 : Cond.instanceMethod yX7_stepBits ∈ ALLW := aw 990 (by decide +kernel) (by decide +kernel)
theorem wd_991 : Cond.code yX7_stepBits cX7_stepBits 4 (some .int) ∈ ALLW := aw 991 (by decide +kernel) (by decide +kernel)
theorem wd_992 : Cond.methodLink RX7 77 yX7_rare ∈ ALLW := aw 992 (by decide +kernel) (by decide +kernel)
theorem wd_994 : Cond.instanceMethod yX7_rare ∈ ALLW := aw 994 (by decide +kernel) (by decide +kernel)
theorem wd_995 : Cond.code yX7_rare cX7_rare 1 (some .int) ∈ ALLW := aw 995 (by decide +kernel) (by decide +kernel)
theorem wd_996 : Cond.methodLink RX7 58 yX7_commonOne ∈ ALLW := aw 996 (by decide +kernel) (by decide +kernel)
theorem wd_998 : Cond.instanceMethod yX7_commonOne ∈ ALLW := aw 998 (by decide +kernel) (by decide +kernel)
theorem wd_999 : Cond.code yX7_commonOne cX7_commonOne 4 (some .int) ∈ ALLW := aw 999 (by decide +kernel) (by decide +kernel)
theorem wd_1000 : Cond.methodLink RX7 55 yX7_timesOf ∈ ALLW := aw 1000 (by decide +kernel) (by decide +kernel)
theorem wd_1002 : Cond.instanceMethod yX7_timesOf ∈ ALLW := aw 1002 (by decide +kernel) (by decide +kernel)
theorem wd_1003 : Cond.code yX7_timesOf cX7_timesOf 4 (some .int) ∈ ALLW := aw 1003 (by decide +kernel) (by decide +kernel)
theorem wd_1004 : Cond.methodLink RX7 80 yX7_frameBits ∈ ALLW := aw 1004 (by decide +kernel) (by decide +kernel)
theorem wd_1006 : Cond.instanceMethod yX7_frameBits ∈ ALLW := aw 1006 (by decide +kernel) (by decide +kernel)
theorem wd_1007 : Cond.code yX7_frameBits cX7_frameBits 3 (some .int) ∈ ALLW := aw 1007 (by decide +kernel) (by decide +kernel)
theorem wd_1008 : Cond.methodLink RX7 62 yX7_least ∈ ALLW := aw 1008 (by decide +kernel) (by decide +kernel)
theorem wd_1010 : Cond.instanceMethod yX7_least ∈ ALLW := aw 1010 (by decide +kernel) (by decide +kernel)
theorem wd_1011 : Cond.code yX7_least cX7_least 3 (some .int) ∈ ALLW := aw 1011 (by decide +kernel) (by decide +kernel)
theorem wd_1013 : Cond.instanceMethod yX7_read ∈ ALLW := aw 1013 (by decide +kernel) (by decide +kernel)
theorem wd_1014 : Cond.selects RX7 yX7_read yX7_read ∈ ALLW := aw 1014 (by decide +kernel) (by decide +kernel)
theorem wd_1015 : Cond.code yX7_read cX7_read 5 (some .int) ∈ ALLW := aw 1015 (by decide +kernel) (by decide +kernel)
theorem wd_1016 : Cond.methodLink RX7 105 yX7_rightUpTo ∈ ALLW := aw 1016 (by decide +kernel) (by decide +kernel)
theorem wd_1018 : Cond.instanceMethod yX7_rightUpTo ∈ ALLW := aw 1018 (by decide +kernel) (by decide +kernel)
theorem wd_1019 : Cond.code yX7_rightUpTo cX7_rightUpTo 2 (some .int) ∈ ALLW := aw 1019 (by decide +kernel) (by decide +kernel)
theorem wd_1020 : Cond.methodLink RX7 173 yX7_takes ∈ ALLW := aw 1020 (by decide +kernel) (by decide +kernel)
theorem wd_1022 : Cond.instanceMethod yX7_takes ∈ ALLW := aw 1022 (by decide +kernel) (by decide +kernel)
theorem wd_1023 : Cond.code yX7_takes cX7_takes 2 (some .boolean) ∈ ALLW := aw 1023 (by decide +kernel) (by decide +kernel)
theorem wd_1024 : Cond.methodLink RX7 111 yX7_isEnded ∈ ALLW := aw 1024 (by decide +kernel) (by decide +kernel)
theorem wd_1026 : Cond.instanceMethod yX7_isEnded ∈ ALLW := aw 1026 (by decide +kernel) (by decide +kernel)
theorem wd_1027 : Cond.code yX7_isEnded cX7_isEnded 1 (some .boolean) ∈ ALLW := aw 1027 (by decide +kernel) (by decide +kernel)
theorem wd_1028 : Cond.methodLink RX7 170 yX7_takesDigit ∈ ALLW := aw 1028 (by decide +kernel) (by decide +kernel)
theorem wd_1030 : Cond.instanceMethod yX7_takesDigit ∈ ALLW := aw 1030 (by decide +kernel) (by decide +kernel)
theorem wd_1031 : Cond.code yX7_takesDigit cX7_takesDigit 4 (some .boolean) ∈ ALLW := aw 1031 (by decide +kernel) (by decide +kernel)
theorem wd_1032 : Cond.methodLink RX7 115 yX7_valuesRead ∈ ALLW := aw 1032 (by decide +kernel) (by decide +kernel)
theorem wd_1034 : Cond.instanceMethod yX7_valuesRead ∈ ALLW := aw 1034 (by decide +kernel) (by decide +kernel)
theorem wd_1035 : Cond.code yX7_valuesRead cX7_valuesRead 3 (some .int) ∈ ALLW := aw 1035 (by decide +kernel) (by decide +kernel)
theorem wd_1036 : Cond.methodLink RX7 121 yX7_times ∈ ALLW := aw 1036 (by decide +kernel) (by decide +kernel)
theorem wd_1038 : Cond.instanceMethod yX7_times ∈ ALLW := aw 1038 (by decide +kernel) (by decide +kernel)
theorem wd_1039 : Cond.code yX7_times cX7_times 2 (some .int) ∈ ALLW := aw 1039 (by decide +kernel) (by decide +kernel)
theorem wd_1041 : Cond.instanceMethod yX7_add ∈ ALLW := aw 1041 (by decide +kernel) (by decide +kernel)
theorem wd_1042 : Cond.selects RX7 yX7_add yX7_add ∈ ALLW := aw 1042 (by decide +kernel) (by decide +kernel)
theorem wd_1043 : Cond.code yX7_add cX7_add 3 (some .int) ∈ ALLW := aw 1043 (by decide +kernel) (by decide +kernel)
theorem wd_1044 : Cond.methodLink RX7 36 yX7_isBlock ∈ ALLW := aw 1044 (by decide +kernel) (by decide +kernel)
theorem wd_1046 : Cond.instanceMethod yX7_isBlock ∈ ALLW := aw 1046 (by decide +kernel) (by decide +kernel)
theorem wd_1047 : Cond.code yX7_isBlock cX7_isBlock 2 (some .boolean) ∈ ALLW := aw 1047 (by decide +kernel) (by decide +kernel)
theorem wd_1049 : Cond.instanceMethod yX7_put ∈ ALLW := aw 1049 (by decide +kernel) (by decide +kernel)
theorem wd_1050 : Cond.selects RX7 yX7_put yX7_put ∈ ALLW := aw 1050 (by decide +kernel) (by decide +kernel)
theorem wd_1051 : Cond.code yX7_put cX7_put 5 (some .int) ∈ ALLW := aw 1051 (by decide +kernel) (by decide +kernel)
theorem wd_1052 : Cond.methodLink RX7 124 yX7_isPlace ∈ ALLW := aw 1052 (by decide +kernel) (by decide +kernel)
theorem wd_1054 : Cond.instanceMethod yX7_isPlace ∈ ALLW := aw 1054 (by decide +kernel) (by decide +kernel)
theorem wd_1055 : Cond.code yX7_isPlace cX7_isPlace 3 (some .boolean) ∈ ALLW := aw 1055 (by decide +kernel) (by decide +kernel)
theorem wd_1057 : Cond.instanceMethod yX7_take ∈ ALLW := aw 1057 (by decide +kernel) (by decide +kernel)
theorem wd_1058 : Cond.selects RX7 yX7_take yX7_take ∈ ALLW := aw 1058 (by decide +kernel) (by decide +kernel)
theorem wd_1059 : Cond.code yX7_take cX7_take 5 (some .int) ∈ ALLW := aw 1059 (by decide +kernel) (by decide +kernel)
theorem wd_1061 : Cond.instanceMethod yX7_turn ∈ ALLW := aw 1061 (by decide +kernel) (by decide +kernel)
theorem wd_1062 : Cond.selects RX7 yX7_turn yX7_turn ∈ ALLW := aw 1062 (by decide +kernel) (by decide +kernel)
theorem wd_1063 : Cond.code yX7_turn cX7_turn 3 (some .int) ∈ ALLW := aw 1063 (by decide +kernel) (by decide +kernel)
theorem wd_1065 : Cond.instanceMethod yX7_join ∈ ALLW := aw 1065 (by decide +kernel) (by decide +kernel)
theorem wd_1066 : Cond.selects RX7 yX7_join yX7_join ∈ ALLW := aw 1066 (by decide +kernel) (by decide +kernel)
theorem wd_1067 : Cond.code yX7_join cX7_join 4 (some .int) ∈ ALLW := aw 1067 (by decide +kernel) (by decide +kernel)
theorem wd_1068 : Cond.methodLink RX7 128 yX7_canJoin ∈ ALLW := aw 1068 (by decide +kernel) (by decide +kernel)
theorem wd_1070 : Cond.instanceMethod yX7_canJoin ∈ ALLW := aw 1070 (by decide +kernel) (by decide +kernel)
theorem wd_1071 : Cond.code yX7_canJoin cX7_canJoin 3 (some .boolean) ∈ ALLW := aw 1071 (by decide +kernel) (by decide +kernel)
theorem wd_1072 : Cond.methodLink RX7 131 yX7_layBoth ∈ ALLW := aw 1072 (by decide +kernel) (by decide +kernel)
theorem wd_1074 : Cond.instanceMethod yX7_layBoth ∈ ALLW := aw 1074 (by decide +kernel) (by decide +kernel)
theorem wd_1075 : Cond.code yX7_layBoth cX7_layBoth 4 none ∈ ALLW := aw 1075 (by decide +kernel) (by decide +kernel)
theorem wd_1076 : Cond.methodLink RX7 135 yX7_remove ∈ ALLW := aw 1076 (by decide +kernel) (by decide +kernel)
theorem wd_1078 : Cond.instanceMethod yX7_remove ∈ ALLW := aw 1078 (by decide +kernel) (by decide +kernel)
theorem wd_1079 : Cond.code yX7_remove cX7_remove 3 none ∈ ALLW := aw 1079 (by decide +kernel) (by decide +kernel)
theorem wd_1081 : Cond.instanceMethod yX7_cut ∈ ALLW := aw 1081 (by decide +kernel) (by decide +kernel)
theorem wd_1082 : Cond.selects RX7 yX7_cut yX7_cut ∈ ALLW := aw 1082 (by decide +kernel) (by decide +kernel)
theorem wd_1083 : Cond.code yX7_cut cX7_cut 6 (some .int) ∈ ALLW := aw 1083 (by decide +kernel) (by decide +kernel)
theorem wd_1085 : Cond.instanceMethod yX7_pass ∈ ALLW := aw 1085 (by decide +kernel) (by decide +kernel)
theorem wd_1086 : Cond.selects RX7 yX7_pass yX7_pass ∈ ALLW := aw 1086 (by decide +kernel) (by decide +kernel)
theorem wd_1087 : Cond.code yX7_pass cX7_pass 6 (some .int) ∈ ALLW := aw 1087 (by decide +kernel) (by decide +kernel)
theorem wd_1088 : Cond.methodLink RX7 141 yX7_dayOf ∈ ALLW := aw 1088 (by decide +kernel) (by decide +kernel)
theorem wd_1090 : Cond.instanceMethod yX7_dayOf ∈ ALLW := aw 1090 (by decide +kernel) (by decide +kernel)
theorem wd_1091 : Cond.code yX7_dayOf cX7_dayOf 3 (some .int) ∈ ALLW := aw 1091 (by decide +kernel) (by decide +kernel)
theorem wd_1092 : Cond.methodLink RX7 138 yX7_regretBy ∈ ALLW := aw 1092 (by decide +kernel) (by decide +kernel)
theorem wd_1094 : Cond.instanceMethod yX7_regretBy ∈ ALLW := aw 1094 (by decide +kernel) (by decide +kernel)
theorem wd_1095 : Cond.code yX7_regretBy cX7_regretBy 2 (some .int) ∈ ALLW := aw 1095 (by decide +kernel) (by decide +kernel)
theorem wd_1097 : Cond.instanceMethod yX7_breakVow ∈ ALLW := aw 1097 (by decide +kernel) (by decide +kernel)
theorem wd_1098 : Cond.selects RX7 yX7_breakVow yX7_breakVow ∈ ALLW := aw 1098 (by decide +kernel) (by decide +kernel)
theorem wd_1099 : Cond.code yX7_breakVow cX7_breakVow 3 (some .int) ∈ ALLW := aw 1099 (by decide +kernel) (by decide +kernel)
theorem wd_1100 : Cond.methodLink RX7 147 yX7_fineOf ∈ ALLW := aw 1100 (by decide +kernel) (by decide +kernel)
theorem wd_1102 : Cond.instanceMethod yX7_fineOf ∈ ALLW := aw 1102 (by decide +kernel) (by decide +kernel)
theorem wd_1103 : Cond.code yX7_fineOf cX7_fineOf 2 (some .int) ∈ ALLW := aw 1103 (by decide +kernel) (by decide +kernel)
theorem wd_1104 : Cond.methodLink RX7 144 yX7_daysLeft ∈ ALLW := aw 1104 (by decide +kernel) (by decide +kernel)
theorem wd_1106 : Cond.instanceMethod yX7_daysLeft ∈ ALLW := aw 1106 (by decide +kernel) (by decide +kernel)
theorem wd_1107 : Cond.code yX7_daysLeft cX7_daysLeft 3 (some .int) ∈ ALLW := aw 1107 (by decide +kernel) (by decide +kernel)
theorem wd_1109 : Cond.instanceMethod yX7_ask ∈ ALLW := aw 1109 (by decide +kernel) (by decide +kernel)
theorem wd_1110 : Cond.selects RX7 yX7_ask yX7_ask ∈ ALLW := aw 1110 (by decide +kernel) (by decide +kernel)
theorem wd_1111 : Cond.code yX7_ask cX7_ask 4 (some .int) ∈ ALLW := aw 1111 (by decide +kernel) (by decide +kernel)
theorem wd_1112 : Cond.methodLink RX7 150 yX7_isQuestion ∈ ALLW := aw 1112 (by decide +kernel) (by decide +kernel)
theorem wd_1113 : Cond.static yX7_isQuestion ∈ ALLW := aw 1113 (by decide +kernel) (by decide +kernel)
theorem wd_1114 : Cond.code yX7_isQuestion cX7_isQuestion 1 (some .boolean) ∈ ALLW := aw 1114 (by decide +kernel) (by decide +kernel)
theorem wd_1115 : Cond.methodLink RX7 153 yX7_workBy ∈ ALLW := aw 1115 (by decide +kernel) (by decide +kernel)
theorem wd_1117 : Cond.instanceMethod yX7_workBy ∈ ALLW := aw 1117 (by decide +kernel) (by decide +kernel)
theorem wd_1118 : Cond.code yX7_workBy cX7_workBy 7 (some .int) ∈ ALLW := aw 1118 (by decide +kernel) (by decide +kernel)
theorem wd_1119 : Cond.methodLink RX7 157 yX7_answer ∈ ALLW := aw 1119 (by decide +kernel) (by decide +kernel)
theorem wd_1121 : Cond.instanceMethod yX7_answer ∈ ALLW := aw 1121 (by decide +kernel) (by decide +kernel)
theorem wd_1122 : Cond.code yX7_answer cX7_answer 5 (some .int) ∈ ALLW := aw 1122 (by decide +kernel) (by decide +kernel)
theorem wd_1124 : Cond.instanceMethod yX7_set ∈ ALLW := aw 1124 (by decide +kernel) (by decide +kernel)
theorem wd_1125 : Cond.selects RX7 yX7_set yX7_set ∈ ALLW := aw 1125 (by decide +kernel) (by decide +kernel)
theorem wd_1126 : Cond.code yX7_set cX7_set 4 (some .int) ∈ ALLW := aw 1126 (by decide +kernel) (by decide +kernel)
theorem wd_1127 : Cond.methodLink RX7 160 yX7_isSetting ∈ ALLW := aw 1127 (by decide +kernel) (by decide +kernel)
theorem wd_1128 : Cond.static yX7_isSetting ∈ ALLW := aw 1128 (by decide +kernel) (by decide +kernel)
theorem wd_1129 : Cond.code yX7_isSetting cX7_isSetting 1 (some .boolean) ∈ ALLW := aw 1129 (by decide +kernel) (by decide +kernel)
theorem wd_1131 : Cond.instanceMethod yX7_append ∈ ALLW := aw 1131 (by decide +kernel) (by decide +kernel)
theorem wd_1132 : Cond.selects RX7 yX7_append yX7_append ∈ ALLW := aw 1132 (by decide +kernel) (by decide +kernel)
theorem wd_1133 : Cond.code yX7_append cX7_append 2 (some .int) ∈ ALLW := aw 1133 (by decide +kernel) (by decide +kernel)
theorem wd_1135 : Cond.instanceMethod yX7_clearBuffer ∈ ALLW := aw 1135 (by decide +kernel) (by decide +kernel)
theorem wd_1136 : Cond.selects RX7 yX7_clearBuffer yX7_clearBuffer ∈ ALLW := aw 1136 (by decide +kernel) (by decide +kernel)
theorem wd_1137 : Cond.code yX7_clearBuffer cX7_clearBuffer 2 (some .int) ∈ ALLW := aw 1137 (by decide +kernel) (by decide +kernel)
theorem wd_1139 : Cond.instanceMethod yX7_firstError ∈ ALLW := aw 1139 (by decide +kernel) (by decide +kernel)
theorem wd_1140 : Cond.selects RX7 yX7_firstError yX7_firstError ∈ ALLW := aw 1140 (by decide +kernel) (by decide +kernel)
theorem wd_1141 : Cond.code yX7_firstError cX7_firstError 1 (some .int) ∈ ALLW := aw 1141 (by decide +kernel) (by decide +kernel)
theorem wd_1143 : Cond.instanceMethod yX7_undo ∈ ALLW := aw 1143 (by decide +kernel) (by decide +kernel)
theorem wd_1144 : Cond.selects RX7 yX7_undo yX7_undo ∈ ALLW := aw 1144 (by decide +kernel) (by decide +kernel)
theorem wd_1145 : Cond.code yX7_undo cX7_undo 2 (some .int) ∈ ALLW := aw 1145 (by decide +kernel) (by decide +kernel)
theorem wd_1147 : Cond.instanceMethod yX7_block ∈ ALLW := aw 1147 (by decide +kernel) (by decide +kernel)
theorem wd_1148 : Cond.selects RX7 yX7_block yX7_block ∈ ALLW := aw 1148 (by decide +kernel) (by decide +kernel)
theorem wd_1149 : Cond.code yX7_block cX7_block 3 (some .int) ∈ ALLW := aw 1149 (by decide +kernel) (by decide +kernel)
theorem wd_1150 : Cond.methodLink RX7 182 yX7_blockNow ∈ ALLW := aw 1150 (by decide +kernel) (by decide +kernel)
theorem wd_1152 : Cond.instanceMethod yX7_blockNow ∈ ALLW := aw 1152 (by decide +kernel) (by decide +kernel)
theorem wd_1153 : Cond.code yX7_blockNow cX7_blockNow 3 (some .int) ∈ ALLW := aw 1153 (by decide +kernel) (by decide +kernel)
theorem wd_1154 : Cond.methodLink RX7 179 yX7_firstAlike ∈ ALLW := aw 1154 (by decide +kernel) (by decide +kernel)
theorem wd_1156 : Cond.instanceMethod yX7_firstAlike ∈ ALLW := aw 1156 (by decide +kernel) (by decide +kernel)
theorem wd_1157 : Cond.code yX7_firstAlike cX7_firstAlike 3 (some .int) ∈ ALLW := aw 1157 (by decide +kernel) (by decide +kernel)
theorem wd_1158 : Cond.methodLink RX7 176 yX7_areAlike ∈ ALLW := aw 1158 (by decide +kernel) (by decide +kernel)
theorem wd_1160 : Cond.instanceMethod yX7_areAlike ∈ ALLW := aw 1160 (by decide +kernel) (by decide +kernel)
theorem wd_1161 : Cond.code yX7_areAlike cX7_areAlike 5 (some .boolean) ∈ ALLW := aw 1161 (by decide +kernel) (by decide +kernel)
theorem wd_1163 : Cond.instanceMethod yX7_value ∈ ALLW := aw 1163 (by decide +kernel) (by decide +kernel)
theorem wd_1164 : Cond.selects RX7 yX7_value yX7_value ∈ ALLW := aw 1164 (by decide +kernel) (by decide +kernel)
theorem wd_1165 : Cond.code yX7_value cX7_value 3 (some .int) ∈ ALLW := aw 1165 (by decide +kernel) (by decide +kernel)
theorem wd_1167 : Cond.instanceMethod yX7_count ∈ ALLW := aw 1167 (by decide +kernel) (by decide +kernel)
theorem wd_1168 : Cond.selects RX7 yX7_count yX7_count ∈ ALLW := aw 1168 (by decide +kernel) (by decide +kernel)
theorem wd_1169 : Cond.code yX7_count cX7_count 2 (some .int) ∈ ALLW := aw 1169 (by decide +kernel) (by decide +kernel)
theorem wd_1170 : Cond.methodLink RX7 191 yX7_counted ∈ ALLW := aw 1170 (by decide +kernel) (by decide +kernel)
theorem wd_1172 : Cond.instanceMethod yX7_counted ∈ ALLW := aw 1172 (by decide +kernel) (by decide +kernel)
theorem wd_1173 : Cond.code yX7_counted cX7_counted 2 (some .int) ∈ ALLW := aw 1173 (by decide +kernel) (by decide +kernel)
theorem wd_1174 : Cond.methodLink RX7 185 yX7_sumOf ∈ ALLW := aw 1174 (by decide +kernel) (by decide +kernel)
theorem wd_1176 : Cond.instanceMethod yX7_sumOf ∈ ALLW := aw 1176 (by decide +kernel) (by decide +kernel)
theorem wd_1177 : Cond.code yX7_sumOf cX7_sumOf 5 (some .int) ∈ ALLW := aw 1177 (by decide +kernel) (by decide +kernel)
theorem wd_1178 : Cond.methodLink RX7 188 yX7_blocksWith ∈ ALLW := aw 1178 (by decide +kernel) (by decide +kernel)
theorem wd_1180 : Cond.instanceMethod yX7_blocksWith ∈ ALLW := aw 1180 (by decide +kernel) (by decide +kernel)
theorem wd_1181 : Cond.code yX7_blocksWith cX7_blocksWith 4 (some .int) ∈ ALLW := aw 1181 (by decide +kernel) (by decide +kernel)
theorem wd_1183 : Cond.instanceMethod yX7_setting ∈ ALLW := aw 1183 (by decide +kernel) (by decide +kernel)
theorem wd_1184 : Cond.selects RX7 yX7_setting yX7_setting ∈ ALLW := aw 1184 (by decide +kernel) (by decide +kernel)
theorem wd_1185 : Cond.code yX7_setting cX7_setting 2 (some .int) ∈ ALLW := aw 1185 (by decide +kernel) (by decide +kernel)
theorem wd_1187 : Cond.instanceMethod yX7_cost ∈ ALLW := aw 1187 (by decide +kernel) (by decide +kernel)
theorem wd_1188 : Cond.selects RX7 yX7_cost yX7_cost ∈ ALLW := aw 1188 (by decide +kernel) (by decide +kernel)
theorem wd_1189 : Cond.code yX7_cost cX7_cost 3 (some .int) ∈ ALLW := aw 1189 (by decide +kernel) (by decide +kernel)
theorem wd_1190 : Cond.methodLink RX7 194 yX7_isCode ∈ ALLW := aw 1190 (by decide +kernel) (by decide +kernel)
theorem wd_1191 : Cond.static yX7_isCode ∈ ALLW := aw 1191 (by decide +kernel) (by decide +kernel)
theorem wd_1192 : Cond.code yX7_isCode cX7_isCode 1 (some .boolean) ∈ ALLW := aw 1192 (by decide +kernel) (by decide +kernel)
theorem wd_1193 : Cond.methodLink RX7 197 yX7_costNow ∈ ALLW := aw 1193 (by decide +kernel) (by decide +kernel)
theorem wd_1195 : Cond.instanceMethod yX7_costNow ∈ ALLW := aw 1195 (by decide +kernel) (by decide +kernel)
theorem wd_1196 : Cond.code yX7_costNow cX7_costNow 3 (some .int) ∈ ALLW := aw 1196 (by decide +kernel) (by decide +kernel)
theorem wd_1198 : Cond.instanceMethod yX7_work ∈ ALLW := aw 1198 (by decide +kernel) (by decide +kernel)
theorem wd_1199 : Cond.selects RX7 yX7_work yX7_work ∈ ALLW := aw 1199 (by decide +kernel) (by decide +kernel)
theorem wd_1200 : Cond.code yX7_work cX7_work 5 (some .int) ∈ ALLW := aw 1200 (by decide +kernel) (by decide +kernel)
theorem wd_1201 : Cond.methodLink RX7 200 yX7_workNow ∈ ALLW := aw 1201 (by decide +kernel) (by decide +kernel)
theorem wd_1203 : Cond.instanceMethod yX7_workNow ∈ ALLW := aw 1203 (by decide +kernel) (by decide +kernel)
theorem wd_1204 : Cond.code yX7_workNow cX7_workNow 5 (some .int) ∈ ALLW := aw 1204 (by decide +kernel) (by decide +kernel)
theorem wd_1206 : Cond.instanceMethod yX7_regretIn ∈ ALLW := aw 1206 (by decide +kernel) (by decide +kernel)
theorem wd_1207 : Cond.selects RX7 yX7_regretIn yX7_regretIn ∈ ALLW := aw 1207 (by decide +kernel) (by decide +kernel)
theorem wd_1208 : Cond.code yX7_regretIn cX7_regretIn 3 (some .int) ∈ ALLW := aw 1208 (by decide +kernel) (by decide +kernel)
theorem wd_1209 : Cond.methodLink RX7 204 yX7_regretThen ∈ ALLW := aw 1209 (by decide +kernel) (by decide +kernel)
theorem wd_1211 : Cond.instanceMethod yX7_regretThen ∈ ALLW := aw 1211 (by decide +kernel) (by decide +kernel)
theorem wd_1212 : Cond.code yX7_regretThen cX7_regretThen 5 (some .int) ∈ ALLW := aw 1212 (by decide +kernel) (by decide +kernel)
theorem wd_1214 : Cond.instanceMethod yX7_gain ∈ ALLW := aw 1214 (by decide +kernel) (by decide +kernel)
theorem wd_1215 : Cond.selects RX7 yX7_gain yX7_gain ∈ ALLW := aw 1215 (by decide +kernel) (by decide +kernel)
theorem wd_1216 : Cond.code yX7_gain cX7_gain 2 (some .int) ∈ ALLW := aw 1216 (by decide +kernel) (by decide +kernel)
theorem wd_1217 : Cond.methodLink RX7 207 yX7_gainNow ∈ ALLW := aw 1217 (by decide +kernel) (by decide +kernel)
theorem wd_1219 : Cond.instanceMethod yX7_gainNow ∈ ALLW := aw 1219 (by decide +kernel) (by decide +kernel)
theorem wd_1220 : Cond.code yX7_gainNow cX7_gainNow 3 (some .int) ∈ ALLW := aw 1220 (by decide +kernel) (by decide +kernel)
theorem wd_1222 : Cond.instanceMethod yX7_cheapest ∈ ALLW := aw 1222 (by decide +kernel) (by decide +kernel)
theorem wd_1223 : Cond.selects RX7 yX7_cheapest yX7_cheapest ∈ ALLW := aw 1223 (by decide +kernel) (by decide +kernel)
theorem wd_1224 : Cond.code yX7_cheapest cX7_cheapest 3 (some .int) ∈ ALLW := aw 1224 (by decide +kernel) (by decide +kernel)
theorem wd_1225 : Cond.methodLink RX7 210 yX7_cheapestNow ∈ ALLW := aw 1225 (by decide +kernel) (by decide +kernel)
theorem wd_1227 : Cond.instanceMethod yX7_cheapestNow ∈ ALLW := aw 1227 (by decide +kernel) (by decide +kernel)
theorem wd_1228 : Cond.code yX7_cheapestNow cX7_cheapestNow 8 (some .int) ∈ ALLW := aw 1228 (by decide +kernel) (by decide +kernel)
theorem wd_1230 : Cond.instanceMethod yX7_mate ∈ ALLW := aw 1230 (by decide +kernel) (by decide +kernel)
theorem wd_1231 : Cond.selects RX7 yX7_mate yX7_mate ∈ ALLW := aw 1231 (by decide +kernel) (by decide +kernel)
theorem wd_1232 : Cond.code yX7_mate cX7_mate 2 (some .int) ∈ ALLW := aw 1232 (by decide +kernel) (by decide +kernel)
theorem wd_1233 : Cond.methodLink RX7 213 yX7_mateFor ∈ ALLW := aw 1233 (by decide +kernel) (by decide +kernel)
theorem wd_1235 : Cond.instanceMethod yX7_mateFor ∈ ALLW := aw 1235 (by decide +kernel) (by decide +kernel)
theorem wd_1236 : Cond.code yX7_mateFor cX7_mateFor 7 (some .int) ∈ ALLW := aw 1236 (by decide +kernel) (by decide +kernel)
theorem wd_1238 : Cond.instanceMethod yX7_meanBits ∈ ALLW := aw 1238 (by decide +kernel) (by decide +kernel)
theorem wd_1239 : Cond.selects RX7 yX7_meanBits yX7_meanBits ∈ ALLW := aw 1239 (by decide +kernel) (by decide +kernel)
theorem wd_1240 : Cond.code yX7_meanBits cX7_meanBits 1 (some .double) ∈ ALLW := aw 1240 (by decide +kernel) (by decide +kernel)
theorem wd_1241 : Cond.methodLink RX7 216 yX7_mean ∈ ALLW := aw 1241 (by decide +kernel) (by decide +kernel)
theorem wd_1243 : Cond.instanceMethod yX7_mean ∈ ALLW := aw 1243 (by decide +kernel) (by decide +kernel)
theorem wd_1244 : Cond.code yX7_mean cX7_mean 2 (some .double) ∈ ALLW := aw 1244 (by decide +kernel) (by decide +kernel)
theorem wd_1246 : Cond.instanceMethod yX7_digest ∈ ALLW := aw 1246 (by decide +kernel) (by decide +kernel)
theorem wd_1247 : Cond.selects RX7 yX7_digest yX7_digest ∈ ALLW := aw 1247 (by decide +kernel) (by decide +kernel)
theorem wd_1248 : Cond.code yX7_digest cX7_digest 2 (some .long) ∈ ALLW := aw 1248 (by decide +kernel) (by decide +kernel)
theorem wd_1249 : Cond.constantLong RX7 230 2441 ∈ ALLW := aw 1249 (by decide +kernel) (by decide +kernel)
theorem wd_1250 : Cond.methodLink RX7 226 yX7_mix ∈ ALLW := aw 1250 (by decide +kernel) (by decide +kernel)
theorem wd_1252 : Cond.instanceMethod yX7_mix ∈ ALLW := aw 1252 (by decide +kernel) (by decide +kernel)
theorem wd_1253 : Cond.code yX7_mix cX7_mix 3 none ∈ ALLW := aw 1253 (by decide +kernel) (by decide +kernel)
theorem wd_1254 : Cond.constantLong RX7 220 31 ∈ ALLW := aw 1254 (by decide +kernel) (by decide +kernel)
theorem wd_1255 : Cond.methodLink RX7 232 yX7_mixBlock ∈ ALLW := aw 1255 (by decide +kernel) (by decide +kernel)
theorem wd_1257 : Cond.instanceMethod yX7_mixBlock ∈ ALLW := aw 1257 (by decide +kernel) (by decide +kernel)
theorem wd_1258 : Cond.code yX7_mixBlock cX7_mixBlock 3 none ∈ ALLW := aw 1258 (by decide +kernel) (by decide +kernel)
theorem wd_1259 : Cond.methodLink RX7 235 yJxe99ae_doubleToLongBits_ccdee ∈ ALLW := aw 1259 (by decide +kernel) (by decide +kernel)
theorem wd_1260 : Cond.static yJxe99ae_doubleToLongBits_ccdee ∈ ALLW := aw 1260 (by decide +kernel) (by decide +kernel)
theorem wd_1261 : Cond.code yJxe99ae_doubleToLongBits_ccdee cJxe99ae_doubleToLongBits_ccdee 2 (some .long) ∈ ALLW := aw 1261 (by decide +kernel) (by decide +kernel)
theorem wd_1262 : Cond.methodLink RJxe99ae 122 yJxe99ae_isNaN_b9ae7 ∈ ALLW := aw 1262 (by decide +kernel) (by decide +kernel)
theorem wd_1263 : Cond.static yJxe99ae_isNaN_b9ae7 ∈ ALLW := aw 1263 (by decide +kernel) (by decide +kernel)
theorem wd_1264 : Cond.code yJxe99ae_isNaN_b9ae7 cJxe99ae_isNaN_b9ae7 2 (some .boolean) ∈ ALLW := aw 1264 (by decide +kernel) (by decide +kernel)
theorem wd_1265 : Cond.methodLink RJxe99ae 134 ⟨"java/lang/Double", "doubleToRawLongBits", "(D)J"⟩ ∈ ALLW := aw 1265 (by decide +kernel) (by decide +kernel)
theorem wd_1266 : Cond.static ⟨"java/lang/Double", "doubleToRawLongBits", "(D)J"⟩ ∈ ALLW := aw 1266 (by decide +kernel) (by decide +kernel)
theorem wd_1267 : Cond.native ⟨"java/lang/Double", "doubleToRawLongBits", "(D)J"⟩ ∈ ALLW := aw 1267 (by decide +kernel) (by decide +kernel)
theorem wd_1268 : Cond.constantLong RJxe99ae 137 9221120237041090560 ∈ ALLW := aw 1268 (by decide +kernel) (by decide +kernel)
theorem wn_102 : Cond.methodLinkNest RX2 30 yX0_init "VowBlocks" ∈ NWS := nw 102 (by decide +kernel) (by decide +kernel)
theorem wn_108 : Cond.methodLinkNest RX0 9 yX4_init "VowBlocks" ∈ NWS := nw 108 (by decide +kernel) (by decide +kernel)
theorem wn_192 : Cond.methodLinkNest RX6 25 yX5_init "VowBlocks" ∈ NWS := nw 192 (by decide +kernel) (by decide +kernel)
theorem wn_213 : Cond.methodLinkNest RX6 32 yX4_init "VowBlocks" ∈ NWS := nw 213 (by decide +kernel) (by decide +kernel)
theorem iX0 : ∀ w ∈ u_ws RX0 TX0 8, w ∈ ALLW := aw_idx [138, 140, 142, 144, 146, 148, 150, 152] (by decide +kernel) (by decide +kernel)
theorem iX2 : ∀ w ∈ u_ws RX2 TX2 5, w ∈ ALLW := aw_idx [163, 165, 167, 169, 171] (by decide +kernel) (by decide +kernel)
theorem iX3 : ∀ w ∈ u_ws RX3 TX3 2, w ∈ ALLW := aw_idx [185, 187] (by decide +kernel) (by decide +kernel)
theorem iX4 : ∀ w ∈ u_ws RX4 TX4 2, w ∈ ALLW := aw_idx [114, 116] (by decide +kernel) (by decide +kernel)
theorem iX5 : ∀ w ∈ u_ws RX5 TX5 5, w ∈ ALLW := aw_idx [201, 203, 205, 207, 209] (by decide +kernel) (by decide +kernel)
theorem iX6 : ∀ w ∈ u_ws RX6 TX6 4, w ∈ ALLW := aw_idx [218, 220, 222, 224] (by decide +kernel) (by decide +kernel)
theorem iX7 : ∀ w ∈ u_ws RX7 TX7 13, w ∈ ALLW := aw_idx [900, 902, 904, 906, 908, 910, 912, 914, 916, 918, 920, 922, 924] (by decide +kernel) (by decide +kernel)
section FLD
variable {p : Program} {l : Launch} {e : Env} {R : Room} {s : State} {m : MethodId} {args : Array Value} {below : List Frame} {meth : Method} {c : Code} {H : Heap} {locs : List Loc} {cells slots : Nat} {Q : State → Prop} {cc : ByteArray} {pc index : Nat} {ls : Array Slot} {rest : List Value} {D : va_G} {cy : Nat → ClassId} {A : Nat → Prop} {a : Nat} {S S1 : St} {H0 : Heap} {own : String}
theorem fg_5_0 (hx : p.tables.exec = Jvm.exec) (hb : c.code = cc) (hts : ∀ w ∈ ALLW, w.before args s = true) (hown : s.vm.findClass own = some m.cls) (hK : va_K D vwCl (tyL cy) s) (hP : SP D cy S H) (hk : Cond.fieldLink own index RX6 "column" "LVowBlocks$Column;" ∈ ALLW) {x : Nat} (hg : gR S a 5 0 = some x) (hdg : decode cc pc = .ok (.getfield index, 3)) (kk : W p l e R s m args below meth c H locs cells slots Q (F0 m (pc + 3) ls (.ref x :: rest))) : W p l e R s m args below meth c H locs cells slots Q (F0 m pc ls (.ref a :: rest)) := by
  obtain ⟨fs, h1, h2⟩ := gR_spec hg
  exact r_gV hx hb hts iX6 hown hK hP rfl 0 (by decide) rfl (hts _ hk) h1 h2 hdg kk
theorem fp_5_0 (hx : p.tables.exec = Jvm.exec) (hb : c.code = cc) (hts : ∀ w ∈ ALLW, w.before args s = true) (hown : s.vm.findClass own = some m.cls) (hK : va_K D vwCl (tyL cy) s) (hP : SP D cy S H) (hD : ∀ a, S a ≠ none → A a) (hS : va_S A H0 H locs) (hin : meth.name = "<init>") (hown9 : RX6 = own) (hk : Cond.fieldLink own index RX6 "column" "LVowBlocks$Column;" ∈ ALLW) {v : Nat} (hg : pR S a 5 0 v = some S1) (hdg : decode cc pc = .ok (.putfield index, 3)) (kk : ∀ (H1 : Heap) (locs1 : List Loc), H1.size = H.size → SP D cy S1 H1 → (∀ a, S1 a ≠ none → A a) → va_S A H0 H1 locs1 → W p l e R s m args below meth c H1 locs1 cells slots Q (F0 m (pc + 3) ls rest)) : W p l e R s m args below meth c H locs cells slots Q (F0 m pc ls (.ref v :: .ref a :: rest)) := by
  exact r_pV hx hb hts iX6 tyX6 tyX6_ok nmX6 hown hK hP hD hS rfl 0 (by decide) rfl (hts _ hk) (Or.inr ⟨rfl, hin, hown9⟩) rfl rfl hg hdg kk
theorem fg_5_1 (hx : p.tables.exec = Jvm.exec) (hb : c.code = cc) (hts : ∀ w ∈ ALLW, w.before args s = true) (hown : s.vm.findClass own = some m.cls) (hK : va_K D vwCl (tyL cy) s) (hP : SP D cy S H) (hk : Cond.fieldLink own index RX6 "history" "LVowBlocks$History;" ∈ ALLW) {x : Nat} (hg : gR S a 5 1 = some x) (hdg : decode cc pc = .ok (.getfield index, 3)) (kk : W p l e R s m args below meth c H locs cells slots Q (F0 m (pc + 3) ls (.ref x :: rest))) : W p l e R s m args below meth c H locs cells slots Q (F0 m pc ls (.ref a :: rest)) := by
  obtain ⟨fs, h1, h2⟩ := gR_spec hg
  exact r_gV hx hb hts iX6 hown hK hP rfl 1 (by decide) rfl (hts _ hk) h1 h2 hdg kk
theorem fp_5_1 (hx : p.tables.exec = Jvm.exec) (hb : c.code = cc) (hts : ∀ w ∈ ALLW, w.before args s = true) (hown : s.vm.findClass own = some m.cls) (hK : va_K D vwCl (tyL cy) s) (hP : SP D cy S H) (hD : ∀ a, S a ≠ none → A a) (hS : va_S A H0 H locs) (hin : meth.name = "<init>") (hown9 : RX6 = own) (hk : Cond.fieldLink own index RX6 "history" "LVowBlocks$History;" ∈ ALLW) {v : Nat} (hg : pR S a 5 1 v = some S1) (hdg : decode cc pc = .ok (.putfield index, 3)) (kk : ∀ (H1 : Heap) (locs1 : List Loc), H1.size = H.size → SP D cy S1 H1 → (∀ a, S1 a ≠ none → A a) → va_S A H0 H1 locs1 → W p l e R s m args below meth c H1 locs1 cells slots Q (F0 m (pc + 3) ls rest)) : W p l e R s m args below meth c H locs cells slots Q (F0 m pc ls (.ref v :: .ref a :: rest)) := by
  exact r_pV hx hb hts iX6 tyX6 tyX6_ok nmX6 hown hK hP hD hS rfl 1 (by decide) rfl (hts _ hk) (Or.inr ⟨rfl, hin, hown9⟩) rfl rfl hg hdg kk
theorem fg_5_2 (hx : p.tables.exec = Jvm.exec) (hb : c.code = cc) (hts : ∀ w ∈ ALLW, w.before args s = true) (hown : s.vm.findClass own = some m.cls) (hK : va_K D vwCl (tyL cy) s) (hP : SP D cy S H) (hk : Cond.fieldLink own index RX6 "text" "LVowBlocks$RowText;" ∈ ALLW) {x : Nat} (hg : gR S a 5 2 = some x) (hdg : decode cc pc = .ok (.getfield index, 3)) (kk : W p l e R s m args below meth c H locs cells slots Q (F0 m (pc + 3) ls (.ref x :: rest))) : W p l e R s m args below meth c H locs cells slots Q (F0 m pc ls (.ref a :: rest)) := by
  obtain ⟨fs, h1, h2⟩ := gR_spec hg
  exact r_gV hx hb hts iX6 hown hK hP rfl 2 (by decide) rfl (hts _ hk) h1 h2 hdg kk
theorem fp_5_2 (hx : p.tables.exec = Jvm.exec) (hb : c.code = cc) (hts : ∀ w ∈ ALLW, w.before args s = true) (hown : s.vm.findClass own = some m.cls) (hK : va_K D vwCl (tyL cy) s) (hP : SP D cy S H) (hD : ∀ a, S a ≠ none → A a) (hS : va_S A H0 H locs) (hin : meth.name = "<init>") (hown9 : RX6 = own) (hk : Cond.fieldLink own index RX6 "text" "LVowBlocks$RowText;" ∈ ALLW) {v : Nat} (hg : pR S a 5 2 v = some S1) (hdg : decode cc pc = .ok (.putfield index, 3)) (kk : ∀ (H1 : Heap) (locs1 : List Loc), H1.size = H.size → SP D cy S1 H1 → (∀ a, S1 a ≠ none → A a) → va_S A H0 H1 locs1 → W p l e R s m args below meth c H1 locs1 cells slots Q (F0 m (pc + 3) ls rest)) : W p l e R s m args below meth c H locs cells slots Q (F0 m pc ls (.ref v :: .ref a :: rest)) := by
  exact r_pV hx hb hts iX6 tyX6 tyX6_ok nmX6 hown hK hP hD hS rfl 2 (by decide) rfl (hts _ hk) (Or.inr ⟨rfl, hin, hown9⟩) rfl rfl hg hdg kk
theorem fg_5_3 (hx : p.tables.exec = Jvm.exec) (hb : c.code = cc) (hts : ∀ w ∈ ALLW, w.before args s = true) (hown : s.vm.findClass own = some m.cls) (hK : va_K D vwCl (tyL cy) s) (hP : SP D cy S H) (hk : Cond.fieldLink own index RX6 "trial" "LVowBlocks$Row;" ∈ ALLW) {x : Nat} (hg : gR S a 5 3 = some x) (hdg : decode cc pc = .ok (.getfield index, 3)) (kk : W p l e R s m args below meth c H locs cells slots Q (F0 m (pc + 3) ls (.ref x :: rest))) : W p l e R s m args below meth c H locs cells slots Q (F0 m pc ls (.ref a :: rest)) := by
  obtain ⟨fs, h1, h2⟩ := gR_spec hg
  exact r_gV hx hb hts iX6 hown hK hP rfl 3 (by decide) rfl (hts _ hk) h1 h2 hdg kk
theorem fp_5_3 (hx : p.tables.exec = Jvm.exec) (hb : c.code = cc) (hts : ∀ w ∈ ALLW, w.before args s = true) (hown : s.vm.findClass own = some m.cls) (hK : va_K D vwCl (tyL cy) s) (hP : SP D cy S H) (hD : ∀ a, S a ≠ none → A a) (hS : va_S A H0 H locs) (hin : meth.name = "<init>") (hown9 : RX6 = own) (hk : Cond.fieldLink own index RX6 "trial" "LVowBlocks$Row;" ∈ ALLW) {v : Nat} (hg : pR S a 5 3 v = some S1) (hdg : decode cc pc = .ok (.putfield index, 3)) (kk : ∀ (H1 : Heap) (locs1 : List Loc), H1.size = H.size → SP D cy S1 H1 → (∀ a, S1 a ≠ none → A a) → va_S A H0 H1 locs1 → W p l e R s m args below meth c H1 locs1 cells slots Q (F0 m (pc + 3) ls rest)) : W p l e R s m args below meth c H locs cells slots Q (F0 m pc ls (.ref v :: .ref a :: rest)) := by
  exact r_pV hx hb hts iX6 tyX6 tyX6_ok nmX6 hown hK hP hD hS rfl 3 (by decide) rfl (hts _ hk) (Or.inr ⟨rfl, hin, hown9⟩) rfl rfl hg hdg kk
theorem fg_0_0 (hx : p.tables.exec = Jvm.exec) (hb : c.code = cc) (hts : ∀ w ∈ ALLW, w.before args s = true) (hown : s.vm.findClass own = some m.cls) (hK : va_K D vwCl (tyL cy) s) (hP : SP D cy S H) (hk : Cond.fieldLink own index RX0 "row" "LVowBlocks$Row;" ∈ ALLW) {x : Nat} (hg : gR S a 0 0 = some x) (hdg : decode cc pc = .ok (.getfield index, 3)) (kk : W p l e R s m args below meth c H locs cells slots Q (F0 m (pc + 3) ls (.ref x :: rest))) : W p l e R s m args below meth c H locs cells slots Q (F0 m pc ls (.ref a :: rest)) := by
  obtain ⟨fs, h1, h2⟩ := gR_spec hg
  exact r_gV hx hb hts iX0 hown hK hP rfl 0 (by decide) rfl (hts _ hk) h1 h2 hdg kk
theorem fp_0_0 (hx : p.tables.exec = Jvm.exec) (hb : c.code = cc) (hts : ∀ w ∈ ALLW, w.before args s = true) (hown : s.vm.findClass own = some m.cls) (hK : va_K D vwCl (tyL cy) s) (hP : SP D cy S H) (hD : ∀ a, S a ≠ none → A a) (hS : va_S A H0 H locs) (hin : meth.name = "<init>") (hown9 : RX0 = own) (hk : Cond.fieldLink own index RX0 "row" "LVowBlocks$Row;" ∈ ALLW) {v : Nat} (hg : pR S a 0 0 v = some S1) (hdg : decode cc pc = .ok (.putfield index, 3)) (kk : ∀ (H1 : Heap) (locs1 : List Loc), H1.size = H.size → SP D cy S1 H1 → (∀ a, S1 a ≠ none → A a) → va_S A H0 H1 locs1 → W p l e R s m args below meth c H1 locs1 cells slots Q (F0 m (pc + 3) ls rest)) : W p l e R s m args below meth c H locs cells slots Q (F0 m pc ls (.ref v :: .ref a :: rest)) := by
  exact r_pV hx hb hts iX0 tyX0 tyX0_ok nmX0 hown hK hP hD hS rfl 0 (by decide) rfl (hts _ hk) (Or.inr ⟨rfl, hin, hown9⟩) rfl rfl hg hdg kk
theorem fg_0_1 (hx : p.tables.exec = Jvm.exec) (hb : c.code = cc) (hts : ∀ w ∈ ALLW, w.before args s = true) (hown : s.vm.findClass own = some m.cls) (hK : va_K D vwCl (tyL cy) s) (hP : SP D cy S H) (hk : Cond.fieldLink own index RX0 "code" "I" ∈ ALLW) {x : Int32} (hg : gI S a 0 1 = some x) (hdg : decode cc pc = .ok (.getfield index, 3)) (kk : W p l e R s m args below meth c H locs cells slots Q (F0 m (pc + 3) ls (.int x :: rest))) : W p l e R s m args below meth c H locs cells slots Q (F0 m pc ls (.ref a :: rest)) := by
  obtain ⟨fs, h1, h2⟩ := gI_spec hg
  exact r_gV hx hb hts iX0 hown hK hP rfl 1 (by decide) rfl (hts _ hk) h1 h2 hdg kk
theorem fp_0_1 (hx : p.tables.exec = Jvm.exec) (hb : c.code = cc) (hts : ∀ w ∈ ALLW, w.before args s = true) (hown : s.vm.findClass own = some m.cls) (hK : va_K D vwCl (tyL cy) s) (hP : SP D cy S H) (hD : ∀ a, S a ≠ none → A a) (hS : va_S A H0 H locs) (hk : Cond.fieldLink own index RX0 "code" "I" ∈ ALLW) {v : Int32} (hg : pI S a 0 1 v = some S1) (hdg : decode cc pc = .ok (.putfield index, 3)) (kk : ∀ (H1 : Heap) (locs1 : List Loc), H1.size = H.size → SP D cy S1 H1 → (∀ a, S1 a ≠ none → A a) → va_S A H0 H1 locs1 → W p l e R s m args below meth c H1 locs1 cells slots Q (F0 m (pc + 3) ls rest)) : W p l e R s m args below meth c H locs cells slots Q (F0 m pc ls (.int v :: .ref a :: rest)) := by
  exact r_pV hx hb hts iX0 tyX0 tyX0_ok nmX0 hown hK hP hD hS rfl 1 (by decide) rfl (hts _ hk) (Or.inl rfl) rfl rfl hg hdg kk
theorem fg_0_2 (hx : p.tables.exec = Jvm.exec) (hb : c.code = cc) (hts : ∀ w ∈ ALLW, w.before args s = true) (hown : s.vm.findClass own = some m.cls) (hK : va_K D vwCl (tyL cy) s) (hP : SP D cy S H) (hk : Cond.fieldLink own index RX0 "vowed" "I" ∈ ALLW) {x : Int32} (hg : gI S a 0 2 = some x) (hdg : decode cc pc = .ok (.getfield index, 3)) (kk : W p l e R s m args below meth c H locs cells slots Q (F0 m (pc + 3) ls (.int x :: rest))) : W p l e R s m args below meth c H locs cells slots Q (F0 m pc ls (.ref a :: rest)) := by
  obtain ⟨fs, h1, h2⟩ := gI_spec hg
  exact r_gV hx hb hts iX0 hown hK hP rfl 2 (by decide) rfl (hts _ hk) h1 h2 hdg kk
theorem fp_0_2 (hx : p.tables.exec = Jvm.exec) (hb : c.code = cc) (hts : ∀ w ∈ ALLW, w.before args s = true) (hown : s.vm.findClass own = some m.cls) (hK : va_K D vwCl (tyL cy) s) (hP : SP D cy S H) (hD : ∀ a, S a ≠ none → A a) (hS : va_S A H0 H locs) (hk : Cond.fieldLink own index RX0 "vowed" "I" ∈ ALLW) {v : Int32} (hg : pI S a 0 2 v = some S1) (hdg : decode cc pc = .ok (.putfield index, 3)) (kk : ∀ (H1 : Heap) (locs1 : List Loc), H1.size = H.size → SP D cy S1 H1 → (∀ a, S1 a ≠ none → A a) → va_S A H0 H1 locs1 → W p l e R s m args below meth c H1 locs1 cells slots Q (F0 m (pc + 3) ls rest)) : W p l e R s m args below meth c H locs cells slots Q (F0 m pc ls (.int v :: .ref a :: rest)) := by
  exact r_pV hx hb hts iX0 tyX0 tyX0_ok nmX0 hown hK hP hD hS rfl 2 (by decide) rfl (hts _ hk) (Or.inl rfl) rfl rfl hg hdg kk
theorem fg_0_3 (hx : p.tables.exec = Jvm.exec) (hb : c.code = cc) (hts : ∀ w ∈ ALLW, w.before args s = true) (hown : s.vm.findClass own = some m.cls) (hK : va_K D vwCl (tyL cy) s) (hP : SP D cy S H) (hk : Cond.fieldLink own index RX0 "regrets" "I" ∈ ALLW) {x : Int32} (hg : gI S a 0 3 = some x) (hdg : decode cc pc = .ok (.getfield index, 3)) (kk : W p l e R s m args below meth c H locs cells slots Q (F0 m (pc + 3) ls (.int x :: rest))) : W p l e R s m args below meth c H locs cells slots Q (F0 m pc ls (.ref a :: rest)) := by
  obtain ⟨fs, h1, h2⟩ := gI_spec hg
  exact r_gV hx hb hts iX0 hown hK hP rfl 3 (by decide) rfl (hts _ hk) h1 h2 hdg kk
theorem fp_0_3 (hx : p.tables.exec = Jvm.exec) (hb : c.code = cc) (hts : ∀ w ∈ ALLW, w.before args s = true) (hown : s.vm.findClass own = some m.cls) (hK : va_K D vwCl (tyL cy) s) (hP : SP D cy S H) (hD : ∀ a, S a ≠ none → A a) (hS : va_S A H0 H locs) (hk : Cond.fieldLink own index RX0 "regrets" "I" ∈ ALLW) {v : Int32} (hg : pI S a 0 3 v = some S1) (hdg : decode cc pc = .ok (.putfield index, 3)) (kk : ∀ (H1 : Heap) (locs1 : List Loc), H1.size = H.size → SP D cy S1 H1 → (∀ a, S1 a ≠ none → A a) → va_S A H0 H1 locs1 → W p l e R s m args below meth c H1 locs1 cells slots Q (F0 m (pc + 3) ls rest)) : W p l e R s m args below meth c H locs cells slots Q (F0 m pc ls (.int v :: .ref a :: rest)) := by
  exact r_pV hx hb hts iX0 tyX0 tyX0_ok nmX0 hown hK hP hD hS rfl 3 (by decide) rfl (hts _ hk) (Or.inl rfl) rfl rfl hg hdg kk
theorem fg_0_4 (hx : p.tables.exec = Jvm.exec) (hb : c.code = cc) (hts : ∀ w ∈ ALLW, w.before args s = true) (hown : s.vm.findClass own = some m.cls) (hK : va_K D vwCl (tyL cy) s) (hP : SP D cy S H) (hk : Cond.fieldLink own index RX0 "worked" "I" ∈ ALLW) {x : Int32} (hg : gI S a 0 4 = some x) (hdg : decode cc pc = .ok (.getfield index, 3)) (kk : W p l e R s m args below meth c H locs cells slots Q (F0 m (pc + 3) ls (.int x :: rest))) : W p l e R s m args below meth c H locs cells slots Q (F0 m pc ls (.ref a :: rest)) := by
  obtain ⟨fs, h1, h2⟩ := gI_spec hg
  exact r_gV hx hb hts iX0 hown hK hP rfl 4 (by decide) rfl (hts _ hk) h1 h2 hdg kk
theorem fp_0_4 (hx : p.tables.exec = Jvm.exec) (hb : c.code = cc) (hts : ∀ w ∈ ALLW, w.before args s = true) (hown : s.vm.findClass own = some m.cls) (hK : va_K D vwCl (tyL cy) s) (hP : SP D cy S H) (hD : ∀ a, S a ≠ none → A a) (hS : va_S A H0 H locs) (hk : Cond.fieldLink own index RX0 "worked" "I" ∈ ALLW) {v : Int32} (hg : pI S a 0 4 v = some S1) (hdg : decode cc pc = .ok (.putfield index, 3)) (kk : ∀ (H1 : Heap) (locs1 : List Loc), H1.size = H.size → SP D cy S1 H1 → (∀ a, S1 a ≠ none → A a) → va_S A H0 H1 locs1 → W p l e R s m args below meth c H1 locs1 cells slots Q (F0 m (pc + 3) ls rest)) : W p l e R s m args below meth c H locs cells slots Q (F0 m pc ls (.int v :: .ref a :: rest)) := by
  exact r_pV hx hb hts iX0 tyX0 tyX0_ok nmX0 hown hK hP hD hS rfl 4 (by decide) rfl (hts _ hk) (Or.inl rfl) rfl rfl hg hdg kk
theorem fg_0_5 (hx : p.tables.exec = Jvm.exec) (hb : c.code = cc) (hts : ∀ w ∈ ALLW, w.before args s = true) (hown : s.vm.findClass own = some m.cls) (hK : va_K D vwCl (tyL cy) s) (hP : SP D cy S H) (hk : Cond.fieldLink own index RX0 "questions" "I" ∈ ALLW) {x : Int32} (hg : gI S a 0 5 = some x) (hdg : decode cc pc = .ok (.getfield index, 3)) (kk : W p l e R s m args below meth c H locs cells slots Q (F0 m (pc + 3) ls (.int x :: rest))) : W p l e R s m args below meth c H locs cells slots Q (F0 m pc ls (.ref a :: rest)) := by
  obtain ⟨fs, h1, h2⟩ := gI_spec hg
  exact r_gV hx hb hts iX0 hown hK hP rfl 5 (by decide) rfl (hts _ hk) h1 h2 hdg kk
theorem fp_0_5 (hx : p.tables.exec = Jvm.exec) (hb : c.code = cc) (hts : ∀ w ∈ ALLW, w.before args s = true) (hown : s.vm.findClass own = some m.cls) (hK : va_K D vwCl (tyL cy) s) (hP : SP D cy S H) (hD : ∀ a, S a ≠ none → A a) (hS : va_S A H0 H locs) (hk : Cond.fieldLink own index RX0 "questions" "I" ∈ ALLW) {v : Int32} (hg : pI S a 0 5 v = some S1) (hdg : decode cc pc = .ok (.putfield index, 3)) (kk : ∀ (H1 : Heap) (locs1 : List Loc), H1.size = H.size → SP D cy S1 H1 → (∀ a, S1 a ≠ none → A a) → va_S A H0 H1 locs1 → W p l e R s m args below meth c H1 locs1 cells slots Q (F0 m (pc + 3) ls rest)) : W p l e R s m args below meth c H locs cells slots Q (F0 m pc ls (.int v :: .ref a :: rest)) := by
  exact r_pV hx hb hts iX0 tyX0 tyX0_ok nmX0 hown hK hP hD hS rfl 5 (by decide) rfl (hts _ hk) (Or.inl rfl) rfl rfl hg hdg kk
theorem fg_0_6 (hx : p.tables.exec = Jvm.exec) (hb : c.code = cc) (hts : ∀ w ∈ ALLW, w.before args s = true) (hown : s.vm.findClass own = some m.cls) (hK : va_K D vwCl (tyL cy) s) (hP : SP D cy S H) (hk : Cond.fieldLink own index RX0 "fines" "I" ∈ ALLW) {x : Int32} (hg : gI S a 0 6 = some x) (hdg : decode cc pc = .ok (.getfield index, 3)) (kk : W p l e R s m args below meth c H locs cells slots Q (F0 m (pc + 3) ls (.int x :: rest))) : W p l e R s m args below meth c H locs cells slots Q (F0 m pc ls (.ref a :: rest)) := by
  obtain ⟨fs, h1, h2⟩ := gI_spec hg
  exact r_gV hx hb hts iX0 hown hK hP rfl 6 (by decide) rfl (hts _ hk) h1 h2 hdg kk
theorem fp_0_6 (hx : p.tables.exec = Jvm.exec) (hb : c.code = cc) (hts : ∀ w ∈ ALLW, w.before args s = true) (hown : s.vm.findClass own = some m.cls) (hK : va_K D vwCl (tyL cy) s) (hP : SP D cy S H) (hD : ∀ a, S a ≠ none → A a) (hS : va_S A H0 H locs) (hk : Cond.fieldLink own index RX0 "fines" "I" ∈ ALLW) {v : Int32} (hg : pI S a 0 6 v = some S1) (hdg : decode cc pc = .ok (.putfield index, 3)) (kk : ∀ (H1 : Heap) (locs1 : List Loc), H1.size = H.size → SP D cy S1 H1 → (∀ a, S1 a ≠ none → A a) → va_S A H0 H1 locs1 → W p l e R s m args below meth c H1 locs1 cells slots Q (F0 m (pc + 3) ls rest)) : W p l e R s m args below meth c H locs cells slots Q (F0 m pc ls (.int v :: .ref a :: rest)) := by
  exact r_pV hx hb hts iX0 tyX0 tyX0_ok nmX0 hown hK hP hD hS rfl 6 (by decide) rfl (hts _ hk) (Or.inl rfl) rfl rfl hg hdg kk
theorem fg_0_7 (hx : p.tables.exec = Jvm.exec) (hb : c.code = cc) (hts : ∀ w ∈ ALLW, w.before args s = true) (hown : s.vm.findClass own = some m.cls) (hK : va_K D vwCl (tyL cy) s) (hP : SP D cy S H) (hk : Cond.fieldLink own index RX0 "choices" "I" ∈ ALLW) {x : Int32} (hg : gI S a 0 7 = some x) (hdg : decode cc pc = .ok (.getfield index, 3)) (kk : W p l e R s m args below meth c H locs cells slots Q (F0 m (pc + 3) ls (.int x :: rest))) : W p l e R s m args below meth c H locs cells slots Q (F0 m pc ls (.ref a :: rest)) := by
  obtain ⟨fs, h1, h2⟩ := gI_spec hg
  exact r_gV hx hb hts iX0 hown hK hP rfl 7 (by decide) rfl (hts _ hk) h1 h2 hdg kk
theorem fp_0_7 (hx : p.tables.exec = Jvm.exec) (hb : c.code = cc) (hts : ∀ w ∈ ALLW, w.before args s = true) (hown : s.vm.findClass own = some m.cls) (hK : va_K D vwCl (tyL cy) s) (hP : SP D cy S H) (hD : ∀ a, S a ≠ none → A a) (hS : va_S A H0 H locs) (hk : Cond.fieldLink own index RX0 "choices" "I" ∈ ALLW) {v : Int32} (hg : pI S a 0 7 v = some S1) (hdg : decode cc pc = .ok (.putfield index, 3)) (kk : ∀ (H1 : Heap) (locs1 : List Loc), H1.size = H.size → SP D cy S1 H1 → (∀ a, S1 a ≠ none → A a) → va_S A H0 H1 locs1 → W p l e R s m args below meth c H1 locs1 cells slots Q (F0 m (pc + 3) ls rest)) : W p l e R s m args below meth c H locs cells slots Q (F0 m pc ls (.int v :: .ref a :: rest)) := by
  exact r_pV hx hb hts iX0 tyX0 tyX0_ok nmX0 hown hK hP hD hS rfl 7 (by decide) rfl (hts _ hk) (Or.inl rfl) rfl rfl hg hdg kk
theorem fg_1_0 (hx : p.tables.exec = Jvm.exec) (hb : c.code = cc) (hts : ∀ w ∈ ALLW, w.before args s = true) (hown : s.vm.findClass own = some m.cls) (hK : va_K D vwCl (tyL cy) s) (hP : SP D cy S H) (hk : Cond.fieldLink own index RX2 "blocks" "[LVowBlocks$Block;" ∈ ALLW) {x : Nat} (hg : gR S a 1 0 = some x) (hdg : decode cc pc = .ok (.getfield index, 3)) (kk : W p l e R s m args below meth c H locs cells slots Q (F0 m (pc + 3) ls (.ref x :: rest))) : W p l e R s m args below meth c H locs cells slots Q (F0 m pc ls (.ref a :: rest)) := by
  obtain ⟨fs, h1, h2⟩ := gR_spec hg
  exact r_gV hx hb hts iX2 hown hK hP rfl 0 (by decide) rfl (hts _ hk) h1 h2 hdg kk
theorem fp_1_0 (hx : p.tables.exec = Jvm.exec) (hb : c.code = cc) (hts : ∀ w ∈ ALLW, w.before args s = true) (hown : s.vm.findClass own = some m.cls) (hK : va_K D vwCl (tyL cy) s) (hP : SP D cy S H) (hD : ∀ a, S a ≠ none → A a) (hS : va_S A H0 H locs) (hin : meth.name = "<init>") (hown9 : RX2 = own) (hk : Cond.fieldLink own index RX2 "blocks" "[LVowBlocks$Block;" ∈ ALLW) {v : Nat} (hg : pR S a 1 0 v = some S1) (hdg : decode cc pc = .ok (.putfield index, 3)) (kk : ∀ (H1 : Heap) (locs1 : List Loc), H1.size = H.size → SP D cy S1 H1 → (∀ a, S1 a ≠ none → A a) → va_S A H0 H1 locs1 → W p l e R s m args below meth c H1 locs1 cells slots Q (F0 m (pc + 3) ls rest)) : W p l e R s m args below meth c H locs cells slots Q (F0 m pc ls (.ref v :: .ref a :: rest)) := by
  exact r_pV hx hb hts iX2 tyX2 tyX2_ok nmX2 hown hK hP hD hS rfl 0 (by decide) rfl (hts _ hk) (Or.inr ⟨rfl, hin, hown9⟩) rfl rfl hg hdg kk
theorem fg_1_1 (hx : p.tables.exec = Jvm.exec) (hb : c.code = cc) (hts : ∀ w ∈ ALLW, w.before args s = true) (hown : s.vm.findClass own = some m.cls) (hK : va_K D vwCl (tyL cy) s) (hP : SP D cy S H) (hk : Cond.fieldLink own index RX2 "size" "I" ∈ ALLW) {x : Int32} (hg : gI S a 1 1 = some x) (hdg : decode cc pc = .ok (.getfield index, 3)) (kk : W p l e R s m args below meth c H locs cells slots Q (F0 m (pc + 3) ls (.int x :: rest))) : W p l e R s m args below meth c H locs cells slots Q (F0 m pc ls (.ref a :: rest)) := by
  obtain ⟨fs, h1, h2⟩ := gI_spec hg
  exact r_gV hx hb hts iX2 hown hK hP rfl 1 (by decide) rfl (hts _ hk) h1 h2 hdg kk
theorem fp_1_1 (hx : p.tables.exec = Jvm.exec) (hb : c.code = cc) (hts : ∀ w ∈ ALLW, w.before args s = true) (hown : s.vm.findClass own = some m.cls) (hK : va_K D vwCl (tyL cy) s) (hP : SP D cy S H) (hD : ∀ a, S a ≠ none → A a) (hS : va_S A H0 H locs) (hk : Cond.fieldLink own index RX2 "size" "I" ∈ ALLW) {v : Int32} (hg : pI S a 1 1 v = some S1) (hdg : decode cc pc = .ok (.putfield index, 3)) (kk : ∀ (H1 : Heap) (locs1 : List Loc), H1.size = H.size → SP D cy S1 H1 → (∀ a, S1 a ≠ none → A a) → va_S A H0 H1 locs1 → W p l e R s m args below meth c H1 locs1 cells slots Q (F0 m (pc + 3) ls rest)) : W p l e R s m args below meth c H locs cells slots Q (F0 m pc ls (.int v :: .ref a :: rest)) := by
  exact r_pV hx hb hts iX2 tyX2 tyX2_ok nmX2 hown hK hP hD hS rfl 1 (by decide) rfl (hts _ hk) (Or.inl rfl) rfl rfl hg hdg kk
theorem fg_1_2 (hx : p.tables.exec = Jvm.exec) (hb : c.code = cc) (hts : ∀ w ∈ ALLW, w.before args s = true) (hown : s.vm.findClass own = some m.cls) (hK : va_K D vwCl (tyL cy) s) (hP : SP D cy S H) (hk : Cond.fieldLink own index RX2 "day" "I" ∈ ALLW) {x : Int32} (hg : gI S a 1 2 = some x) (hdg : decode cc pc = .ok (.getfield index, 3)) (kk : W p l e R s m args below meth c H locs cells slots Q (F0 m (pc + 3) ls (.int x :: rest))) : W p l e R s m args below meth c H locs cells slots Q (F0 m pc ls (.ref a :: rest)) := by
  obtain ⟨fs, h1, h2⟩ := gI_spec hg
  exact r_gV hx hb hts iX2 hown hK hP rfl 2 (by decide) rfl (hts _ hk) h1 h2 hdg kk
theorem fp_1_2 (hx : p.tables.exec = Jvm.exec) (hb : c.code = cc) (hts : ∀ w ∈ ALLW, w.before args s = true) (hown : s.vm.findClass own = some m.cls) (hK : va_K D vwCl (tyL cy) s) (hP : SP D cy S H) (hD : ∀ a, S a ≠ none → A a) (hS : va_S A H0 H locs) (hk : Cond.fieldLink own index RX2 "day" "I" ∈ ALLW) {v : Int32} (hg : pI S a 1 2 v = some S1) (hdg : decode cc pc = .ok (.putfield index, 3)) (kk : ∀ (H1 : Heap) (locs1 : List Loc), H1.size = H.size → SP D cy S1 H1 → (∀ a, S1 a ≠ none → A a) → va_S A H0 H1 locs1 → W p l e R s m args below meth c H1 locs1 cells slots Q (F0 m (pc + 3) ls rest)) : W p l e R s m args below meth c H locs cells slots Q (F0 m pc ls (.int v :: .ref a :: rest)) := by
  exact r_pV hx hb hts iX2 tyX2 tyX2_ok nmX2 hown hK hP hD hS rfl 2 (by decide) rfl (hts _ hk) (Or.inl rfl) rfl rfl hg hdg kk
theorem fg_1_3 (hx : p.tables.exec = Jvm.exec) (hb : c.code = cc) (hts : ∀ w ∈ ALLW, w.before args s = true) (hown : s.vm.findClass own = some m.cls) (hK : va_K D vwCl (tyL cy) s) (hP : SP D cy S H) (hk : Cond.fieldLink own index RX2 "year" "I" ∈ ALLW) {x : Int32} (hg : gI S a 1 3 = some x) (hdg : decode cc pc = .ok (.getfield index, 3)) (kk : W p l e R s m args below meth c H locs cells slots Q (F0 m (pc + 3) ls (.int x :: rest))) : W p l e R s m args below meth c H locs cells slots Q (F0 m pc ls (.ref a :: rest)) := by
  obtain ⟨fs, h1, h2⟩ := gI_spec hg
  exact r_gV hx hb hts iX2 hown hK hP rfl 3 (by decide) rfl (hts _ hk) h1 h2 hdg kk
theorem fp_1_3 (hx : p.tables.exec = Jvm.exec) (hb : c.code = cc) (hts : ∀ w ∈ ALLW, w.before args s = true) (hown : s.vm.findClass own = some m.cls) (hK : va_K D vwCl (tyL cy) s) (hP : SP D cy S H) (hD : ∀ a, S a ≠ none → A a) (hS : va_S A H0 H locs) (hk : Cond.fieldLink own index RX2 "year" "I" ∈ ALLW) {v : Int32} (hg : pI S a 1 3 v = some S1) (hdg : decode cc pc = .ok (.putfield index, 3)) (kk : ∀ (H1 : Heap) (locs1 : List Loc), H1.size = H.size → SP D cy S1 H1 → (∀ a, S1 a ≠ none → A a) → va_S A H0 H1 locs1 → W p l e R s m args below meth c H1 locs1 cells slots Q (F0 m (pc + 3) ls rest)) : W p l e R s m args below meth c H locs cells slots Q (F0 m pc ls (.int v :: .ref a :: rest)) := by
  exact r_pV hx hb hts iX2 tyX2 tyX2_ok nmX2 hown hK hP hD hS rfl 3 (by decide) rfl (hts _ hk) (Or.inl rfl) rfl rfl hg hdg kk
theorem fg_1_4 (hx : p.tables.exec = Jvm.exec) (hb : c.code = cc) (hts : ∀ w ∈ ALLW, w.before args s = true) (hown : s.vm.findClass own = some m.cls) (hK : va_K D vwCl (tyL cy) s) (hP : SP D cy S H) (hk : Cond.fieldLink own index RX2 "fine" "I" ∈ ALLW) {x : Int32} (hg : gI S a 1 4 = some x) (hdg : decode cc pc = .ok (.getfield index, 3)) (kk : W p l e R s m args below meth c H locs cells slots Q (F0 m (pc + 3) ls (.int x :: rest))) : W p l e R s m args below meth c H locs cells slots Q (F0 m pc ls (.ref a :: rest)) := by
  obtain ⟨fs, h1, h2⟩ := gI_spec hg
  exact r_gV hx hb hts iX2 hown hK hP rfl 4 (by decide) rfl (hts _ hk) h1 h2 hdg kk
theorem fp_1_4 (hx : p.tables.exec = Jvm.exec) (hb : c.code = cc) (hts : ∀ w ∈ ALLW, w.before args s = true) (hown : s.vm.findClass own = some m.cls) (hK : va_K D vwCl (tyL cy) s) (hP : SP D cy S H) (hD : ∀ a, S a ≠ none → A a) (hS : va_S A H0 H locs) (hk : Cond.fieldLink own index RX2 "fine" "I" ∈ ALLW) {v : Int32} (hg : pI S a 1 4 v = some S1) (hdg : decode cc pc = .ok (.putfield index, 3)) (kk : ∀ (H1 : Heap) (locs1 : List Loc), H1.size = H.size → SP D cy S1 H1 → (∀ a, S1 a ≠ none → A a) → va_S A H0 H1 locs1 → W p l e R s m args below meth c H1 locs1 cells slots Q (F0 m (pc + 3) ls rest)) : W p l e R s m args below meth c H locs cells slots Q (F0 m pc ls (.int v :: .ref a :: rest)) := by
  exact r_pV hx hb hts iX2 tyX2 tyX2_ok nmX2 hown hK hP hD hS rfl 4 (by decide) rfl (hts _ hk) (Or.inl rfl) rfl rfl hg hdg kk
theorem fg_2_0 (hx : p.tables.exec = Jvm.exec) (hb : c.code = cc) (hts : ∀ w ∈ ALLW, w.before args s = true) (hown : s.vm.findClass own = some m.cls) (hK : va_K D vwCl (tyL cy) s) (hP : SP D cy S H) (hk : Cond.fieldLink own index RX3 "states" "[LVowBlocks$Column;" ∈ ALLW) {x : Nat} (hg : gR S a 2 0 = some x) (hdg : decode cc pc = .ok (.getfield index, 3)) (kk : W p l e R s m args below meth c H locs cells slots Q (F0 m (pc + 3) ls (.ref x :: rest))) : W p l e R s m args below meth c H locs cells slots Q (F0 m pc ls (.ref a :: rest)) := by
  obtain ⟨fs, h1, h2⟩ := gR_spec hg
  exact r_gV hx hb hts iX3 hown hK hP rfl 0 (by decide) rfl (hts _ hk) h1 h2 hdg kk
theorem fp_2_0 (hx : p.tables.exec = Jvm.exec) (hb : c.code = cc) (hts : ∀ w ∈ ALLW, w.before args s = true) (hown : s.vm.findClass own = some m.cls) (hK : va_K D vwCl (tyL cy) s) (hP : SP D cy S H) (hD : ∀ a, S a ≠ none → A a) (hS : va_S A H0 H locs) (hin : meth.name = "<init>") (hown9 : RX3 = own) (hk : Cond.fieldLink own index RX3 "states" "[LVowBlocks$Column;" ∈ ALLW) {v : Nat} (hg : pR S a 2 0 v = some S1) (hdg : decode cc pc = .ok (.putfield index, 3)) (kk : ∀ (H1 : Heap) (locs1 : List Loc), H1.size = H.size → SP D cy S1 H1 → (∀ a, S1 a ≠ none → A a) → va_S A H0 H1 locs1 → W p l e R s m args below meth c H1 locs1 cells slots Q (F0 m (pc + 3) ls rest)) : W p l e R s m args below meth c H locs cells slots Q (F0 m pc ls (.ref v :: .ref a :: rest)) := by
  exact r_pV hx hb hts iX3 tyX3 tyX3_ok nmX3 hown hK hP hD hS rfl 0 (by decide) rfl (hts _ hk) (Or.inr ⟨rfl, hin, hown9⟩) rfl rfl hg hdg kk
theorem fg_2_1 (hx : p.tables.exec = Jvm.exec) (hb : c.code = cc) (hts : ∀ w ∈ ALLW, w.before args s = true) (hown : s.vm.findClass own = some m.cls) (hK : va_K D vwCl (tyL cy) s) (hP : SP D cy S H) (hk : Cond.fieldLink own index RX3 "size" "I" ∈ ALLW) {x : Int32} (hg : gI S a 2 1 = some x) (hdg : decode cc pc = .ok (.getfield index, 3)) (kk : W p l e R s m args below meth c H locs cells slots Q (F0 m (pc + 3) ls (.int x :: rest))) : W p l e R s m args below meth c H locs cells slots Q (F0 m pc ls (.ref a :: rest)) := by
  obtain ⟨fs, h1, h2⟩ := gI_spec hg
  exact r_gV hx hb hts iX3 hown hK hP rfl 1 (by decide) rfl (hts _ hk) h1 h2 hdg kk
theorem fp_2_1 (hx : p.tables.exec = Jvm.exec) (hb : c.code = cc) (hts : ∀ w ∈ ALLW, w.before args s = true) (hown : s.vm.findClass own = some m.cls) (hK : va_K D vwCl (tyL cy) s) (hP : SP D cy S H) (hD : ∀ a, S a ≠ none → A a) (hS : va_S A H0 H locs) (hk : Cond.fieldLink own index RX3 "size" "I" ∈ ALLW) {v : Int32} (hg : pI S a 2 1 v = some S1) (hdg : decode cc pc = .ok (.putfield index, 3)) (kk : ∀ (H1 : Heap) (locs1 : List Loc), H1.size = H.size → SP D cy S1 H1 → (∀ a, S1 a ≠ none → A a) → va_S A H0 H1 locs1 → W p l e R s m args below meth c H1 locs1 cells slots Q (F0 m (pc + 3) ls rest)) : W p l e R s m args below meth c H locs cells slots Q (F0 m pc ls (.int v :: .ref a :: rest)) := by
  exact r_pV hx hb hts iX3 tyX3 tyX3_ok nmX3 hown hK hP hD hS rfl 1 (by decide) rfl (hts _ hk) (Or.inl rfl) rfl rfl hg hdg kk
theorem fg_3_0 (hx : p.tables.exec = Jvm.exec) (hb : c.code = cc) (hts : ∀ w ∈ ALLW, w.before args s = true) (hown : s.vm.findClass own = some m.cls) (hK : va_K D vwCl (tyL cy) s) (hP : SP D cy S H) (hk : Cond.fieldLink own index RX4 "values" "[I" ∈ ALLW) {x : Nat} (hg : gR S a 3 0 = some x) (hdg : decode cc pc = .ok (.getfield index, 3)) (kk : W p l e R s m args below meth c H locs cells slots Q (F0 m (pc + 3) ls (.ref x :: rest))) : W p l e R s m args below meth c H locs cells slots Q (F0 m pc ls (.ref a :: rest)) := by
  obtain ⟨fs, h1, h2⟩ := gR_spec hg
  exact r_gV hx hb hts iX4 hown hK hP rfl 0 (by decide) rfl (hts _ hk) h1 h2 hdg kk
theorem fp_3_0 (hx : p.tables.exec = Jvm.exec) (hb : c.code = cc) (hts : ∀ w ∈ ALLW, w.before args s = true) (hown : s.vm.findClass own = some m.cls) (hK : va_K D vwCl (tyL cy) s) (hP : SP D cy S H) (hD : ∀ a, S a ≠ none → A a) (hS : va_S A H0 H locs) (hin : meth.name = "<init>") (hown9 : RX4 = own) (hk : Cond.fieldLink own index RX4 "values" "[I" ∈ ALLW) {v : Nat} (hg : pR S a 3 0 v = some S1) (hdg : decode cc pc = .ok (.putfield index, 3)) (kk : ∀ (H1 : Heap) (locs1 : List Loc), H1.size = H.size → SP D cy S1 H1 → (∀ a, S1 a ≠ none → A a) → va_S A H0 H1 locs1 → W p l e R s m args below meth c H1 locs1 cells slots Q (F0 m (pc + 3) ls rest)) : W p l e R s m args below meth c H locs cells slots Q (F0 m pc ls (.ref v :: .ref a :: rest)) := by
  exact r_pV hx hb hts iX4 tyX4 tyX4_ok nmX4 hown hK hP hD hS rfl 0 (by decide) rfl (hts _ hk) (Or.inr ⟨rfl, hin, hown9⟩) rfl rfl hg hdg kk
theorem fg_3_1 (hx : p.tables.exec = Jvm.exec) (hb : c.code = cc) (hts : ∀ w ∈ ALLW, w.before args s = true) (hown : s.vm.findClass own = some m.cls) (hK : va_K D vwCl (tyL cy) s) (hP : SP D cy S H) (hk : Cond.fieldLink own index RX4 "size" "I" ∈ ALLW) {x : Int32} (hg : gI S a 3 1 = some x) (hdg : decode cc pc = .ok (.getfield index, 3)) (kk : W p l e R s m args below meth c H locs cells slots Q (F0 m (pc + 3) ls (.int x :: rest))) : W p l e R s m args below meth c H locs cells slots Q (F0 m pc ls (.ref a :: rest)) := by
  obtain ⟨fs, h1, h2⟩ := gI_spec hg
  exact r_gV hx hb hts iX4 hown hK hP rfl 1 (by decide) rfl (hts _ hk) h1 h2 hdg kk
theorem fp_3_1 (hx : p.tables.exec = Jvm.exec) (hb : c.code = cc) (hts : ∀ w ∈ ALLW, w.before args s = true) (hown : s.vm.findClass own = some m.cls) (hK : va_K D vwCl (tyL cy) s) (hP : SP D cy S H) (hD : ∀ a, S a ≠ none → A a) (hS : va_S A H0 H locs) (hk : Cond.fieldLink own index RX4 "size" "I" ∈ ALLW) {v : Int32} (hg : pI S a 3 1 v = some S1) (hdg : decode cc pc = .ok (.putfield index, 3)) (kk : ∀ (H1 : Heap) (locs1 : List Loc), H1.size = H.size → SP D cy S1 H1 → (∀ a, S1 a ≠ none → A a) → va_S A H0 H1 locs1 → W p l e R s m args below meth c H1 locs1 cells slots Q (F0 m (pc + 3) ls rest)) : W p l e R s m args below meth c H locs cells slots Q (F0 m pc ls (.int v :: .ref a :: rest)) := by
  exact r_pV hx hb hts iX4 tyX4 tyX4_ok nmX4 hown hK hP hD hS rfl 1 (by decide) rfl (hts _ hk) (Or.inl rfl) rfl rfl hg hdg kk
theorem fg_4_0 (hx : p.tables.exec = Jvm.exec) (hb : c.code = cc) (hts : ∀ w ∈ ALLW, w.before args s = true) (hown : s.vm.findClass own = some m.cls) (hK : va_K D vwCl (tyL cy) s) (hP : SP D cy S H) (hk : Cond.fieldLink own index RX5 "signs" "[I" ∈ ALLW) {x : Nat} (hg : gR S a 4 0 = some x) (hdg : decode cc pc = .ok (.getfield index, 3)) (kk : W p l e R s m args below meth c H locs cells slots Q (F0 m (pc + 3) ls (.ref x :: rest))) : W p l e R s m args below meth c H locs cells slots Q (F0 m pc ls (.ref a :: rest)) := by
  obtain ⟨fs, h1, h2⟩ := gR_spec hg
  exact r_gV hx hb hts iX5 hown hK hP rfl 0 (by decide) rfl (hts _ hk) h1 h2 hdg kk
theorem fp_4_0 (hx : p.tables.exec = Jvm.exec) (hb : c.code = cc) (hts : ∀ w ∈ ALLW, w.before args s = true) (hown : s.vm.findClass own = some m.cls) (hK : va_K D vwCl (tyL cy) s) (hP : SP D cy S H) (hD : ∀ a, S a ≠ none → A a) (hS : va_S A H0 H locs) (hin : meth.name = "<init>") (hown9 : RX5 = own) (hk : Cond.fieldLink own index RX5 "signs" "[I" ∈ ALLW) {v : Nat} (hg : pR S a 4 0 v = some S1) (hdg : decode cc pc = .ok (.putfield index, 3)) (kk : ∀ (H1 : Heap) (locs1 : List Loc), H1.size = H.size → SP D cy S1 H1 → (∀ a, S1 a ≠ none → A a) → va_S A H0 H1 locs1 → W p l e R s m args below meth c H1 locs1 cells slots Q (F0 m (pc + 3) ls rest)) : W p l e R s m args below meth c H locs cells slots Q (F0 m pc ls (.ref v :: .ref a :: rest)) := by
  exact r_pV hx hb hts iX5 tyX5 tyX5_ok nmX5 hown hK hP hD hS rfl 0 (by decide) rfl (hts _ hk) (Or.inr ⟨rfl, hin, hown9⟩) rfl rfl hg hdg kk
theorem fg_4_1 (hx : p.tables.exec = Jvm.exec) (hb : c.code = cc) (hts : ∀ w ∈ ALLW, w.before args s = true) (hown : s.vm.findClass own = some m.cls) (hK : va_K D vwCl (tyL cy) s) (hP : SP D cy S H) (hk : Cond.fieldLink own index RX5 "length" "I" ∈ ALLW) {x : Int32} (hg : gI S a 4 1 = some x) (hdg : decode cc pc = .ok (.getfield index, 3)) (kk : W p l e R s m args below meth c H locs cells slots Q (F0 m (pc + 3) ls (.int x :: rest))) : W p l e R s m args below meth c H locs cells slots Q (F0 m pc ls (.ref a :: rest)) := by
  obtain ⟨fs, h1, h2⟩ := gI_spec hg
  exact r_gV hx hb hts iX5 hown hK hP rfl 1 (by decide) rfl (hts _ hk) h1 h2 hdg kk
theorem fp_4_1 (hx : p.tables.exec = Jvm.exec) (hb : c.code = cc) (hts : ∀ w ∈ ALLW, w.before args s = true) (hown : s.vm.findClass own = some m.cls) (hK : va_K D vwCl (tyL cy) s) (hP : SP D cy S H) (hD : ∀ a, S a ≠ none → A a) (hS : va_S A H0 H locs) (hk : Cond.fieldLink own index RX5 "length" "I" ∈ ALLW) {v : Int32} (hg : pI S a 4 1 v = some S1) (hdg : decode cc pc = .ok (.putfield index, 3)) (kk : ∀ (H1 : Heap) (locs1 : List Loc), H1.size = H.size → SP D cy S1 H1 → (∀ a, S1 a ≠ none → A a) → va_S A H0 H1 locs1 → W p l e R s m args below meth c H1 locs1 cells slots Q (F0 m (pc + 3) ls rest)) : W p l e R s m args below meth c H locs cells slots Q (F0 m pc ls (.int v :: .ref a :: rest)) := by
  exact r_pV hx hb hts iX5 tyX5 tyX5_ok nmX5 hown hK hP hD hS rfl 1 (by decide) rfl (hts _ hk) (Or.inl rfl) rfl rfl hg hdg kk
theorem fg_4_2 (hx : p.tables.exec = Jvm.exec) (hb : c.code = cc) (hts : ∀ w ∈ ALLW, w.before args s = true) (hown : s.vm.findClass own = some m.cls) (hK : va_K D vwCl (tyL cy) s) (hP : SP D cy S H) (hk : Cond.fieldLink own index RX5 "mode" "I" ∈ ALLW) {x : Int32} (hg : gI S a 4 2 = some x) (hdg : decode cc pc = .ok (.getfield index, 3)) (kk : W p l e R s m args below meth c H locs cells slots Q (F0 m (pc + 3) ls (.int x :: rest))) : W p l e R s m args below meth c H locs cells slots Q (F0 m pc ls (.ref a :: rest)) := by
  obtain ⟨fs, h1, h2⟩ := gI_spec hg
  exact r_gV hx hb hts iX5 hown hK hP rfl 2 (by decide) rfl (hts _ hk) h1 h2 hdg kk
theorem fp_4_2 (hx : p.tables.exec = Jvm.exec) (hb : c.code = cc) (hts : ∀ w ∈ ALLW, w.before args s = true) (hown : s.vm.findClass own = some m.cls) (hK : va_K D vwCl (tyL cy) s) (hP : SP D cy S H) (hD : ∀ a, S a ≠ none → A a) (hS : va_S A H0 H locs) (hk : Cond.fieldLink own index RX5 "mode" "I" ∈ ALLW) {v : Int32} (hg : pI S a 4 2 v = some S1) (hdg : decode cc pc = .ok (.putfield index, 3)) (kk : ∀ (H1 : Heap) (locs1 : List Loc), H1.size = H.size → SP D cy S1 H1 → (∀ a, S1 a ≠ none → A a) → va_S A H0 H1 locs1 → W p l e R s m args below meth c H1 locs1 cells slots Q (F0 m (pc + 3) ls rest)) : W p l e R s m args below meth c H locs cells slots Q (F0 m pc ls (.int v :: .ref a :: rest)) := by
  exact r_pV hx hb hts iX5 tyX5 tyX5_ok nmX5 hown hK hP hD hS rfl 2 (by decide) rfl (hts _ hk) (Or.inl rfl) rfl rfl hg hdg kk
theorem fg_4_3 (hx : p.tables.exec = Jvm.exec) (hb : c.code = cc) (hts : ∀ w ∈ ALLW, w.before args s = true) (hown : s.vm.findClass own = some m.cls) (hK : va_K D vwCl (tyL cy) s) (hP : SP D cy S H) (hk : Cond.fieldLink own index RX5 "value" "I" ∈ ALLW) {x : Int32} (hg : gI S a 4 3 = some x) (hdg : decode cc pc = .ok (.getfield index, 3)) (kk : W p l e R s m args below meth c H locs cells slots Q (F0 m (pc + 3) ls (.int x :: rest))) : W p l e R s m args below meth c H locs cells slots Q (F0 m pc ls (.ref a :: rest)) := by
  obtain ⟨fs, h1, h2⟩ := gI_spec hg
  exact r_gV hx hb hts iX5 hown hK hP rfl 3 (by decide) rfl (hts _ hk) h1 h2 hdg kk
theorem fp_4_3 (hx : p.tables.exec = Jvm.exec) (hb : c.code = cc) (hts : ∀ w ∈ ALLW, w.before args s = true) (hown : s.vm.findClass own = some m.cls) (hK : va_K D vwCl (tyL cy) s) (hP : SP D cy S H) (hD : ∀ a, S a ≠ none → A a) (hS : va_S A H0 H locs) (hk : Cond.fieldLink own index RX5 "value" "I" ∈ ALLW) {v : Int32} (hg : pI S a 4 3 v = some S1) (hdg : decode cc pc = .ok (.putfield index, 3)) (kk : ∀ (H1 : Heap) (locs1 : List Loc), H1.size = H.size → SP D cy S1 H1 → (∀ a, S1 a ≠ none → A a) → va_S A H0 H1 locs1 → W p l e R s m args below meth c H1 locs1 cells slots Q (F0 m (pc + 3) ls rest)) : W p l e R s m args below meth c H locs cells slots Q (F0 m pc ls (.int v :: .ref a :: rest)) := by
  exact r_pV hx hb hts iX5 tyX5 tyX5_ok nmX5 hown hK hP hD hS rfl 3 (by decide) rfl (hts _ hk) (Or.inl rfl) rfl rfl hg hdg kk
theorem fg_4_4 (hx : p.tables.exec = Jvm.exec) (hb : c.code = cc) (hts : ∀ w ∈ ALLW, w.before args s = true) (hown : s.vm.findClass own = some m.cls) (hK : va_K D vwCl (tyL cy) s) (hP : SP D cy S H) (hk : Cond.fieldLink own index RX5 "times" "I" ∈ ALLW) {x : Int32} (hg : gI S a 4 4 = some x) (hdg : decode cc pc = .ok (.getfield index, 3)) (kk : W p l e R s m args below meth c H locs cells slots Q (F0 m (pc + 3) ls (.int x :: rest))) : W p l e R s m args below meth c H locs cells slots Q (F0 m pc ls (.ref a :: rest)) := by
  obtain ⟨fs, h1, h2⟩ := gI_spec hg
  exact r_gV hx hb hts iX5 hown hK hP rfl 4 (by decide) rfl (hts _ hk) h1 h2 hdg kk
theorem fp_4_4 (hx : p.tables.exec = Jvm.exec) (hb : c.code = cc) (hts : ∀ w ∈ ALLW, w.before args s = true) (hown : s.vm.findClass own = some m.cls) (hK : va_K D vwCl (tyL cy) s) (hP : SP D cy S H) (hD : ∀ a, S a ≠ none → A a) (hS : va_S A H0 H locs) (hk : Cond.fieldLink own index RX5 "times" "I" ∈ ALLW) {v : Int32} (hg : pI S a 4 4 v = some S1) (hdg : decode cc pc = .ok (.putfield index, 3)) (kk : ∀ (H1 : Heap) (locs1 : List Loc), H1.size = H.size → SP D cy S1 H1 → (∀ a, S1 a ≠ none → A a) → va_S A H0 H1 locs1 → W p l e R s m args below meth c H1 locs1 cells slots Q (F0 m (pc + 3) ls rest)) : W p l e R s m args below meth c H locs cells slots Q (F0 m pc ls (.int v :: .ref a :: rest)) := by
  exact r_pV hx hb hts iX5 tyX5 tyX5_ok nmX5 hown hK hP hD hS rfl 4 (by decide) rfl (hts _ hk) (Or.inl rfl) rfl rfl hg hdg kk
theorem fg_6_0 (hx : p.tables.exec = Jvm.exec) (hb : c.code = cc) (hts : ∀ w ∈ ALLW, w.before args s = true) (hown : s.vm.findClass own = some m.cls) (hK : va_K D vwCl (tyL cy) s) (hP : SP D cy S H) (hk : Cond.fieldLink own index RX7 "z" "[I" ∈ ALLW) {x : Nat} (hg : gR S a 6 0 = some x) (hdg : decode cc pc = .ok (.getfield index, 3)) (kk : W p l e R s m args below meth c H locs cells slots Q (F0 m (pc + 3) ls (.ref x :: rest))) : W p l e R s m args below meth c H locs cells slots Q (F0 m pc ls (.ref a :: rest)) := by
  obtain ⟨fs, h1, h2⟩ := gR_spec hg
  exact r_gV hx hb hts iX7 hown hK hP rfl 0 (by decide) rfl (hts _ hk) h1 h2 hdg kk
theorem fp_6_0 (hx : p.tables.exec = Jvm.exec) (hb : c.code = cc) (hts : ∀ w ∈ ALLW, w.before args s = true) (hown : s.vm.findClass own = some m.cls) (hK : va_K D vwCl (tyL cy) s) (hP : SP D cy S H) (hD : ∀ a, S a ≠ none → A a) (hS : va_S A H0 H locs) (hin : meth.name = "<init>") (hown9 : RX7 = own) (hk : Cond.fieldLink own index RX7 "z" "[I" ∈ ALLW) {v : Nat} (hg : pR S a 6 0 v = some S1) (hdg : decode cc pc = .ok (.putfield index, 3)) (kk : ∀ (H1 : Heap) (locs1 : List Loc), H1.size = H.size → SP D cy S1 H1 → (∀ a, S1 a ≠ none → A a) → va_S A H0 H1 locs1 → W p l e R s m args below meth c H1 locs1 cells slots Q (F0 m (pc + 3) ls rest)) : W p l e R s m args below meth c H locs cells slots Q (F0 m pc ls (.ref v :: .ref a :: rest)) := by
  exact r_pV hx hb hts iX7 tyX7 tyX7_ok nmX7 hown hK hP hD hS rfl 0 (by decide) rfl (hts _ hk) (Or.inr ⟨rfl, hin, hown9⟩) rfl rfl hg hdg kk
theorem fg_6_1 (hx : p.tables.exec = Jvm.exec) (hb : c.code = cc) (hts : ∀ w ∈ ALLW, w.before args s = true) (hown : s.vm.findClass own = some m.cls) (hK : va_K D vwCl (tyL cy) s) (hP : SP D cy S H) (hk : Cond.fieldLink own index RX7 "states" "I" ∈ ALLW) {x : Int32} (hg : gI S a 6 1 = some x) (hdg : decode cc pc = .ok (.getfield index, 3)) (kk : W p l e R s m args below meth c H locs cells slots Q (F0 m (pc + 3) ls (.int x :: rest))) : W p l e R s m args below meth c H locs cells slots Q (F0 m pc ls (.ref a :: rest)) := by
  obtain ⟨fs, h1, h2⟩ := gI_spec hg
  exact r_gV hx hb hts iX7 hown hK hP rfl 1 (by decide) rfl (hts _ hk) h1 h2 hdg kk
theorem fp_6_1 (hx : p.tables.exec = Jvm.exec) (hb : c.code = cc) (hts : ∀ w ∈ ALLW, w.before args s = true) (hown : s.vm.findClass own = some m.cls) (hK : va_K D vwCl (tyL cy) s) (hP : SP D cy S H) (hD : ∀ a, S a ≠ none → A a) (hS : va_S A H0 H locs) (hk : Cond.fieldLink own index RX7 "states" "I" ∈ ALLW) {v : Int32} (hg : pI S a 6 1 v = some S1) (hdg : decode cc pc = .ok (.putfield index, 3)) (kk : ∀ (H1 : Heap) (locs1 : List Loc), H1.size = H.size → SP D cy S1 H1 → (∀ a, S1 a ≠ none → A a) → va_S A H0 H1 locs1 → W p l e R s m args below meth c H1 locs1 cells slots Q (F0 m (pc + 3) ls rest)) : W p l e R s m args below meth c H locs cells slots Q (F0 m pc ls (.int v :: .ref a :: rest)) := by
  exact r_pV hx hb hts iX7 tyX7 tyX7_ok nmX7 hown hK hP hD hS rfl 1 (by decide) rfl (hts _ hk) (Or.inl rfl) rfl rfl hg hdg kk
theorem fg_6_2 (hx : p.tables.exec = Jvm.exec) (hb : c.code = cc) (hts : ∀ w ∈ ALLW, w.before args s = true) (hown : s.vm.findClass own = some m.cls) (hK : va_K D vwCl (tyL cy) s) (hP : SP D cy S H) (hk : Cond.fieldLink own index RX7 "history" "[I" ∈ ALLW) {x : Nat} (hg : gR S a 6 2 = some x) (hdg : decode cc pc = .ok (.getfield index, 3)) (kk : W p l e R s m args below meth c H locs cells slots Q (F0 m (pc + 3) ls (.ref x :: rest))) : W p l e R s m args below meth c H locs cells slots Q (F0 m pc ls (.ref a :: rest)) := by
  obtain ⟨fs, h1, h2⟩ := gR_spec hg
  exact r_gV hx hb hts iX7 hown hK hP rfl 2 (by decide) rfl (hts _ hk) h1 h2 hdg kk
theorem fp_6_2 (hx : p.tables.exec = Jvm.exec) (hb : c.code = cc) (hts : ∀ w ∈ ALLW, w.before args s = true) (hown : s.vm.findClass own = some m.cls) (hK : va_K D vwCl (tyL cy) s) (hP : SP D cy S H) (hD : ∀ a, S a ≠ none → A a) (hS : va_S A H0 H locs) (hin : meth.name = "<init>") (hown9 : RX7 = own) (hk : Cond.fieldLink own index RX7 "history" "[I" ∈ ALLW) {v : Nat} (hg : pR S a 6 2 v = some S1) (hdg : decode cc pc = .ok (.putfield index, 3)) (kk : ∀ (H1 : Heap) (locs1 : List Loc), H1.size = H.size → SP D cy S1 H1 → (∀ a, S1 a ≠ none → A a) → va_S A H0 H1 locs1 → W p l e R s m args below meth c H1 locs1 cells slots Q (F0 m (pc + 3) ls rest)) : W p l e R s m args below meth c H locs cells slots Q (F0 m pc ls (.ref v :: .ref a :: rest)) := by
  exact r_pV hx hb hts iX7 tyX7 tyX7_ok nmX7 hown hK hP hD hS rfl 2 (by decide) rfl (hts _ hk) (Or.inr ⟨rfl, hin, hown9⟩) rfl rfl hg hdg kk
theorem fg_6_3 (hx : p.tables.exec = Jvm.exec) (hb : c.code = cc) (hts : ∀ w ∈ ALLW, w.before args s = true) (hown : s.vm.findClass own = some m.cls) (hK : va_K D vwCl (tyL cy) s) (hP : SP D cy S H) (hk : Cond.fieldLink own index RX7 "length" "I" ∈ ALLW) {x : Int32} (hg : gI S a 6 3 = some x) (hdg : decode cc pc = .ok (.getfield index, 3)) (kk : W p l e R s m args below meth c H locs cells slots Q (F0 m (pc + 3) ls (.int x :: rest))) : W p l e R s m args below meth c H locs cells slots Q (F0 m pc ls (.ref a :: rest)) := by
  obtain ⟨fs, h1, h2⟩ := gI_spec hg
  exact r_gV hx hb hts iX7 hown hK hP rfl 3 (by decide) rfl (hts _ hk) h1 h2 hdg kk
theorem fp_6_3 (hx : p.tables.exec = Jvm.exec) (hb : c.code = cc) (hts : ∀ w ∈ ALLW, w.before args s = true) (hown : s.vm.findClass own = some m.cls) (hK : va_K D vwCl (tyL cy) s) (hP : SP D cy S H) (hD : ∀ a, S a ≠ none → A a) (hS : va_S A H0 H locs) (hk : Cond.fieldLink own index RX7 "length" "I" ∈ ALLW) {v : Int32} (hg : pI S a 6 3 v = some S1) (hdg : decode cc pc = .ok (.putfield index, 3)) (kk : ∀ (H1 : Heap) (locs1 : List Loc), H1.size = H.size → SP D cy S1 H1 → (∀ a, S1 a ≠ none → A a) → va_S A H0 H1 locs1 → W p l e R s m args below meth c H1 locs1 cells slots Q (F0 m (pc + 3) ls rest)) : W p l e R s m args below meth c H locs cells slots Q (F0 m pc ls (.int v :: .ref a :: rest)) := by
  exact r_pV hx hb hts iX7 tyX7 tyX7_ok nmX7 hown hK hP hD hS rfl 3 (by decide) rfl (hts _ hk) (Or.inl rfl) rfl rfl hg hdg kk
theorem fg_6_4 (hx : p.tables.exec = Jvm.exec) (hb : c.code = cc) (hts : ∀ w ∈ ALLW, w.before args s = true) (hown : s.vm.findClass own = some m.cls) (hK : va_K D vwCl (tyL cy) s) (hP : SP D cy S H) (hk : Cond.fieldLink own index RX7 "text" "[I" ∈ ALLW) {x : Nat} (hg : gR S a 6 4 = some x) (hdg : decode cc pc = .ok (.getfield index, 3)) (kk : W p l e R s m args below meth c H locs cells slots Q (F0 m (pc + 3) ls (.ref x :: rest))) : W p l e R s m args below meth c H locs cells slots Q (F0 m pc ls (.ref a :: rest)) := by
  obtain ⟨fs, h1, h2⟩ := gR_spec hg
  exact r_gV hx hb hts iX7 hown hK hP rfl 4 (by decide) rfl (hts _ hk) h1 h2 hdg kk
theorem fp_6_4 (hx : p.tables.exec = Jvm.exec) (hb : c.code = cc) (hts : ∀ w ∈ ALLW, w.before args s = true) (hown : s.vm.findClass own = some m.cls) (hK : va_K D vwCl (tyL cy) s) (hP : SP D cy S H) (hD : ∀ a, S a ≠ none → A a) (hS : va_S A H0 H locs) (hin : meth.name = "<init>") (hown9 : RX7 = own) (hk : Cond.fieldLink own index RX7 "text" "[I" ∈ ALLW) {v : Nat} (hg : pR S a 6 4 v = some S1) (hdg : decode cc pc = .ok (.putfield index, 3)) (kk : ∀ (H1 : Heap) (locs1 : List Loc), H1.size = H.size → SP D cy S1 H1 → (∀ a, S1 a ≠ none → A a) → va_S A H0 H1 locs1 → W p l e R s m args below meth c H1 locs1 cells slots Q (F0 m (pc + 3) ls rest)) : W p l e R s m args below meth c H locs cells slots Q (F0 m pc ls (.ref v :: .ref a :: rest)) := by
  exact r_pV hx hb hts iX7 tyX7 tyX7_ok nmX7 hown hK hP hD hS rfl 4 (by decide) rfl (hts _ hk) (Or.inr ⟨rfl, hin, hown9⟩) rfl rfl hg hdg kk
theorem fg_6_5 (hx : p.tables.exec = Jvm.exec) (hb : c.code = cc) (hts : ∀ w ∈ ALLW, w.before args s = true) (hown : s.vm.findClass own = some m.cls) (hK : va_K D vwCl (tyL cy) s) (hP : SP D cy S H) (hk : Cond.fieldLink own index RX7 "thrown" "I" ∈ ALLW) {x : Int32} (hg : gI S a 6 5 = some x) (hdg : decode cc pc = .ok (.getfield index, 3)) (kk : W p l e R s m args below meth c H locs cells slots Q (F0 m (pc + 3) ls (.int x :: rest))) : W p l e R s m args below meth c H locs cells slots Q (F0 m pc ls (.ref a :: rest)) := by
  obtain ⟨fs, h1, h2⟩ := gI_spec hg
  exact r_gV hx hb hts iX7 hown hK hP rfl 5 (by decide) rfl (hts _ hk) h1 h2 hdg kk
theorem fp_6_5 (hx : p.tables.exec = Jvm.exec) (hb : c.code = cc) (hts : ∀ w ∈ ALLW, w.before args s = true) (hown : s.vm.findClass own = some m.cls) (hK : va_K D vwCl (tyL cy) s) (hP : SP D cy S H) (hD : ∀ a, S a ≠ none → A a) (hS : va_S A H0 H locs) (hk : Cond.fieldLink own index RX7 "thrown" "I" ∈ ALLW) {v : Int32} (hg : pI S a 6 5 v = some S1) (hdg : decode cc pc = .ok (.putfield index, 3)) (kk : ∀ (H1 : Heap) (locs1 : List Loc), H1.size = H.size → SP D cy S1 H1 → (∀ a, S1 a ≠ none → A a) → va_S A H0 H1 locs1 → W p l e R s m args below meth c H1 locs1 cells slots Q (F0 m (pc + 3) ls rest)) : W p l e R s m args below meth c H locs cells slots Q (F0 m pc ls (.int v :: .ref a :: rest)) := by
  exact r_pV hx hb hts iX7 tyX7 tyX7_ok nmX7 hown hK hP hD hS rfl 5 (by decide) rfl (hts _ hk) (Or.inl rfl) rfl rfl hg hdg kk
theorem fg_6_6 (hx : p.tables.exec = Jvm.exec) (hb : c.code = cc) (hts : ∀ w ∈ ALLW, w.before args s = true) (hown : s.vm.findClass own = some m.cls) (hK : va_K D vwCl (tyL cy) s) (hP : SP D cy S H) (hk : Cond.fieldLink own index RX7 "row" "[I" ∈ ALLW) {x : Nat} (hg : gR S a 6 6 = some x) (hdg : decode cc pc = .ok (.getfield index, 3)) (kk : W p l e R s m args below meth c H locs cells slots Q (F0 m (pc + 3) ls (.ref x :: rest))) : W p l e R s m args below meth c H locs cells slots Q (F0 m pc ls (.ref a :: rest)) := by
  obtain ⟨fs, h1, h2⟩ := gR_spec hg
  exact r_gV hx hb hts iX7 hown hK hP rfl 6 (by decide) rfl (hts _ hk) h1 h2 hdg kk
theorem fp_6_6 (hx : p.tables.exec = Jvm.exec) (hb : c.code = cc) (hts : ∀ w ∈ ALLW, w.before args s = true) (hown : s.vm.findClass own = some m.cls) (hK : va_K D vwCl (tyL cy) s) (hP : SP D cy S H) (hD : ∀ a, S a ≠ none → A a) (hS : va_S A H0 H locs) (hin : meth.name = "<init>") (hown9 : RX7 = own) (hk : Cond.fieldLink own index RX7 "row" "[I" ∈ ALLW) {v : Nat} (hg : pR S a 6 6 v = some S1) (hdg : decode cc pc = .ok (.putfield index, 3)) (kk : ∀ (H1 : Heap) (locs1 : List Loc), H1.size = H.size → SP D cy S1 H1 → (∀ a, S1 a ≠ none → A a) → va_S A H0 H1 locs1 → W p l e R s m args below meth c H1 locs1 cells slots Q (F0 m (pc + 3) ls rest)) : W p l e R s m args below meth c H locs cells slots Q (F0 m pc ls (.ref v :: .ref a :: rest)) := by
  exact r_pV hx hb hts iX7 tyX7 tyX7_ok nmX7 hown hK hP hD hS rfl 6 (by decide) rfl (hts _ hk) (Or.inr ⟨rfl, hin, hown9⟩) rfl rfl hg hdg kk
theorem fg_6_7 (hx : p.tables.exec = Jvm.exec) (hb : c.code = cc) (hts : ∀ w ∈ ALLW, w.before args s = true) (hown : s.vm.findClass own = some m.cls) (hK : va_K D vwCl (tyL cy) s) (hP : SP D cy S H) (hk : Cond.fieldLink own index RX7 "n" "I" ∈ ALLW) {x : Int32} (hg : gI S a 6 7 = some x) (hdg : decode cc pc = .ok (.getfield index, 3)) (kk : W p l e R s m args below meth c H locs cells slots Q (F0 m (pc + 3) ls (.int x :: rest))) : W p l e R s m args below meth c H locs cells slots Q (F0 m pc ls (.ref a :: rest)) := by
  obtain ⟨fs, h1, h2⟩ := gI_spec hg
  exact r_gV hx hb hts iX7 hown hK hP rfl 7 (by decide) rfl (hts _ hk) h1 h2 hdg kk
theorem fp_6_7 (hx : p.tables.exec = Jvm.exec) (hb : c.code = cc) (hts : ∀ w ∈ ALLW, w.before args s = true) (hown : s.vm.findClass own = some m.cls) (hK : va_K D vwCl (tyL cy) s) (hP : SP D cy S H) (hD : ∀ a, S a ≠ none → A a) (hS : va_S A H0 H locs) (hk : Cond.fieldLink own index RX7 "n" "I" ∈ ALLW) {v : Int32} (hg : pI S a 6 7 v = some S1) (hdg : decode cc pc = .ok (.putfield index, 3)) (kk : ∀ (H1 : Heap) (locs1 : List Loc), H1.size = H.size → SP D cy S1 H1 → (∀ a, S1 a ≠ none → A a) → va_S A H0 H1 locs1 → W p l e R s m args below meth c H1 locs1 cells slots Q (F0 m (pc + 3) ls rest)) : W p l e R s m args below meth c H locs cells slots Q (F0 m pc ls (.int v :: .ref a :: rest)) := by
  exact r_pV hx hb hts iX7 tyX7 tyX7_ok nmX7 hown hK hP hD hS rfl 7 (by decide) rfl (hts _ hk) (Or.inl rfl) rfl rfl hg hdg kk
theorem fg_6_8 (hx : p.tables.exec = Jvm.exec) (hb : c.code = cc) (hts : ∀ w ∈ ALLW, w.before args s = true) (hown : s.vm.findClass own = some m.cls) (hK : va_K D vwCl (tyL cy) s) (hP : SP D cy S H) (hk : Cond.fieldLink own index RX7 "parts" "[I" ∈ ALLW) {x : Nat} (hg : gR S a 6 8 = some x) (hdg : decode cc pc = .ok (.getfield index, 3)) (kk : W p l e R s m args below meth c H locs cells slots Q (F0 m (pc + 3) ls (.ref x :: rest))) : W p l e R s m args below meth c H locs cells slots Q (F0 m pc ls (.ref a :: rest)) := by
  obtain ⟨fs, h1, h2⟩ := gR_spec hg
  exact r_gV hx hb hts iX7 hown hK hP rfl 8 (by decide) rfl (hts _ hk) h1 h2 hdg kk
theorem fp_6_8 (hx : p.tables.exec = Jvm.exec) (hb : c.code = cc) (hts : ∀ w ∈ ALLW, w.before args s = true) (hown : s.vm.findClass own = some m.cls) (hK : va_K D vwCl (tyL cy) s) (hP : SP D cy S H) (hD : ∀ a, S a ≠ none → A a) (hS : va_S A H0 H locs) (hin : meth.name = "<init>") (hown9 : RX7 = own) (hk : Cond.fieldLink own index RX7 "parts" "[I" ∈ ALLW) {v : Nat} (hg : pR S a 6 8 v = some S1) (hdg : decode cc pc = .ok (.putfield index, 3)) (kk : ∀ (H1 : Heap) (locs1 : List Loc), H1.size = H.size → SP D cy S1 H1 → (∀ a, S1 a ≠ none → A a) → va_S A H0 H1 locs1 → W p l e R s m args below meth c H1 locs1 cells slots Q (F0 m (pc + 3) ls rest)) : W p l e R s m args below meth c H locs cells slots Q (F0 m pc ls (.ref v :: .ref a :: rest)) := by
  exact r_pV hx hb hts iX7 tyX7 tyX7_ok nmX7 hown hK hP hD hS rfl 8 (by decide) rfl (hts _ hk) (Or.inr ⟨rfl, hin, hown9⟩) rfl rfl hg hdg kk
theorem fg_6_9 (hx : p.tables.exec = Jvm.exec) (hb : c.code = cc) (hts : ∀ w ∈ ALLW, w.before args s = true) (hown : s.vm.findClass own = some m.cls) (hK : va_K D vwCl (tyL cy) s) (hP : SP D cy S H) (hk : Cond.fieldLink own index RX7 "read" "I" ∈ ALLW) {x : Int32} (hg : gI S a 6 9 = some x) (hdg : decode cc pc = .ok (.getfield index, 3)) (kk : W p l e R s m args below meth c H locs cells slots Q (F0 m (pc + 3) ls (.int x :: rest))) : W p l e R s m args below meth c H locs cells slots Q (F0 m pc ls (.ref a :: rest)) := by
  obtain ⟨fs, h1, h2⟩ := gI_spec hg
  exact r_gV hx hb hts iX7 hown hK hP rfl 9 (by decide) rfl (hts _ hk) h1 h2 hdg kk
theorem fp_6_9 (hx : p.tables.exec = Jvm.exec) (hb : c.code = cc) (hts : ∀ w ∈ ALLW, w.before args s = true) (hown : s.vm.findClass own = some m.cls) (hK : va_K D vwCl (tyL cy) s) (hP : SP D cy S H) (hD : ∀ a, S a ≠ none → A a) (hS : va_S A H0 H locs) (hk : Cond.fieldLink own index RX7 "read" "I" ∈ ALLW) {v : Int32} (hg : pI S a 6 9 v = some S1) (hdg : decode cc pc = .ok (.putfield index, 3)) (kk : ∀ (H1 : Heap) (locs1 : List Loc), H1.size = H.size → SP D cy S1 H1 → (∀ a, S1 a ≠ none → A a) → va_S A H0 H1 locs1 → W p l e R s m args below meth c H1 locs1 cells slots Q (F0 m (pc + 3) ls rest)) : W p l e R s m args below meth c H locs cells slots Q (F0 m pc ls (.int v :: .ref a :: rest)) := by
  exact r_pV hx hb hts iX7 tyX7 tyX7_ok nmX7 hown hK hP hD hS rfl 9 (by decide) rfl (hts _ hk) (Or.inl rfl) rfl rfl hg hdg kk
theorem fg_6_10 (hx : p.tables.exec = Jvm.exec) (hb : c.code = cc) (hts : ∀ w ∈ ALLW, w.before args s = true) (hown : s.vm.findClass own = some m.cls) (hK : va_K D vwCl (tyL cy) s) (hP : SP D cy S H) (hk : Cond.fieldLink own index RX7 "isTimes" "Z" ∈ ALLW) {x : Int32} (hg : gI S a 6 10 = some x) (hdg : decode cc pc = .ok (.getfield index, 3)) (kk : W p l e R s m args below meth c H locs cells slots Q (F0 m (pc + 3) ls (.int x :: rest))) : W p l e R s m args below meth c H locs cells slots Q (F0 m pc ls (.ref a :: rest)) := by
  obtain ⟨fs, h1, h2⟩ := gI_spec hg
  exact r_gV hx hb hts iX7 hown hK hP rfl 10 (by decide) rfl (hts _ hk) h1 h2 hdg kk
theorem fp_6_10 (hx : p.tables.exec = Jvm.exec) (hb : c.code = cc) (hts : ∀ w ∈ ALLW, w.before args s = true) (hown : s.vm.findClass own = some m.cls) (hK : va_K D vwCl (tyL cy) s) (hP : SP D cy S H) (hD : ∀ a, S a ≠ none → A a) (hS : va_S A H0 H locs) (hk : Cond.fieldLink own index RX7 "isTimes" "Z" ∈ ALLW) {v : Int32} (hg : pZ S a 6 10 v = some S1) (hdg : decode cc pc = .ok (.putfield index, 3)) (kk : ∀ (H1 : Heap) (locs1 : List Loc), H1.size = H.size → SP D cy S1 H1 → (∀ a, S1 a ≠ none → A a) → va_S A H0 H1 locs1 → W p l e R s m args below meth c H1 locs1 cells slots Q (F0 m (pc + 3) ls rest)) : W p l e R s m args below meth c H locs cells slots Q (F0 m pc ls (.int v :: .ref a :: rest)) := by
  obtain ⟨hg, hv⟩ := pZ_spec hg
  have hn : narrow (tyX7 10) (.int v) = .int v := by rcases hv with h | h <;> rw [h] <;> rfl
  have hfit : fits (tyX7 10) (.int v) = true := by rcases hv with h | h <;> rw [h] <;> rfl
  exact r_pV hx hb hts iX7 tyX7 tyX7_ok nmX7 hown hK hP hD hS rfl 10 (by decide) rfl (hts _ hk) (Or.inl rfl) hn hfit hg hdg kk
theorem fg_6_11 (hx : p.tables.exec = Jvm.exec) (hb : c.code = cc) (hts : ∀ w ∈ ALLW, w.before args s = true) (hown : s.vm.findClass own = some m.cls) (hK : va_K D vwCl (tyL cy) s) (hP : SP D cy S H) (hk : Cond.fieldLink own index RX7 "number" "I" ∈ ALLW) {x : Int32} (hg : gI S a 6 11 = some x) (hdg : decode cc pc = .ok (.getfield index, 3)) (kk : W p l e R s m args below meth c H locs cells slots Q (F0 m (pc + 3) ls (.int x :: rest))) : W p l e R s m args below meth c H locs cells slots Q (F0 m pc ls (.ref a :: rest)) := by
  obtain ⟨fs, h1, h2⟩ := gI_spec hg
  exact r_gV hx hb hts iX7 hown hK hP rfl 11 (by decide) rfl (hts _ hk) h1 h2 hdg kk
theorem fp_6_11 (hx : p.tables.exec = Jvm.exec) (hb : c.code = cc) (hts : ∀ w ∈ ALLW, w.before args s = true) (hown : s.vm.findClass own = some m.cls) (hK : va_K D vwCl (tyL cy) s) (hP : SP D cy S H) (hD : ∀ a, S a ≠ none → A a) (hS : va_S A H0 H locs) (hk : Cond.fieldLink own index RX7 "number" "I" ∈ ALLW) {v : Int32} (hg : pI S a 6 11 v = some S1) (hdg : decode cc pc = .ok (.putfield index, 3)) (kk : ∀ (H1 : Heap) (locs1 : List Loc), H1.size = H.size → SP D cy S1 H1 → (∀ a, S1 a ≠ none → A a) → va_S A H0 H1 locs1 → W p l e R s m args below meth c H1 locs1 cells slots Q (F0 m (pc + 3) ls rest)) : W p l e R s m args below meth c H locs cells slots Q (F0 m pc ls (.int v :: .ref a :: rest)) := by
  exact r_pV hx hb hts iX7 tyX7 tyX7_ok nmX7 hown hK hP hD hS rfl 11 (by decide) rfl (hts _ hk) (Or.inl rfl) rfl rfl hg hdg kk
theorem fg_6_12 (hx : p.tables.exec = Jvm.exec) (hb : c.code = cc) (hts : ∀ w ∈ ALLW, w.before args s = true) (hown : s.vm.findClass own = some m.cls) (hK : va_K D vwCl (tyL cy) s) (hP : SP D cy S H) (hk : Cond.fieldLink own index RX7 "hash" "J" ∈ ALLW) {x : Int64} (hg : gL S a 6 12 = some x) (hdg : decode cc pc = .ok (.getfield index, 3)) (kk : W p l e R s m args below meth c H locs cells slots Q (F0 m (pc + 3) ls (.long x :: rest))) : W p l e R s m args below meth c H locs cells slots Q (F0 m pc ls (.ref a :: rest)) := by
  obtain ⟨fs, h1, h2⟩ := gL_spec hg
  exact r_gV hx hb hts iX7 hown hK hP rfl 12 (by decide) rfl (hts _ hk) h1 h2 hdg kk
theorem fp_6_12 (hx : p.tables.exec = Jvm.exec) (hb : c.code = cc) (hts : ∀ w ∈ ALLW, w.before args s = true) (hown : s.vm.findClass own = some m.cls) (hK : va_K D vwCl (tyL cy) s) (hP : SP D cy S H) (hD : ∀ a, S a ≠ none → A a) (hS : va_S A H0 H locs) (hk : Cond.fieldLink own index RX7 "hash" "J" ∈ ALLW) {v : Int64} (hg : pL S a 6 12 v = some S1) (hdg : decode cc pc = .ok (.putfield index, 3)) (kk : ∀ (H1 : Heap) (locs1 : List Loc), H1.size = H.size → SP D cy S1 H1 → (∀ a, S1 a ≠ none → A a) → va_S A H0 H1 locs1 → W p l e R s m args below meth c H1 locs1 cells slots Q (F0 m (pc + 3) ls rest)) : W p l e R s m args below meth c H locs cells slots Q (F0 m pc ls (.long v :: .ref a :: rest)) := by
  exact r_pV hx hb hts iX7 tyX7 tyX7_ok nmX7 hown hK hP hD hS rfl 12 (by decide) rfl (hts _ hk) (Or.inl rfl) rfl rfl hg hdg kk
end FLD
section THR
variable {p : Program} {l : Launch} {e : Env} {R : Room} {s : State} {m : MethodId} {args : Array Value} {below : List Frame} {meth : Method} {c : Code} {H : Heap} {locs : List Loc} {cells slots mc ms : Nat} {cc : ByteArray} {pc : Nat} {ls : Array Slot} {rest : List Value} {D : va_G} {cy : Nat → ClassId} {A : Nat → Prop} {S : St}
theorem wat_X6_IllegalArgumentException : vx_atS RX6 71 "java/lang/IllegalArgumentException" ["java/lang/RuntimeException", "java/lang/Exception"] = ([76, 507, 516, 520, 523, 525, 508, 509, 91, 92, 510, 515, 521, 541, 497, 542, 499, 543, 501, 511, 513, 503, 537, 538, 540, 503, 528, 529, 530, 531, 489, 531, 532, 533, 534, 491, 534, 535, 536, 537, 493, 527, 486, 487, 494, 495, 496, 498, 500, 502, 506, 505, 504] : List Nat).filterMap (fun i => lw_tbl[i]?) ∧ (vx_atS RX6 71 "java/lang/IllegalArgumentException" ["java/lang/RuntimeException", "java/lang/Exception"]).all (fun w => goodWord w || nwW w) = true := by decide +kernel
theorem wot_X6_IllegalArgumentException : (Cond.classLink RX6 67 "java/lang/IllegalArgumentException" :: Cond.initialized "java/lang/IllegalArgumentException" :: vx_atS RX6 71 "java/lang/IllegalArgumentException" ["java/lang/RuntimeException", "java/lang/Exception"]).all vx_ot = true := by decide +kernel
theorem tX6_IllegalArgumentExceptionp {α : Type} {Qc : Array Value → State → Outcome → State → Prop} {text : String} {is : Nat} (hx : p.tables.exec = Jvm.exec) (hb : c.code = cc) (hl0 : l.stackTraces = false) (hown : s.vm.findClass RX6 = some m.cls) (hts : ∀ w ∈ ALLW, w.before args s = true) (hE : ENV noA s) (hS : va_S noA s.heap H locs) (hsize : ls.size = c.maxLocals) (d0 : decode cc pc = .ok (.new 67, 3)) (d3 : decode cc (pc + 3) = .ok (.dup, 1)) (d4 : decode cc (pc + 4) = .ok (.ldc is, 2)) (d6 : decode cc (pc + 6) = .ok (.invokespecial 71, 3)) (d9 : decode cc (pc + 9) = .ok (.athrow, 1)) (hout : ∀ x ∈ c.exceptionTable.toList, covers x (pc + 9) = false) (hRf : 5 < R.frames) (hRl : (rest.map fun v => v.category).sum + 82 ≤ R.locals) (hRc : cells + 1 ≤ R.cells) (hRs : slots + 6 ≤ R.slots) (hlocks : meth.locks = false) (hc : cells + 1 ≤ mc) (hs : slots + 6 ≤ ms) (hq : (RX6, is, text) ∈ STRS) : W p l e R s m args below meth c H locs cells slots (vx_MQ below Qc (vx_X (fun _ : Unit => True) (fun E _ _ => (Sum.inl "java/lang/IllegalArgumentException" : String ⊕ α) = .inl E) noA) args s mc ms noA) (F0 m pc ls rest) := by
  obtain ⟨sa, hstr⟩ := hE.2.2.2 _ hq
  exact vx_throwS (names := ["java/lang/RuntimeException", "java/lang/Exception"]) hx hb hl0 hown (by decide +kernel) (by decide +kernel) (hts _ wd_485) (hts _ wd_79) hstr (at_all wat_X6_IllegalArgumentException hts hE.1) (List.all_eq_true.mp wot_X6_IllegalArgumentException) hE.2.1 hE.2.2.1 hS hsize d0 d3 d4 d6 d9 hout hRf hRl hRc hRs hlocks (fun t _ hz hk => ⟨(), trivial, rfl, throwF hS hz hk⟩) hS.2.2 hc hs
theorem tX6_IllegalArgumentExceptionm {α : Type} {Qc : Array Value → State → Outcome → State → Prop} {text : String} {is : Nat} (hx : p.tables.exec = Jvm.exec) (hb : c.code = cc) (hl0 : l.stackTraces = false) (hown : s.vm.findClass RX6 = some m.cls) (hts : ∀ w ∈ ALLW, w.before args s = true) (hE : ENV A s) (hP : SP D cy S H) (hD : ∀ a, S a ≠ none → A a) (hS : va_S A s.heap H locs) (hsize : ls.size = c.maxLocals) (d0 : decode cc pc = .ok (.new 67, 3)) (d3 : decode cc (pc + 3) = .ok (.dup, 1)) (d4 : decode cc (pc + 4) = .ok (.ldc is, 2)) (d6 : decode cc (pc + 6) = .ok (.invokespecial 71, 3)) (d9 : decode cc (pc + 9) = .ok (.athrow, 1)) (hout : ∀ x ∈ c.exceptionTable.toList, covers x (pc + 9) = false) (hRf : 5 < R.frames) (hRl : (rest.map fun v => v.category).sum + 82 ≤ R.locals) (hRc : cells + 1 ≤ R.cells) (hRs : slots + 6 ≤ R.slots) (hlocks : meth.locks = false) (hc : cells + 1 ≤ mc) (hs : slots + 6 ≤ ms) (hq : (RX6, is, text) ∈ STRS) : W p l e R s m args below meth c H locs cells slots (vx_MQ below Qc (vx_X (fun _ : Unit => True) (fun E _ t => (Sum.inl "java/lang/IllegalArgumentException" : String ⊕ α) = .inl E ∧ PoS D cy S A t) A) args s mc ms A) (F0 m pc ls rest) := by
  obtain ⟨sa, hstr⟩ := hE.2.2.2 _ hq
  exact vx_throwS (names := ["java/lang/RuntimeException", "java/lang/Exception"]) hx hb hl0 hown (by decide +kernel) (by decide +kernel) (hts _ wd_485) (hts _ wd_79) hstr (at_all wat_X6_IllegalArgumentException hts hE.1) (List.all_eq_true.mp wot_X6_IllegalArgumentException) hE.2.1 hE.2.2.1 hS hsize d0 d3 d4 d6 d9 hout hRf hRl hRc hRs hlocks (fun t _ hz hk => ⟨(), trivial, ⟨rfl, hP.kept hk, hD⟩, throwF hS hz hk⟩) hS.2.2 hc hs
theorem tX6_IllegalArgumentExceptionWp {α : Type} {Qc : Array Value → State → Outcome → State → Prop} {text : String} {is : Nat} (hx : p.tables.exec = Jvm.exec) (hb : c.code = cc) (hl0 : l.stackTraces = false) (hown : s.vm.findClass RX6 = some m.cls) (hts : ∀ w ∈ ALLW, w.before args s = true) (hE : ENV noA s) (hS : va_S noA s.heap H locs) (hsize : ls.size = c.maxLocals) (d0 : decode cc pc = .ok (.new 67, 3)) (d3 : decode cc (pc + 3) = .ok (.dup, 1)) (d4 : decode cc (pc + 4) = .ok (.ldc_w is, 3)) (d6 : decode cc (pc + 7) = .ok (.invokespecial 71, 3)) (d9 : decode cc (pc + 10) = .ok (.athrow, 1)) (hout : ∀ x ∈ c.exceptionTable.toList, covers x (pc + 10) = false) (hRf : 5 < R.frames) (hRl : (rest.map fun v => v.category).sum + 82 ≤ R.locals) (hRc : cells + 1 ≤ R.cells) (hRs : slots + 6 ≤ R.slots) (hlocks : meth.locks = false) (hc : cells + 1 ≤ mc) (hs : slots + 6 ≤ ms) (hq : (RX6, is, text) ∈ STRS) : W p l e R s m args below meth c H locs cells slots (vx_MQ below Qc (vx_X (fun _ : Unit => True) (fun E _ _ => (Sum.inl "java/lang/IllegalArgumentException" : String ⊕ α) = .inl E) noA) args s mc ms noA) (F0 m pc ls rest) := by
  obtain ⟨sa, hstr⟩ := hE.2.2.2 _ hq
  exact vx_throwSW (names := ["java/lang/RuntimeException", "java/lang/Exception"]) hx hb hl0 hown (by decide +kernel) (by decide +kernel) (hts _ wd_485) (hts _ wd_79) hstr (at_all wat_X6_IllegalArgumentException hts hE.1) (List.all_eq_true.mp wot_X6_IllegalArgumentException) hE.2.1 hE.2.2.1 hS hsize d0 d3 d4 d6 d9 hout hRf hRl hRc hRs hlocks (fun t _ hz hk => ⟨(), trivial, rfl, throwF hS hz hk⟩) hS.2.2 hc hs
theorem tX6_IllegalArgumentExceptionWm {α : Type} {Qc : Array Value → State → Outcome → State → Prop} {text : String} {is : Nat} (hx : p.tables.exec = Jvm.exec) (hb : c.code = cc) (hl0 : l.stackTraces = false) (hown : s.vm.findClass RX6 = some m.cls) (hts : ∀ w ∈ ALLW, w.before args s = true) (hE : ENV A s) (hP : SP D cy S H) (hD : ∀ a, S a ≠ none → A a) (hS : va_S A s.heap H locs) (hsize : ls.size = c.maxLocals) (d0 : decode cc pc = .ok (.new 67, 3)) (d3 : decode cc (pc + 3) = .ok (.dup, 1)) (d4 : decode cc (pc + 4) = .ok (.ldc_w is, 3)) (d6 : decode cc (pc + 7) = .ok (.invokespecial 71, 3)) (d9 : decode cc (pc + 10) = .ok (.athrow, 1)) (hout : ∀ x ∈ c.exceptionTable.toList, covers x (pc + 10) = false) (hRf : 5 < R.frames) (hRl : (rest.map fun v => v.category).sum + 82 ≤ R.locals) (hRc : cells + 1 ≤ R.cells) (hRs : slots + 6 ≤ R.slots) (hlocks : meth.locks = false) (hc : cells + 1 ≤ mc) (hs : slots + 6 ≤ ms) (hq : (RX6, is, text) ∈ STRS) : W p l e R s m args below meth c H locs cells slots (vx_MQ below Qc (vx_X (fun _ : Unit => True) (fun E _ t => (Sum.inl "java/lang/IllegalArgumentException" : String ⊕ α) = .inl E ∧ PoS D cy S A t) A) args s mc ms A) (F0 m pc ls rest) := by
  obtain ⟨sa, hstr⟩ := hE.2.2.2 _ hq
  exact vx_throwSW (names := ["java/lang/RuntimeException", "java/lang/Exception"]) hx hb hl0 hown (by decide +kernel) (by decide +kernel) (hts _ wd_485) (hts _ wd_79) hstr (at_all wat_X6_IllegalArgumentException hts hE.1) (List.all_eq_true.mp wot_X6_IllegalArgumentException) hE.2.1 hE.2.2.1 hS hsize d0 d3 d4 d6 d9 hout hRf hRl hRc hRs hlocks (fun t _ hz hk => ⟨(), trivial, ⟨rfl, hP.kept hk, hD⟩, throwF hS hz hk⟩) hS.2.2 hc hs
theorem wat_X6_IllegalStateException : vx_atS RX6 94 "java/lang/IllegalStateException" ["java/lang/RuntimeException", "java/lang/Exception"] = ([76, 507, 516, 520, 523, 525, 508, 509, 91, 92, 510, 515, 521, 541, 497, 542, 499, 543, 501, 511, 513, 503, 537, 538, 540, 503, 572, 573, 574, 531, 489, 531, 532, 533, 534, 491, 534, 535, 536, 537, 493, 571, 562, 563, 564, 518, 565, 566, 567, 568, 506, 505, 569] : List Nat).filterMap (fun i => lw_tbl[i]?) ∧ (vx_atS RX6 94 "java/lang/IllegalStateException" ["java/lang/RuntimeException", "java/lang/Exception"]).all (fun w => goodWord w || nwW w) = true := by decide +kernel
theorem wot_X6_IllegalStateException : (Cond.classLink RX6 90 "java/lang/IllegalStateException" :: Cond.initialized "java/lang/IllegalStateException" :: vx_atS RX6 94 "java/lang/IllegalStateException" ["java/lang/RuntimeException", "java/lang/Exception"]).all vx_ot = true := by decide +kernel
theorem tX6_IllegalStateExceptionp {α : Type} {Qc : Array Value → State → Outcome → State → Prop} {text : String} {is : Nat} (hx : p.tables.exec = Jvm.exec) (hb : c.code = cc) (hl0 : l.stackTraces = false) (hown : s.vm.findClass RX6 = some m.cls) (hts : ∀ w ∈ ALLW, w.before args s = true) (hE : ENV noA s) (hS : va_S noA s.heap H locs) (hsize : ls.size = c.maxLocals) (d0 : decode cc pc = .ok (.new 90, 3)) (d3 : decode cc (pc + 3) = .ok (.dup, 1)) (d4 : decode cc (pc + 4) = .ok (.ldc is, 2)) (d6 : decode cc (pc + 6) = .ok (.invokespecial 94, 3)) (d9 : decode cc (pc + 9) = .ok (.athrow, 1)) (hout : ∀ x ∈ c.exceptionTable.toList, covers x (pc + 9) = false) (hRf : 5 < R.frames) (hRl : (rest.map fun v => v.category).sum + 82 ≤ R.locals) (hRc : cells + 1 ≤ R.cells) (hRs : slots + 6 ≤ R.slots) (hlocks : meth.locks = false) (hc : cells + 1 ≤ mc) (hs : slots + 6 ≤ ms) (hq : (RX6, is, text) ∈ STRS) : W p l e R s m args below meth c H locs cells slots (vx_MQ below Qc (vx_X (fun _ : Unit => True) (fun E _ _ => (Sum.inl "java/lang/IllegalStateException" : String ⊕ α) = .inl E) noA) args s mc ms noA) (F0 m pc ls rest) := by
  obtain ⟨sa, hstr⟩ := hE.2.2.2 _ hq
  exact vx_throwS (names := ["java/lang/RuntimeException", "java/lang/Exception"]) hx hb hl0 hown (by decide +kernel) (by decide +kernel) (hts _ wd_561) (hts _ wd_80) hstr (at_all wat_X6_IllegalStateException hts hE.1) (List.all_eq_true.mp wot_X6_IllegalStateException) hE.2.1 hE.2.2.1 hS hsize d0 d3 d4 d6 d9 hout hRf hRl hRc hRs hlocks (fun t _ hz hk => ⟨(), trivial, rfl, throwF hS hz hk⟩) hS.2.2 hc hs
theorem tX6_IllegalStateExceptionm {α : Type} {Qc : Array Value → State → Outcome → State → Prop} {text : String} {is : Nat} (hx : p.tables.exec = Jvm.exec) (hb : c.code = cc) (hl0 : l.stackTraces = false) (hown : s.vm.findClass RX6 = some m.cls) (hts : ∀ w ∈ ALLW, w.before args s = true) (hE : ENV A s) (hP : SP D cy S H) (hD : ∀ a, S a ≠ none → A a) (hS : va_S A s.heap H locs) (hsize : ls.size = c.maxLocals) (d0 : decode cc pc = .ok (.new 90, 3)) (d3 : decode cc (pc + 3) = .ok (.dup, 1)) (d4 : decode cc (pc + 4) = .ok (.ldc is, 2)) (d6 : decode cc (pc + 6) = .ok (.invokespecial 94, 3)) (d9 : decode cc (pc + 9) = .ok (.athrow, 1)) (hout : ∀ x ∈ c.exceptionTable.toList, covers x (pc + 9) = false) (hRf : 5 < R.frames) (hRl : (rest.map fun v => v.category).sum + 82 ≤ R.locals) (hRc : cells + 1 ≤ R.cells) (hRs : slots + 6 ≤ R.slots) (hlocks : meth.locks = false) (hc : cells + 1 ≤ mc) (hs : slots + 6 ≤ ms) (hq : (RX6, is, text) ∈ STRS) : W p l e R s m args below meth c H locs cells slots (vx_MQ below Qc (vx_X (fun _ : Unit => True) (fun E _ t => (Sum.inl "java/lang/IllegalStateException" : String ⊕ α) = .inl E ∧ PoS D cy S A t) A) args s mc ms A) (F0 m pc ls rest) := by
  obtain ⟨sa, hstr⟩ := hE.2.2.2 _ hq
  exact vx_throwS (names := ["java/lang/RuntimeException", "java/lang/Exception"]) hx hb hl0 hown (by decide +kernel) (by decide +kernel) (hts _ wd_561) (hts _ wd_80) hstr (at_all wat_X6_IllegalStateException hts hE.1) (List.all_eq_true.mp wot_X6_IllegalStateException) hE.2.1 hE.2.2.1 hS hsize d0 d3 d4 d6 d9 hout hRf hRl hRc hRs hlocks (fun t _ hz hk => ⟨(), trivial, ⟨rfl, hP.kept hk, hD⟩, throwF hS hz hk⟩) hS.2.2 hc hs
theorem tX6_IllegalStateExceptionWp {α : Type} {Qc : Array Value → State → Outcome → State → Prop} {text : String} {is : Nat} (hx : p.tables.exec = Jvm.exec) (hb : c.code = cc) (hl0 : l.stackTraces = false) (hown : s.vm.findClass RX6 = some m.cls) (hts : ∀ w ∈ ALLW, w.before args s = true) (hE : ENV noA s) (hS : va_S noA s.heap H locs) (hsize : ls.size = c.maxLocals) (d0 : decode cc pc = .ok (.new 90, 3)) (d3 : decode cc (pc + 3) = .ok (.dup, 1)) (d4 : decode cc (pc + 4) = .ok (.ldc_w is, 3)) (d6 : decode cc (pc + 7) = .ok (.invokespecial 94, 3)) (d9 : decode cc (pc + 10) = .ok (.athrow, 1)) (hout : ∀ x ∈ c.exceptionTable.toList, covers x (pc + 10) = false) (hRf : 5 < R.frames) (hRl : (rest.map fun v => v.category).sum + 82 ≤ R.locals) (hRc : cells + 1 ≤ R.cells) (hRs : slots + 6 ≤ R.slots) (hlocks : meth.locks = false) (hc : cells + 1 ≤ mc) (hs : slots + 6 ≤ ms) (hq : (RX6, is, text) ∈ STRS) : W p l e R s m args below meth c H locs cells slots (vx_MQ below Qc (vx_X (fun _ : Unit => True) (fun E _ _ => (Sum.inl "java/lang/IllegalStateException" : String ⊕ α) = .inl E) noA) args s mc ms noA) (F0 m pc ls rest) := by
  obtain ⟨sa, hstr⟩ := hE.2.2.2 _ hq
  exact vx_throwSW (names := ["java/lang/RuntimeException", "java/lang/Exception"]) hx hb hl0 hown (by decide +kernel) (by decide +kernel) (hts _ wd_561) (hts _ wd_80) hstr (at_all wat_X6_IllegalStateException hts hE.1) (List.all_eq_true.mp wot_X6_IllegalStateException) hE.2.1 hE.2.2.1 hS hsize d0 d3 d4 d6 d9 hout hRf hRl hRc hRs hlocks (fun t _ hz hk => ⟨(), trivial, rfl, throwF hS hz hk⟩) hS.2.2 hc hs
theorem tX6_IllegalStateExceptionWm {α : Type} {Qc : Array Value → State → Outcome → State → Prop} {text : String} {is : Nat} (hx : p.tables.exec = Jvm.exec) (hb : c.code = cc) (hl0 : l.stackTraces = false) (hown : s.vm.findClass RX6 = some m.cls) (hts : ∀ w ∈ ALLW, w.before args s = true) (hE : ENV A s) (hP : SP D cy S H) (hD : ∀ a, S a ≠ none → A a) (hS : va_S A s.heap H locs) (hsize : ls.size = c.maxLocals) (d0 : decode cc pc = .ok (.new 90, 3)) (d3 : decode cc (pc + 3) = .ok (.dup, 1)) (d4 : decode cc (pc + 4) = .ok (.ldc_w is, 3)) (d6 : decode cc (pc + 7) = .ok (.invokespecial 94, 3)) (d9 : decode cc (pc + 10) = .ok (.athrow, 1)) (hout : ∀ x ∈ c.exceptionTable.toList, covers x (pc + 10) = false) (hRf : 5 < R.frames) (hRl : (rest.map fun v => v.category).sum + 82 ≤ R.locals) (hRc : cells + 1 ≤ R.cells) (hRs : slots + 6 ≤ R.slots) (hlocks : meth.locks = false) (hc : cells + 1 ≤ mc) (hs : slots + 6 ≤ ms) (hq : (RX6, is, text) ∈ STRS) : W p l e R s m args below meth c H locs cells slots (vx_MQ below Qc (vx_X (fun _ : Unit => True) (fun E _ t => (Sum.inl "java/lang/IllegalStateException" : String ⊕ α) = .inl E ∧ PoS D cy S A t) A) args s mc ms A) (F0 m pc ls rest) := by
  obtain ⟨sa, hstr⟩ := hE.2.2.2 _ hq
  exact vx_throwSW (names := ["java/lang/RuntimeException", "java/lang/Exception"]) hx hb hl0 hown (by decide +kernel) (by decide +kernel) (hts _ wd_561) (hts _ wd_80) hstr (at_all wat_X6_IllegalStateException hts hE.1) (List.all_eq_true.mp wot_X6_IllegalStateException) hE.2.1 hE.2.2.1 hS hsize d0 d3 d4 d6 d9 hout hRf hRl hRc hRs hlocks (fun t _ hz hk => ⟨(), trivial, ⟨rfl, hP.kept hk, hD⟩, throwF hS hz hk⟩) hS.2.2 hc hs
theorem wat_X6_IndexOutOfBoundsException : vx_atS RX6 134 "java/lang/IndexOutOfBoundsException" ["java/lang/RuntimeException", "java/lang/Exception"] = ([76, 507, 516, 520, 523, 525, 508, 509, 91, 92, 510, 515, 521, 541, 497, 542, 499, 543, 501, 511, 513, 503, 537, 538, 540, 503, 654, 655, 656, 531, 489, 531, 532, 533, 534, 491, 534, 535, 536, 537, 493, 653, 644, 645, 646, 519, 647, 648, 649, 650, 506, 505, 651] : List Nat).filterMap (fun i => lw_tbl[i]?) ∧ (vx_atS RX6 134 "java/lang/IndexOutOfBoundsException" ["java/lang/RuntimeException", "java/lang/Exception"]).all (fun w => goodWord w || nwW w) = true := by decide +kernel
theorem wot_X6_IndexOutOfBoundsException : (Cond.classLink RX6 130 "java/lang/IndexOutOfBoundsException" :: Cond.initialized "java/lang/IndexOutOfBoundsException" :: vx_atS RX6 134 "java/lang/IndexOutOfBoundsException" ["java/lang/RuntimeException", "java/lang/Exception"]).all vx_ot = true := by decide +kernel
theorem tX6_IndexOutOfBoundsExceptionp {α : Type} {Qc : Array Value → State → Outcome → State → Prop} {text : String} {is : Nat} (hx : p.tables.exec = Jvm.exec) (hb : c.code = cc) (hl0 : l.stackTraces = false) (hown : s.vm.findClass RX6 = some m.cls) (hts : ∀ w ∈ ALLW, w.before args s = true) (hE : ENV noA s) (hS : va_S noA s.heap H locs) (hsize : ls.size = c.maxLocals) (d0 : decode cc pc = .ok (.new 130, 3)) (d3 : decode cc (pc + 3) = .ok (.dup, 1)) (d4 : decode cc (pc + 4) = .ok (.ldc is, 2)) (d6 : decode cc (pc + 6) = .ok (.invokespecial 134, 3)) (d9 : decode cc (pc + 9) = .ok (.athrow, 1)) (hout : ∀ x ∈ c.exceptionTable.toList, covers x (pc + 9) = false) (hRf : 5 < R.frames) (hRl : (rest.map fun v => v.category).sum + 82 ≤ R.locals) (hRc : cells + 1 ≤ R.cells) (hRs : slots + 6 ≤ R.slots) (hlocks : meth.locks = false) (hc : cells + 1 ≤ mc) (hs : slots + 6 ≤ ms) (hq : (RX6, is, text) ∈ STRS) : W p l e R s m args below meth c H locs cells slots (vx_MQ below Qc (vx_X (fun _ : Unit => True) (fun E _ _ => (Sum.inl "java/lang/IndexOutOfBoundsException" : String ⊕ α) = .inl E) noA) args s mc ms noA) (F0 m pc ls rest) := by
  obtain ⟨sa, hstr⟩ := hE.2.2.2 _ hq
  exact vx_throwS (names := ["java/lang/RuntimeException", "java/lang/Exception"]) hx hb hl0 hown (by decide +kernel) (by decide +kernel) (hts _ wd_643) (hts _ wd_82) hstr (at_all wat_X6_IndexOutOfBoundsException hts hE.1) (List.all_eq_true.mp wot_X6_IndexOutOfBoundsException) hE.2.1 hE.2.2.1 hS hsize d0 d3 d4 d6 d9 hout hRf hRl hRc hRs hlocks (fun t _ hz hk => ⟨(), trivial, rfl, throwF hS hz hk⟩) hS.2.2 hc hs
theorem tX6_IndexOutOfBoundsExceptionm {α : Type} {Qc : Array Value → State → Outcome → State → Prop} {text : String} {is : Nat} (hx : p.tables.exec = Jvm.exec) (hb : c.code = cc) (hl0 : l.stackTraces = false) (hown : s.vm.findClass RX6 = some m.cls) (hts : ∀ w ∈ ALLW, w.before args s = true) (hE : ENV A s) (hP : SP D cy S H) (hD : ∀ a, S a ≠ none → A a) (hS : va_S A s.heap H locs) (hsize : ls.size = c.maxLocals) (d0 : decode cc pc = .ok (.new 130, 3)) (d3 : decode cc (pc + 3) = .ok (.dup, 1)) (d4 : decode cc (pc + 4) = .ok (.ldc is, 2)) (d6 : decode cc (pc + 6) = .ok (.invokespecial 134, 3)) (d9 : decode cc (pc + 9) = .ok (.athrow, 1)) (hout : ∀ x ∈ c.exceptionTable.toList, covers x (pc + 9) = false) (hRf : 5 < R.frames) (hRl : (rest.map fun v => v.category).sum + 82 ≤ R.locals) (hRc : cells + 1 ≤ R.cells) (hRs : slots + 6 ≤ R.slots) (hlocks : meth.locks = false) (hc : cells + 1 ≤ mc) (hs : slots + 6 ≤ ms) (hq : (RX6, is, text) ∈ STRS) : W p l e R s m args below meth c H locs cells slots (vx_MQ below Qc (vx_X (fun _ : Unit => True) (fun E _ t => (Sum.inl "java/lang/IndexOutOfBoundsException" : String ⊕ α) = .inl E ∧ PoS D cy S A t) A) args s mc ms A) (F0 m pc ls rest) := by
  obtain ⟨sa, hstr⟩ := hE.2.2.2 _ hq
  exact vx_throwS (names := ["java/lang/RuntimeException", "java/lang/Exception"]) hx hb hl0 hown (by decide +kernel) (by decide +kernel) (hts _ wd_643) (hts _ wd_82) hstr (at_all wat_X6_IndexOutOfBoundsException hts hE.1) (List.all_eq_true.mp wot_X6_IndexOutOfBoundsException) hE.2.1 hE.2.2.1 hS hsize d0 d3 d4 d6 d9 hout hRf hRl hRc hRs hlocks (fun t _ hz hk => ⟨(), trivial, ⟨rfl, hP.kept hk, hD⟩, throwF hS hz hk⟩) hS.2.2 hc hs
theorem tX6_IndexOutOfBoundsExceptionWp {α : Type} {Qc : Array Value → State → Outcome → State → Prop} {text : String} {is : Nat} (hx : p.tables.exec = Jvm.exec) (hb : c.code = cc) (hl0 : l.stackTraces = false) (hown : s.vm.findClass RX6 = some m.cls) (hts : ∀ w ∈ ALLW, w.before args s = true) (hE : ENV noA s) (hS : va_S noA s.heap H locs) (hsize : ls.size = c.maxLocals) (d0 : decode cc pc = .ok (.new 130, 3)) (d3 : decode cc (pc + 3) = .ok (.dup, 1)) (d4 : decode cc (pc + 4) = .ok (.ldc_w is, 3)) (d6 : decode cc (pc + 7) = .ok (.invokespecial 134, 3)) (d9 : decode cc (pc + 10) = .ok (.athrow, 1)) (hout : ∀ x ∈ c.exceptionTable.toList, covers x (pc + 10) = false) (hRf : 5 < R.frames) (hRl : (rest.map fun v => v.category).sum + 82 ≤ R.locals) (hRc : cells + 1 ≤ R.cells) (hRs : slots + 6 ≤ R.slots) (hlocks : meth.locks = false) (hc : cells + 1 ≤ mc) (hs : slots + 6 ≤ ms) (hq : (RX6, is, text) ∈ STRS) : W p l e R s m args below meth c H locs cells slots (vx_MQ below Qc (vx_X (fun _ : Unit => True) (fun E _ _ => (Sum.inl "java/lang/IndexOutOfBoundsException" : String ⊕ α) = .inl E) noA) args s mc ms noA) (F0 m pc ls rest) := by
  obtain ⟨sa, hstr⟩ := hE.2.2.2 _ hq
  exact vx_throwSW (names := ["java/lang/RuntimeException", "java/lang/Exception"]) hx hb hl0 hown (by decide +kernel) (by decide +kernel) (hts _ wd_643) (hts _ wd_82) hstr (at_all wat_X6_IndexOutOfBoundsException hts hE.1) (List.all_eq_true.mp wot_X6_IndexOutOfBoundsException) hE.2.1 hE.2.2.1 hS hsize d0 d3 d4 d6 d9 hout hRf hRl hRc hRs hlocks (fun t _ hz hk => ⟨(), trivial, rfl, throwF hS hz hk⟩) hS.2.2 hc hs
theorem tX6_IndexOutOfBoundsExceptionWm {α : Type} {Qc : Array Value → State → Outcome → State → Prop} {text : String} {is : Nat} (hx : p.tables.exec = Jvm.exec) (hb : c.code = cc) (hl0 : l.stackTraces = false) (hown : s.vm.findClass RX6 = some m.cls) (hts : ∀ w ∈ ALLW, w.before args s = true) (hE : ENV A s) (hP : SP D cy S H) (hD : ∀ a, S a ≠ none → A a) (hS : va_S A s.heap H locs) (hsize : ls.size = c.maxLocals) (d0 : decode cc pc = .ok (.new 130, 3)) (d3 : decode cc (pc + 3) = .ok (.dup, 1)) (d4 : decode cc (pc + 4) = .ok (.ldc_w is, 3)) (d6 : decode cc (pc + 7) = .ok (.invokespecial 134, 3)) (d9 : decode cc (pc + 10) = .ok (.athrow, 1)) (hout : ∀ x ∈ c.exceptionTable.toList, covers x (pc + 10) = false) (hRf : 5 < R.frames) (hRl : (rest.map fun v => v.category).sum + 82 ≤ R.locals) (hRc : cells + 1 ≤ R.cells) (hRs : slots + 6 ≤ R.slots) (hlocks : meth.locks = false) (hc : cells + 1 ≤ mc) (hs : slots + 6 ≤ ms) (hq : (RX6, is, text) ∈ STRS) : W p l e R s m args below meth c H locs cells slots (vx_MQ below Qc (vx_X (fun _ : Unit => True) (fun E _ t => (Sum.inl "java/lang/IndexOutOfBoundsException" : String ⊕ α) = .inl E ∧ PoS D cy S A t) A) args s mc ms A) (F0 m pc ls rest) := by
  obtain ⟨sa, hstr⟩ := hE.2.2.2 _ hq
  exact vx_throwSW (names := ["java/lang/RuntimeException", "java/lang/Exception"]) hx hb hl0 hown (by decide +kernel) (by decide +kernel) (hts _ wd_643) (hts _ wd_82) hstr (at_all wat_X6_IndexOutOfBoundsException hts hE.1) (List.all_eq_true.mp wot_X6_IndexOutOfBoundsException) hE.2.1 hE.2.2.1 hS hsize d0 d3 d4 d6 d9 hout hRf hRl hRc hRs hlocks (fun t _ hz hk => ⟨(), trivial, ⟨rfl, hP.kept hk, hD⟩, throwF hS hz hk⟩) hS.2.2 hc hs
end THR
