-- links; written out by gen17.py
theorem m_0_3 : lkp mlT 0 3 = some (10, 0, 0, MX6_get) := by rfl
theorem m_0_18 : lkp mlT 0 18 = some (0, 2, 0, MJ7_fill_53178) := by rfl
theorem m_0_33 : lkp mlT 0 33 = some (0, 1, 0, MX4_isTurn) := by rfl
theorem m_0_39 : lkp mlT 0 39 = some (1, 3, 10, MX0_earliest) := by rfl
theorem m_0_43 : lkp mlT 0 43 = some (11, 2, 0, MX6_get) := by rfl
theorem m_0_49 : lkp mlT 0 49 = some (0, 2, 0, MX4_cross) := by rfl
theorem m_1_3 : lkp mlT 1 3 = some (10, 0, 0, MX6_get) := by rfl
theorem m_1_9 : lkp mlT 1 9 = some (0, 1, 0, MX6_home) := by rfl
theorem m_1_38 : lkp mlT 1 38 = some (0, 2, 0, MJ7_fill_53178) := by rfl
theorem m_1_44 : lkp mlT 1 44 = some (13, 5, 0, MX6_get) := by rfl
theorem m_1_60 : lkp mlT 1 60 = some (1, 3, 11, MX1_make) := by rfl
theorem m_1_64 : lkp mlT 1 64 = some (0, 1, 0, MX4_isTurn) := by rfl
theorem m_1_70 : lkp mlT 1 70 = some (0, 3, 0, MX4_findsColour) := by rfl
theorem m_1_74 : lkp mlT 1 74 = some (1, 1, 11, MX1_countOver) := by rfl
theorem m_1_78 : lkp mlT 1 78 = some (0, 1, 0, MX4_from) := by rfl
theorem m_1_82 : lkp mlT 1 82 = some (0, 2, 0, MX6_get) := by rfl
theorem m_1_86 : lkp mlT 1 86 = some (0, 4, 0, MX4_madeOn) := by rfl
theorem m_1_90 : lkp mlT 1 90 = some (0, 1, 0, MX4_to) := by rfl
theorem m_1_93 : lkp mlT 1 93 = some (0, 1, 0, MX4_kind) := by rfl
theorem m_1_96 : lkp mlT 1 96 = some (12, 2, 0, MX6_get) := by rfl
theorem m_1_102 : lkp mlT 1 102 = some (11, 2, 0, MX6_get) := by rfl
theorem m_1_105 : lkp mlT 1 105 = some (1, 3, 11, MX1_isCovered) := by rfl
theorem m_1_109 : lkp mlT 1 109 = some (1, 2, 11, MX1_timesOver) := by rfl
theorem m_2_3 : lkp mlT 2 3 = some (10, 0, 0, MX6_get) := by rfl
theorem m_2_24 : lkp mlT 2 24 = some (3, 0, 0, MX1_init) := by rfl
theorem m_2_25 : lkp mlT 2 25 = some (1, 1, 11, MX1_copy) := by rfl
theorem m_2_29 : lkp mlT 2 29 = some (12, 2, 0, MX6_get) := by rfl
theorem m_3_3 : lkp mlT 3 3 = some (10, 0, 0, MX6_get) := by rfl
theorem m_3_15 : lkp mlT 3 15 = some (0, 3, 0, MX3_isSameColours) := by rfl
theorem m_3_19 : lkp mlT 3 19 = some (1, 3, 13, MX3_longestCommon) := by rfl
theorem m_3_23 : lkp mlT 3 23 = some (0, 3, 0, MX6_lifted) := by rfl
theorem m_3_29 : lkp mlT 3 29 = some (1, 3, 13, MX3_needed) := by rfl
theorem m_3_34 : lkp mlT 3 34 = some (0, 4, 0, MX4_packed) := by rfl
theorem m_3_38 : lkp mlT 3 38 = some (0, 3, 0, MX3_countOf) := by rfl
theorem m_3_42 : lkp mlT 3 42 = some (0, 2, 0, MX6_get) := by rfl
theorem m_3_46 : lkp mlT 3 46 = some (11, 2, 0, MX6_get) := by rfl
theorem m_4_11 : lkp mlT 4 11 = some (0, 1, 0, MX4_from) := by rfl
theorem m_4_15 : lkp mlT 4 15 = some (0, 1, 0, MX4_kind) := by rfl
theorem m_4_18 : lkp mlT 4 18 = some (0, 4, 0, MX4_packed) := by rfl
theorem m_4_22 : lkp mlT 4 22 = some (0, 1, 0, MX4_to) := by rfl
theorem m_4_25 : lkp mlT 4 25 = some (0, 1, 0, MX4_asked) := by rfl
theorem m_4_28 : lkp mlT 4 28 = some (0, 2, 0, MX6_get) := by rfl
theorem m_4_34 : lkp mlT 4 34 = some (0, 1, 0, MX4_isTurn) := by rfl
theorem m_4_38 : lkp mlT 4 38 = some (0, 3, 0, MX6_turned) := by rfl
theorem m_4_42 : lkp mlT 4 42 = some (0, 3, 0, MX4_findsColour) := by rfl
theorem m_4_46 : lkp mlT 4 46 = some (0, 3, 0, MX6_lifted) := by rfl
theorem m_4_49 : lkp mlT 4 49 = some (0, 3, 0, MX6_swapped) := by rfl
theorem m_4_52 : lkp mlT 4 52 = some (0, 3, 0, MX4_isBetween) := by rfl
theorem m_4_56 : lkp mlT 4 56 = some (12, 2, 0, MX6_get) := by rfl
theorem m_4_62 : lkp mlT 4 62 = some (11, 2, 0, MX6_get) := by rfl
theorem m_5_3 : lkp mlT 5 3 = some (10, 0, 0, MX6_get) := by rfl
theorem m_5_20 : lkp mlT 5 20 = some (3, 0, 0, MX9_init) := by rfl
theorem m_5_27 : lkp mlT 5 27 = some (3, 0, 0, MX7_init) := by rfl
theorem m_5_58 : lkp mlT 5 58 = some (1, 0, 17, MX9_findTokens) := by rfl
theorem m_5_67 : lkp mlT 5 67 = some (1, 0, 14, MX5_take) := by rfl
theorem m_5_70 : lkp mlT 5 70 = some (1, 0, 14, MX5_readEnd) := by rfl
theorem m_5_74 : lkp mlT 5 74 = some (1, 0, 14, MX5_readLift) := by rfl
theorem m_5_77 : lkp mlT 5 77 = some (1, 0, 14, MX5_readSwap) := by rfl
theorem m_5_80 : lkp mlT 5 80 = some (1, 0, 14, MX5_readTurn) := by rfl
theorem m_5_83 : lkp mlT 5 83 = some (1, 0, 14, MX5_readTimes) := by rfl
theorem m_5_86 : lkp mlT 5 86 = some (1, 0, 14, MX5_readClosing) := by rfl
theorem m_5_89 : lkp mlT 5 89 = some (1, 1, 14, MX5_fail) := by rfl
theorem m_5_102 : lkp mlT 5 102 = some (1, 1, 14, MX5_readToken) := by rfl
theorem m_5_105 : lkp mlT 5 105 = some (1, 2, 14, MX5_readNumber) := by rfl
theorem m_5_111 : lkp mlT 5 111 = some (1, 3, 14, MX5_readAsked) := by rfl
theorem m_5_115 : lkp mlT 5 115 = some (0, 4, 0, MX4_packed) := by rfl
theorem m_5_119 : lkp mlT 5 119 = some (1, 1, 14, MX5_append) := by rfl
theorem m_5_126 : lkp mlT 5 126 = some (1, 1, 15, MX7_add) := by rfl
theorem m_6_13 : lkp mlT 6 13 = some (0, 1, 0, MX6_lowest) := by rfl
theorem m_6_21 : lkp mlT 6 21 = some (0, 2, 0, MX6_get) := by rfl
theorem m_6_25 : lkp mlT 6 25 = some (0, 3, 0, MX6_with) := by rfl
theorem m_7_3 : lkp mlT 7 3 = some (10, 0, 0, MX6_get) := by rfl
theorem m_7_19 : lkp mlT 7 19 = some (13, 5, 0, MX6_get) := by rfl
theorem m_7_25 : lkp mlT 7 25 = some (0, 1, 0, MX4_isTurn) := by rfl
theorem m_7_31 : lkp mlT 7 31 = some (0, 1, 0, MX4_from) := by rfl
theorem m_7_35 : lkp mlT 7 35 = some (0, 2, 0, MX6_get) := by rfl
theorem m_7_41 : lkp mlT 7 41 = some (0, 4, 0, MX4_madeOn) := by rfl
theorem m_7_45 : lkp mlT 7 45 = some (0, 2, 0, MX4_mirrored) := by rfl
theorem m_7_49 : lkp mlT 7 49 = some (1, 4, 15, MX7_sungFrom) := by rfl
theorem m_7_53 : lkp mlT 7 53 = some (0, 1, 0, MJ6_bitCount_0f7a4) := by rfl
theorem m_8_3 : lkp mlT 8 3 = some (10, 0, 0, MX6_get) := by rfl
theorem m_8_37 : lkp mlT 8 37 = some (3, 0, 0, MX1_init) := by rfl
theorem m_8_48 : lkp mlT 8 48 = some (0, 2, 0, MJ7_fill_53178) := by rfl
theorem m_8_54 : lkp mlT 8 54 = some (3, 0, 0, MX7_init) := by rfl
theorem m_8_58 : lkp mlT 8 58 = some (1, 1, 11, MX1_startAnew) := by rfl
theorem m_8_62 : lkp mlT 8 62 = some (13, 5, 0, MX6_get) := by rfl
theorem m_8_68 : lkp mlT 8 68 = some (1, 1, 15, MX7_copy) := by rfl
theorem m_8_72 : lkp mlT 8 72 = some (1, 1, 11, MX1_copy) := by rfl
theorem m_8_75 : lkp mlT 8 75 = some (0, 2, 0, MX6_get) := by rfl
theorem m_8_81 : lkp mlT 8 81 = some (0, 3, 0, MX6_with) := by rfl
theorem m_8_91 : lkp mlT 8 91 = some (0, 1, 0, MX4_from) := by rfl
theorem m_8_97 : lkp mlT 8 97 = some (0, 1, 0, MX4_isTurn) := by rfl
theorem m_8_101 : lkp mlT 8 101 = some (1, 1, 11, MX1_draw) := by rfl
theorem m_8_104 : lkp mlT 8 104 = some (1, 3, 11, MX1_make) := by rfl
theorem m_8_108 : lkp mlT 8 108 = some (1, 1, 16, MX8_addRow) := by rfl
theorem m_8_114 : lkp mlT 8 114 = some (1, 2, 16, MX8_rowPart) := by rfl
theorem m_8_118 : lkp mlT 8 118 = some (1, 1, 16, MX8_layRows) := by rfl
theorem m_8_122 : lkp mlT 8 122 = some (1, 1, 16, MX8_countUnlike) := by rfl
theorem m_8_126 : lkp mlT 8 126 = some (0, 1, 0, MX6_home) := by rfl
theorem m_8_130 : lkp mlT 8 130 = some (0, 1, 0, MX4_withoutAsking) := by rfl
theorem m_8_133 : lkp mlT 8 133 = some (0, 4, 0, MX4_madeOn) := by rfl
theorem m_9_3 : lkp mlT 9 3 = some (10, 0, 0, MX6_get) := by rfl
theorem m_9_32 : lkp mlT 9 32 = some (1, 1, 17, MX9_endOfRun) := by rfl
theorem m_9_36 : lkp mlT 9 36 = some (0, 1, 0, MX9_isBlank) := by rfl
theorem m_9_40 : lkp mlT 9 40 = some (1, 2, 17, MX9_kindOfRun) := by rfl
theorem m_9_44 : lkp mlT 9 44 = some (1, 2, 17, MX9_numberOfRun) := by rfl
theorem m_9_47 : lkp mlT 9 47 = some (1, 3, 17, MX9_addToken) := by rfl
theorem m_9_51 : lkp mlT 9 51 = some (0, 1, 0, MX9_isLetter) := by rfl
theorem m_9_54 : lkp mlT 9 54 = some (0, 1, 0, MX9_isDigit) := by rfl
theorem m_9_57 : lkp mlT 9 57 = some (1, 2, 17, MX9_kindOfWord) := by rfl
theorem m_9_62 : lkp mlT 9 62 = some (1, 3, 17, MX9_isWord) := by rfl
theorem m_9_76 : lkp mlT 9 76 = some (14, 0, 0, MX6_get) := by rfl
theorem m_9_81 : lkp mlT 9 81 = some (15, 1, 0, MX6_get) := by rfl
theorem m_10_1 : lkp mlT 10 1 = some (10, 0, 0, MX6_get) := by rfl
theorem m_10_9 : lkp mlT 10 9 = some (3, 0, 0, MX5_init) := by rfl
theorem m_10_18 : lkp mlT 10 18 = some (2, 0, 0, MX8_init) := by rfl
theorem m_10_25 : lkp mlT 10 25 = some (2, 0, 0, MX2_init) := by rfl
theorem m_10_32 : lkp mlT 10 32 = some (3, 0, 0, MX3_init) := by rfl
theorem m_10_39 : lkp mlT 10 39 = some (3, 0, 0, MX0_init) := by rfl
theorem m_10_46 : lkp mlT 10 46 = some (3, 0, 0, MX1_init) := by rfl
theorem m_10_64 : lkp mlT 10 64 = some (1, 0, 12, MX2_forget) := by rfl
theorem m_10_67 : lkp mlT 10 67 = some (1, 1, 16, MX8_startAnew) := by rfl
theorem m_10_71 : lkp mlT 10 71 = some (1, 1, 18, MX10_isSlot) := by rfl
theorem m_10_75 : lkp mlT 10 75 = some (0, 1, 0, MX10_isColour) := by rfl
theorem m_10_82 : lkp mlT 10 82 = some (0, 3, 0, MX6_with) := by rfl
theorem m_10_100 : lkp mlT 10 100 = some (1, 1, 17, MX9_add) := by rfl
theorem m_10_103 : lkp mlT 10 103 = some (1, 0, 14, MX5_forgetFault) := by rfl
theorem m_10_106 : lkp mlT 10 106 = some (0, 1, 0, MX10_isSong) := by rfl
theorem m_10_112 : lkp mlT 10 112 = some (1, 1, 14, MX5_read) := by rfl
theorem m_10_123 : lkp mlT 10 123 = some (1, 1, 15, MX7_copy) := by rfl
theorem m_10_138 : lkp mlT 10 138 = some (1, 1, 12, MX2_remember) := by rfl
theorem m_10_142 : lkp mlT 10 142 = some (1, 1, 16, MX8_singOnce) := by rfl
theorem m_10_149 : lkp mlT 10 149 = some (0, 2, 0, MX6_get) := by rfl
theorem m_10_153 : lkp mlT 10 153 = some (0, 3, 0, MX6_slotWith) := by rfl
theorem m_10_161 : lkp mlT 10 161 = some (1, 2, 11, MX1_timesOver) := by rfl
theorem m_10_168 : lkp mlT 10 168 = some (1, 2, 16, MX8_rowPart) := by rfl
theorem m_10_171 : lkp mlT 10 171 = some (1, 3, 15, MX7_singingsBack) := by rfl
theorem m_10_175 : lkp mlT 10 175 = some (1, 1, 16, MX8_seen) := by rfl
theorem m_10_181 : lkp mlT 10 181 = some (1, 3, 15, MX7_mirroredFrom) := by rfl
theorem m_10_185 : lkp mlT 10 185 = some (1, 4, 15, MX7_sungFrom) := by rfl
theorem m_10_192 : lkp mlT 10 192 = some (1, 3, 13, MX3_needed) := by rfl
theorem m_10_195 : lkp mlT 10 195 = some (1, 4, 13, MX3_firstOf) := by rfl
theorem m_10_199 : lkp mlT 10 199 = some (0, 1, 0, MX4_from) := by rfl
theorem m_10_205 : lkp mlT 10 205 = some (0, 1, 0, MX4_to) := by rfl
theorem m_10_208 : lkp mlT 10 208 = some (0, 4, 0, MX10_oneOfThree) := by rfl
theorem m_10_212 : lkp mlT 10 212 = some (0, 1, 0, MX6_home) := by rfl
theorem m_10_216 : lkp mlT 10 216 = some (1, 4, 18, MX10_fitsWithout) := by rfl
theorem m_10_220 : lkp mlT 10 220 = some (1, 2, 10, MX0_needed) := by rfl
theorem m_10_226 : lkp mlT 10 226 = some (1, 1, 16, MX8_strandsToDye) := by rfl
theorem m_10_229 : lkp mlT 10 229 = some (1, 2, 11, MX1_leastFree) := by rfl
theorem m_10_232 : lkp mlT 10 232 = some (1, 0, 18, MX10_countRings) := by rfl
theorem m_10_236 : lkp mlT 10 236 = some (1, 1, 18, MX10_ringOf) := by rfl
theorem m_10_239 : lkp mlT 10 239 = some (0, 1, 0, MJ6_bitCount_0f7a4) := by rfl
theorem m_10_244 : lkp mlT 10 244 = some (1, 1, 11, MX1_startAnew) := by rfl
theorem m_10_245 : lkp mlT 10 245 = some (1, 3, 11, MX1_singInThought) := by rfl
theorem m_10_249 : lkp mlT 10 249 = some (1, 1, 11, MX1_isOverLike) := by rfl
theorem m_10_253 : lkp mlT 10 253 = some (1, 2, 16, MX8_rowsComeAgain) := by rfl
theorem m_10_257 : lkp mlT 10 257 = some (1, 1, 12, MX2_goBack) := by rfl
theorem m_10_260 : lkp mlT 10 260 = some (1, 1, 16, MX8_copy) := by rfl
theorem m_11_1 : lkp mlT 11 1 = some (10, 0, 0, MX6_get) := by rfl
theorem m_11_65 : lkp mlT 11 65 = some (1, 1, 19, MX11_begins) := by rfl
theorem m_11_72 : lkp mlT 11 72 = some (0, 3, 0, MX11_isIn) := by rfl
theorem m_11_78 : lkp mlT 11 78 = some (1, 1, 19, MX11_isSlot) := by rfl
theorem m_11_91 : lkp mlT 11 91 = some (14, 0, 0, MX6_get) := by rfl
theorem m_11_97 : lkp mlT 11 97 = some (15, 1, 0, MX6_get) := by rfl
theorem m_11_103 : lkp mlT 11 103 = some (1, 1, 19, MX11_is) := by rfl
theorem m_11_117 : lkp mlT 11 117 = some (1, 1, 19, MX11_see) := by rfl
theorem m_11_124 : lkp mlT 11 124 = some (0, 1, 0, MX11_isLetter) := by rfl
theorem m_11_127 : lkp mlT 11 127 = some (1, 0, 19, MX11_word) := by rfl
theorem m_11_130 : lkp mlT 11 130 = some (0, 1, 0, MX11_isDigit) := by rfl
theorem m_11_142 : lkp mlT 11 142 = some (1, 1, 19, MX11_bad) := by rfl
theorem m_11_145 : lkp mlT 11 145 = some (1, 0, 19, MX11_next0) := by rfl
theorem m_11_151 : lkp mlT 11 151 = some (1, 2, 19, MX11_number) := by rfl
theorem m_11_155 : lkp mlT 11 155 = some (1, 1, 19, MX11_need) := by rfl
theorem m_11_158 : lkp mlT 11 158 = some (1, 4, 19, MX11_puts) := by rfl
theorem m_11_162 : lkp mlT 11 162 = some (1, 1, 19, MX11_someSteps) := by rfl
theorem m_11_165 : lkp mlT 11 165 = some (1, 1, 19, MX11_someTimes) := by rfl
theorem m_11_168 : lkp mlT 11 168 = some (1, 0, 19, MX11_aTurn) := by rfl
theorem m_11_172 : lkp mlT 11 172 = some (1, 1, 19, MX11_aMove) := by rfl
theorem m_11_178 : lkp mlT 11 178 = some (0, 1, 0, MX11_isSong) := by rfl
theorem m_11_181 : lkp mlT 11 181 = some (1, 3, 19, MX11_goesOver) := by rfl
theorem m_11_185 : lkp mlT 11 185 = some (1, 3, 19, MX11_ofMove) := by rfl
theorem m_11_189 : lkp mlT 11 189 = some (1, 1, 19, MX11_turns) := by rfl
theorem m_11_192 : lkp mlT 11 192 = some (1, 3, 19, MX11_lifts) := by rfl
theorem m_11_195 : lkp mlT 11 195 = some (1, 3, 19, MX11_swaps) := by rfl
theorem m_11_198 : lkp mlT 11 198 = some (1, 6, 19, MX11_moves) := by rfl
theorem m_11_202 : lkp mlT 11 202 = some (1, 0, 19, MX11_sitsNow) := by rfl
theorem m_11_205 : lkp mlT 11 205 = some (1, 1, 19, MX11_draw) := by rfl
theorem m_11_208 : lkp mlT 11 208 = some (1, 1, 19, MX11_writes) := by rfl
theorem m_11_211 : lkp mlT 11 211 = some (1, 0, 19, MX11_keeps) := by rfl
theorem m_11_214 : lkp mlT 11 214 = some (1, 1, 19, MX11_singsTruly) := by rfl
theorem m_11_217 : lkp mlT 11 217 = some (1, 1, 19, MX11_slotOf) := by rfl
theorem m_11_220 : lkp mlT 11 220 = some (1, 3, 19, MX11_sings) := by rfl
theorem m_11_224 : lkp mlT 11 224 = some (1, 1, 19, MX11_isAsNow) := by rfl
theorem m_11_229 : lkp mlT 11 229 = some (1, 1, 19, MX11_placeOf) := by rfl
theorem m_11_235 : lkp mlT 11 235 = some (1, 2, 19, MX11_comes) := by rfl
theorem m_11_239 : lkp mlT 11 239 = some (1, 3, 19, MX11_liftedOf) := by rfl
theorem m_11_242 : lkp mlT 11 242 = some (1, 0, 19, MX11_laysFar) := by rfl
theorem m_11_245 : lkp mlT 11 245 = some (1, 1, 19, MX11_farOf) := by rfl
theorem m_11_248 : lkp mlT 11 248 = some (1, 0, 19, MX11_sitsAtFirst) := by rfl
theorem m_11_251 : lkp mlT 11 251 = some (1, 0, 19, MX11_isWanted) := by rfl
theorem m_11_254 : lkp mlT 11 254 = some (1, 4, 19, MX11_isWantedBehind) := by rfl
theorem m_11_258 : lkp mlT 11 258 = some (1, 1, 19, MX11_singsAlone) := by rfl
theorem m_11_261 : lkp mlT 11 261 = some (1, 2, 19, MX11_comesAgain) := by rfl
theorem m_11_264 : lkp mlT 11 264 = some (0, 3, 0, MX11_isWithin) := by rfl
theorem m_11_267 : lkp mlT 11 267 = some (1, 3, 19, MX11_doCross) := by rfl
theorem m_11_270 : lkp mlT 11 270 = some (1, 2, 19, MX11_isFree) := by rfl
theorem m_11_273 : lkp mlT 11 273 = some (1, 1, 19, MX11_ring) := by rfl
theorem m_11_276 : lkp mlT 11 276 = some (1, 1, 19, MX11_isLeast) := by rfl
theorem m_12_9 : lkp mlT 12 9 = some (2, 0, 0, MX10_init) := by rfl
theorem m_12_12 : lkp mlT 12 12 = some (2, 0, 0, MX11_init) := by rfl
theorem m_12_13 : lkp mlT 12 13 = some (1, 1, 18, MX10_state) := by rfl
theorem m_12_17 : lkp mlT 12 17 = some (1, 1, 19, MX11_state) := by rfl
theorem m_12_18 : lkp mlT 12 18 = some (1, 1, 18, MX10_stool) := by rfl
theorem m_12_22 : lkp mlT 12 22 = some (1, 1, 19, MX11_stool) := by rfl
theorem m_12_23 : lkp mlT 12 23 = some (1, 2, 18, MX10_colour) := by rfl
theorem m_12_27 : lkp mlT 12 27 = some (1, 2, 19, MX11_colour) := by rfl
theorem m_12_28 : lkp mlT 12 28 = some (1, 1, 18, MX10_slip) := by rfl
theorem m_12_31 : lkp mlT 12 31 = some (1, 1, 19, MX11_slip) := by rfl
theorem m_12_32 : lkp mlT 12 32 = some (1, 5, 18, MX10_feed) := by rfl
theorem m_12_36 : lkp mlT 12 36 = some (1, 5, 19, MX11_feed) := by rfl
theorem m_12_37 : lkp mlT 12 37 = some (1, 1, 18, MX10_end) := by rfl
theorem m_12_40 : lkp mlT 12 40 = some (1, 1, 19, MX11_end) := by rfl
theorem m_12_41 : lkp mlT 12 41 = some (1, 1, 18, MX10_text) := by rfl
theorem m_12_44 : lkp mlT 12 44 = some (1, 1, 19, MX11_text) := by rfl
theorem m_12_45 : lkp mlT 12 45 = some (1, 1, 18, MX10_fault) := by rfl
theorem m_12_48 : lkp mlT 12 48 = some (1, 1, 19, MX11_fault) := by rfl
theorem m_12_49 : lkp mlT 12 49 = some (1, 2, 18, MX10_sing) := by rfl
theorem m_12_53 : lkp mlT 12 53 = some (1, 2, 19, MX11_sing) := by rfl
theorem m_12_54 : lkp mlT 12 54 = some (1, 2, 18, MX10_at) := by rfl
theorem m_12_57 : lkp mlT 12 57 = some (1, 2, 19, MX11_at) := by rfl
theorem m_12_58 : lkp mlT 12 58 = some (1, 2, 18, MX10_of) := by rfl
theorem m_12_61 : lkp mlT 12 61 = some (1, 2, 19, MX11_of) := by rfl
theorem m_12_62 : lkp mlT 12 62 = some (1, 2, 18, MX10_over) := by rfl
theorem m_12_65 : lkp mlT 12 65 = some (1, 2, 19, MX11_over) := by rfl
theorem m_12_66 : lkp mlT 12 66 = some (1, 2, 18, MX10_outside) := by rfl
theorem m_12_69 : lkp mlT 12 69 = some (1, 2, 19, MX11_outside) := by rfl
theorem m_12_70 : lkp mlT 12 70 = some (1, 2, 18, MX10_back) := by rfl
theorem m_12_73 : lkp mlT 12 73 = some (1, 2, 19, MX11_back) := by rfl
theorem m_12_74 : lkp mlT 12 74 = some (1, 4, 18, MX10_where) := by rfl
theorem m_12_78 : lkp mlT 12 78 = some (1, 4, 19, MX11_where) := by rfl
theorem m_12_79 : lkp mlT 12 79 = some (1, 2, 18, MX10_want) := by rfl
theorem m_12_82 : lkp mlT 12 82 = some (1, 2, 19, MX11_want) := by rfl
theorem m_12_83 : lkp mlT 12 83 = some (1, 1, 18, MX10_fewest) := by rfl
theorem m_12_86 : lkp mlT 12 86 = some (1, 1, 19, MX11_fewest) := by rfl
theorem m_12_87 : lkp mlT 12 87 = some (1, 1, 18, MX10_cut) := by rfl
theorem m_12_90 : lkp mlT 12 90 = some (1, 1, 19, MX11_cut) := by rfl
theorem m_12_91 : lkp mlT 12 91 = some (1, 3, 18, MX10_dropped) := by rfl
theorem m_12_95 : lkp mlT 12 95 = some (1, 3, 19, MX11_dropped) := by rfl
theorem m_12_96 : lkp mlT 12 96 = some (1, 2, 18, MX10_beats) := by rfl
theorem m_12_99 : lkp mlT 12 99 = some (1, 2, 19, MX11_beats) := by rfl
theorem m_12_100 : lkp mlT 12 100 = some (1, 2, 18, MX10_name) := by rfl
theorem m_12_103 : lkp mlT 12 103 = some (1, 2, 19, MX11_name) := by rfl
theorem m_12_104 : lkp mlT 12 104 = some (1, 1, 18, MX10_lay) := by rfl
theorem m_12_107 : lkp mlT 12 107 = some (1, 1, 19, MX11_lay) := by rfl
theorem m_12_108 : lkp mlT 12 108 = some (1, 1, 18, MX10_pulled) := by rfl
theorem m_12_111 : lkp mlT 12 111 = some (1, 1, 19, MX11_pulled) := by rfl
theorem m_12_112 : lkp mlT 12 112 = some (1, 1, 18, MX10_loops) := by rfl
theorem m_12_115 : lkp mlT 12 115 = some (1, 1, 19, MX11_loops) := by rfl
theorem m_12_116 : lkp mlT 12 116 = some (1, 2, 18, MX10_alike) := by rfl
theorem m_12_119 : lkp mlT 12 119 = some (1, 2, 19, MX11_alike) := by rfl
theorem m_12_120 : lkp mlT 12 120 = some (1, 1, 18, MX10_period) := by rfl
theorem m_12_123 : lkp mlT 12 123 = some (1, 1, 19, MX11_period) := by rfl
theorem m_12_124 : lkp mlT 12 124 = some (1, 0, 18, MX10_undo) := by rfl
theorem m_12_128 : lkp mlT 12 128 = some (1, 0, 19, MX11_undo) := by rfl
theorem m_12_129 : lkp mlT 12 129 = some (1, 1, 18, MX10_image) := by rfl
theorem m_12_133 : lkp mlT 12 133 = some (1, 1, 19, MX11_image) := by rfl
theorem m_12_134 : lkp mlT 12 134 = some (1, 1, 18, MX10_look) := by rfl
theorem m_12_137 : lkp mlT 12 137 = some (1, 1, 19, MX11_look) := by rfl
theorem f_0_9 : lkp flT 0 9 = some (0, 0) := by rfl
theorem f_0_15 : lkp flT 0 15 = some (0, 1) := by rfl
theorem f_0_24 : lkp flT 0 24 = some (5, 0) := by rfl
theorem f_0_30 : lkp flT 0 30 = some (5, 1) := by rfl
theorem f_1_15 : lkp flT 1 15 = some (1, 0) := by rfl
theorem f_1_21 : lkp flT 1 21 = some (1, 1) := by rfl
theorem f_1_25 : lkp flT 1 25 = some (1, 2) := by rfl
theorem f_1_28 : lkp flT 1 28 = some (1, 3) := by rfl
theorem f_1_31 : lkp flT 1 31 = some (1, 4) := by rfl
theorem f_1_35 : lkp flT 1 35 = some (1, 5) := by rfl
theorem f_1_52 : lkp flT 1 52 = some (5, 0) := by rfl
theorem f_1_57 : lkp flT 1 57 = some (5, 1) := by rfl
theorem f_2_9 : lkp flT 2 9 = some (2, 0) := by rfl
theorem f_2_15 : lkp flT 2 15 = some (2, 1) := by rfl
theorem f_2_20 : lkp flT 2 20 = some (2, 2) := by rfl
theorem f_3_11 : lkp flT 3 11 = some (3, 0) := by rfl
theorem f_5_9 : lkp flT 5 9 = some (4, 0) := by rfl
theorem f_5_15 : lkp flT 5 15 = some (4, 1) := by rfl
theorem f_5_21 : lkp flT 5 21 = some (4, 2) := by rfl
theorem f_5_28 : lkp flT 5 28 = some (4, 3) := by rfl
theorem f_5_32 : lkp flT 5 32 = some (4, 4) := by rfl
theorem f_5_35 : lkp flT 5 35 = some (4, 5) := by rfl
theorem f_5_38 : lkp flT 5 38 = some (4, 6) := by rfl
theorem f_5_41 : lkp flT 5 41 = some (4, 7) := by rfl
theorem f_5_44 : lkp flT 5 44 = some (4, 8) := by rfl
theorem f_5_48 : lkp flT 5 48 = some (4, 9) := by rfl
theorem f_5_51 : lkp flT 5 51 = some (4, 10) := by rfl
theorem f_5_55 : lkp flT 5 55 = some (4, 11) := by rfl
theorem f_5_61 : lkp flT 5 61 = some (5, 0) := by rfl
theorem f_5_64 : lkp flT 5 64 = some (7, 1) := by rfl
theorem f_5_93 : lkp flT 5 93 = some (7, 3) := by rfl
theorem f_5_96 : lkp flT 5 96 = some (7, 2) := by rfl
theorem f_5_99 : lkp flT 5 99 = some (7, 4) := by rfl
theorem f_5_123 : lkp flT 5 123 = some (5, 1) := by rfl
theorem f_7_9 : lkp flT 7 9 = some (5, 0) := by rfl
theorem f_7_15 : lkp flT 7 15 = some (5, 1) := by rfl
theorem f_8_9 : lkp flT 8 9 = some (6, 0) := by rfl
theorem f_8_15 : lkp flT 8 15 = some (6, 1) := by rfl
theorem f_8_18 : lkp flT 8 18 = some (6, 2) := by rfl
theorem f_8_22 : lkp flT 8 22 = some (6, 3) := by rfl
theorem f_8_25 : lkp flT 8 25 = some (6, 4) := by rfl
theorem f_8_31 : lkp flT 8 31 = some (6, 5) := by rfl
theorem f_8_38 : lkp flT 8 38 = some (6, 6) := by rfl
theorem f_8_42 : lkp flT 8 42 = some (6, 7) := by rfl
theorem f_8_45 : lkp flT 8 45 = some (6, 8) := by rfl
theorem f_8_55 : lkp flT 8 55 = some (5, 0) := by rfl
theorem f_8_85 : lkp flT 8 85 = some (5, 1) := by rfl
theorem f_8_88 : lkp flT 8 88 = some (1, 0) := by rfl
theorem f_8_111 : lkp flT 8 111 = some (1, 3) := by rfl
theorem f_9_9 : lkp flT 9 9 = some (7, 0) := by rfl
theorem f_9_15 : lkp flT 9 15 = some (7, 1) := by rfl
theorem f_9_18 : lkp flT 9 18 = some (7, 2) := by rfl
theorem f_9_22 : lkp flT 9 22 = some (7, 3) := by rfl
theorem f_9_25 : lkp flT 9 25 = some (7, 4) := by rfl
theorem f_9_28 : lkp flT 9 28 = some (7, 5) := by rfl
theorem f_10_10 : lkp flT 10 10 = some (8, 0) := by rfl
theorem f_10_19 : lkp flT 10 19 = some (8, 1) := by rfl
theorem f_10_26 : lkp flT 10 26 = some (8, 2) := by rfl
theorem f_10_33 : lkp flT 10 33 = some (8, 3) := by rfl
theorem f_10_40 : lkp flT 10 40 = some (8, 4) := by rfl
theorem f_10_47 : lkp flT 10 47 = some (8, 5) := by rfl
theorem f_10_51 : lkp flT 10 51 = some (8, 6) := by rfl
theorem f_10_54 : lkp flT 10 54 = some (8, 7) := by rfl
theorem f_10_57 : lkp flT 10 57 = some (6, 6) := by rfl
theorem f_10_60 : lkp flT 10 60 = some (1, 1) := by rfl
theorem f_10_78 : lkp flT 10 78 = some (6, 2) := by rfl
theorem f_10_88 : lkp flT 10 88 = some (6, 1) := by rfl
theorem f_10_91 : lkp flT 10 91 = some (4, 2) := by rfl
theorem f_10_95 : lkp flT 10 95 = some (7, 0) := by rfl
theorem f_10_109 : lkp flT 10 109 = some (6, 0) := by rfl
theorem f_10_115 : lkp flT 10 115 = some (6, 5) := by rfl
theorem f_10_119 : lkp flT 10 119 = some (4, 3) := by rfl
theorem f_10_129 : lkp flT 10 129 = some (5, 0) := by rfl
theorem f_10_132 : lkp flT 10 132 = some (4, 0) := by rfl
theorem f_10_135 : lkp flT 10 135 = some (4, 1) := by rfl
theorem f_10_146 : lkp flT 10 146 = some (1, 0) := by rfl
theorem f_10_157 : lkp flT 10 157 = some (1, 4) := by rfl
theorem f_10_165 : lkp flT 10 165 = some (1, 3) := by rfl
theorem f_10_189 : lkp flT 10 189 = some (6, 3) := by rfl
theorem f_10_223 : lkp flT 10 223 = some (6, 4) := by rfl
theorem f_10_263 : lkp flT 10 263 = some (1, 2) := by rfl
theorem f_10_266 : lkp flT 10 266 = some (2, 0) := by rfl
theorem f_11_7 : lkp flT 11 7 = some (9, 0) := by rfl
theorem f_11_13 : lkp flT 11 13 = some (9, 1) := by rfl
theorem f_11_16 : lkp flT 11 16 = some (9, 2) := by rfl
theorem f_11_19 : lkp flT 11 19 = some (9, 5) := by rfl
theorem f_11_22 : lkp flT 11 22 = some (9, 6) := by rfl
theorem f_11_25 : lkp flT 11 25 = some (9, 16) := by rfl
theorem f_11_29 : lkp flT 11 29 = some (9, 17) := by rfl
theorem f_11_32 : lkp flT 11 32 = some (9, 18) := by rfl
theorem f_11_35 : lkp flT 11 35 = some (9, 19) := by rfl
theorem f_11_38 : lkp flT 11 38 = some (9, 20) := by rfl
theorem f_11_41 : lkp flT 11 41 = some (9, 21) := by rfl
theorem f_11_44 : lkp flT 11 44 = some (9, 22) := by rfl
theorem f_11_47 : lkp flT 11 47 = some (9, 24) := by rfl
theorem f_11_50 : lkp flT 11 50 = some (9, 25) := by rfl
theorem f_11_53 : lkp flT 11 53 = some (9, 26) := by rfl
theorem f_11_56 : lkp flT 11 56 = some (9, 27) := by rfl
theorem f_11_59 : lkp flT 11 59 = some (9, 28) := by rfl
theorem f_11_62 : lkp flT 11 62 = some (9, 29) := by rfl
theorem f_11_69 : lkp flT 11 69 = some (9, 3) := by rfl
theorem f_11_82 : lkp flT 11 82 = some (9, 8) := by rfl
theorem f_11_85 : lkp flT 11 85 = some (9, 9) := by rfl
theorem f_11_88 : lkp flT 11 88 = some (9, 11) := by rfl
theorem f_11_121 : lkp flT 11 121 = some (9, 10) := by rfl
theorem f_11_133 : lkp flT 11 133 = some (9, 12) := by rfl
theorem f_11_136 : lkp flT 11 136 = some (9, 13) := by rfl
theorem f_11_139 : lkp flT 11 139 = some (9, 14) := by rfl
theorem f_11_148 : lkp flT 11 148 = some (9, 7) := by rfl
theorem f_11_175 : lkp flT 11 175 = some (9, 15) := by rfl
theorem f_11_232 : lkp flT 11 232 = some (9, 23) := by rfl
theorem f_11_279 : lkp flT 11 279 = some (9, 4) := by rfl
