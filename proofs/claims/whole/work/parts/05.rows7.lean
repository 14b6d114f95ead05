theorem dX7_init_0 : decode cX7_init 0 = .ok (.aload_n 0, 1) := by decide +kernel
theorem dX7_init_1 : decode cX7_init 1 = .ok (.invokespecial 1, 3) := by decide +kernel
theorem dX7_init_4 : decode cX7_init 4 = .ok (.aload_n 0, 1) := by decide +kernel
theorem dX7_init_5 : decode cX7_init 5 = .ok (.iconst 2, 1) := by decide +kernel
theorem dX7_init_6 : decode cX7_init 6 = .ok (.newarray .int, 2) := by decide +kernel
theorem dX7_init_8 : decode cX7_init 8 = .ok (.putfield 7, 3) := by decide +kernel
theorem dX7_init_11 : decode cX7_init 11 = .ok (.aload_n 0, 1) := by decide +kernel
theorem dX7_init_12 : decode cX7_init 12 = .ok (.iconst 2, 1) := by decide +kernel
theorem dX7_init_13 : decode cX7_init 13 = .ok (.newarray .int, 2) := by decide +kernel
theorem dX7_init_15 : decode cX7_init 15 = .ok (.putfield 13, 3) := by decide +kernel
theorem dX7_init_18 : decode cX7_init 18 = .ok (.aload_n 0, 1) := by decide +kernel
theorem dX7_init_19 : decode cX7_init 19 = .ok (.iconst 2, 1) := by decide +kernel
theorem dX7_init_20 : decode cX7_init 20 = .ok (.newarray .int, 2) := by decide +kernel
theorem dX7_init_22 : decode cX7_init 22 = .ok (.putfield 16, 3) := by decide +kernel
theorem dX7_init_25 : decode cX7_init 25 = .ok (.aload_n 0, 1) := by decide +kernel
theorem dX7_init_26 : decode cX7_init 26 = .ok (.bipush 14, 2) := by decide +kernel
theorem dX7_init_28 : decode cX7_init 28 = .ok (.newarray .boolean, 2) := by decide +kernel
theorem dX7_init_30 : decode cX7_init 30 = .ok (.putfield 19, 3) := by decide +kernel
theorem dX7_init_33 : decode cX7_init 33 = .ok (.aload_n 0, 1) := by decide +kernel
theorem dX7_init_34 : decode cX7_init 34 = .ok (.bipush 14, 2) := by decide +kernel
theorem dX7_init_36 : decode cX7_init 36 = .ok (.newarray .boolean, 2) := by decide +kernel
theorem dX7_init_38 : decode cX7_init 38 = .ok (.putfield 23, 3) := by decide +kernel
theorem dX7_init_41 : decode cX7_init 41 = .ok (.aload_n 0, 1) := by decide +kernel
theorem dX7_init_42 : decode cX7_init 42 = .ok (.bipush 14, 2) := by decide +kernel
theorem dX7_init_44 : decode cX7_init 44 = .ok (.newarray .int, 2) := by decide +kernel
theorem dX7_init_46 : decode cX7_init 46 = .ok (.putfield 26, 3) := by decide +kernel
theorem dX7_init_49 : decode cX7_init 49 = .ok (.aload_n 0, 1) := by decide +kernel
theorem dX7_init_50 : decode cX7_init 50 = .ok (.bipush 56, 2) := by decide +kernel
theorem dX7_init_52 : decode cX7_init 52 = .ok (.newarray .boolean, 2) := by decide +kernel
theorem dX7_init_54 : decode cX7_init 54 = .ok (.putfield 29, 3) := by decide +kernel
theorem dX7_init_57 : decode cX7_init 57 = .ok (.aload_n 0, 1) := by decide +kernel
theorem dX7_init_58 : decode cX7_init 58 = .ok (.bipush 42, 2) := by decide +kernel
theorem dX7_init_60 : decode cX7_init 60 = .ok (.newarray .int, 2) := by decide +kernel
theorem dX7_init_62 : decode cX7_init 62 = .ok (.putfield 32, 3) := by decide +kernel
theorem dX7_init_65 : decode cX7_init 65 = .ok (.aload_n 0, 1) := by decide +kernel
theorem dX7_init_66 : decode cX7_init 66 = .ok (.bipush 42, 2) := by decide +kernel
theorem dX7_init_68 : decode cX7_init 68 = .ok (.newarray .int, 2) := by decide +kernel
theorem dX7_init_70 : decode cX7_init 70 = .ok (.putfield 35, 3) := by decide +kernel
theorem dX7_init_73 : decode cX7_init 73 = .ok (.aload_n 0, 1) := by decide +kernel
theorem dX7_init_74 : decode cX7_init 74 = .ok (.bipush 24, 2) := by decide +kernel
theorem dX7_init_76 : decode cX7_init 76 = .ok (.newarray .int, 2) := by decide +kernel
theorem dX7_init_78 : decode cX7_init 78 = .ok (.putfield 38, 3) := by decide +kernel
theorem dX7_init_81 : decode cX7_init 81 = .ok (.aload_n 0, 1) := by decide +kernel
theorem dX7_init_82 : decode cX7_init 82 = .ok (.bipush 120, 2) := by decide +kernel
theorem dX7_init_84 : decode cX7_init 84 = .ok (.newarray .char, 2) := by decide +kernel
theorem dX7_init_86 : decode cX7_init 86 = .ok (.putfield 41, 3) := by decide +kernel
theorem dX7_init_89 : decode cX7_init 89 = .ok (.aload_n 0, 1) := by decide +kernel
theorem dX7_init_90 : decode cX7_init 90 = .ok (.bipush 120, 2) := by decide +kernel
theorem dX7_init_92 : decode cX7_init 92 = .ok (.newarray .int, 2) := by decide +kernel
theorem dX7_init_94 : decode cX7_init 94 = .ok (.putfield 45, 3) := by decide +kernel
theorem dX7_init_97 : decode cX7_init 97 = .ok (.aload_n 0, 1) := by decide +kernel
theorem dX7_init_98 : decode cX7_init 98 = .ok (.bipush 120, 2) := by decide +kernel
theorem dX7_init_100 : decode cX7_init 100 = .ok (.newarray .int, 2) := by decide +kernel
theorem dX7_init_102 : decode cX7_init 102 = .ok (.putfield 48, 3) := by decide +kernel
theorem dX7_init_105 : decode cX7_init 105 = .ok (.aload_n 0, 1) := by decide +kernel
theorem dX7_init_106 : decode cX7_init 106 = .ok (.bipush 120, 2) := by decide +kernel
theorem dX7_init_108 : decode cX7_init 108 = .ok (.newarray .int, 2) := by decide +kernel
theorem dX7_init_110 : decode cX7_init 110 = .ok (.putfield 51, 3) := by decide +kernel
theorem dX7_init_113 : decode cX7_init 113 = .ok (.aload_n 0, 1) := by decide +kernel
theorem dX7_init_114 : decode cX7_init 114 = .ok (.bipush 120, 2) := by decide +kernel
theorem dX7_init_116 : decode cX7_init 116 = .ok (.newarray .int, 2) := by decide +kernel
theorem dX7_init_118 : decode cX7_init 118 = .ok (.putfield 54, 3) := by decide +kernel
theorem dX7_init_121 : decode cX7_init 121 = .ok (.aload_n 0, 1) := by decide +kernel
theorem dX7_init_122 : decode cX7_init 122 = .ok (.bipush 120, 2) := by decide +kernel
theorem dX7_init_124 : decode cX7_init 124 = .ok (.newarray .boolean, 2) := by decide +kernel
theorem dX7_init_126 : decode cX7_init 126 = .ok (.putfield 57, 3) := by decide +kernel
theorem dX7_init_129 : decode cX7_init 129 = .ok (.aload_n 0, 1) := by decide +kernel
theorem dX7_init_130 : decode cX7_init 130 = .ok (.bipush 20, 2) := by decide +kernel
theorem dX7_init_132 : decode cX7_init 132 = .ok (.newarray .int, 2) := by decide +kernel
theorem dX7_init_134 : decode cX7_init 134 = .ok (.putfield 60, 3) := by decide +kernel
theorem dX7_init_137 : decode cX7_init 137 = .ok (.aload_n 0, 1) := by decide +kernel
theorem dX7_init_138 : decode cX7_init 138 = .ok (.bipush 20, 2) := by decide +kernel
theorem dX7_init_140 : decode cX7_init 140 = .ok (.newarray .int, 2) := by decide +kernel
theorem dX7_init_142 : decode cX7_init 142 = .ok (.putfield 63, 3) := by decide +kernel
theorem dX7_init_145 : decode cX7_init 145 = .ok (.aload_n 0, 1) := by decide +kernel
theorem dX7_init_146 : decode cX7_init 146 = .ok (.bipush 20, 2) := by decide +kernel
theorem dX7_init_148 : decode cX7_init 148 = .ok (.newarray .int, 2) := by decide +kernel
theorem dX7_init_150 : decode cX7_init 150 = .ok (.putfield 66, 3) := by decide +kernel
theorem dX7_init_153 : decode cX7_init 153 = .ok (.aload_n 0, 1) := by decide +kernel
theorem dX7_init_154 : decode cX7_init 154 = .ok (.bipush 20, 2) := by decide +kernel
theorem dX7_init_156 : decode cX7_init 156 = .ok (.newarray .int, 2) := by decide +kernel
theorem dX7_init_158 : decode cX7_init 158 = .ok (.putfield 69, 3) := by decide +kernel
theorem dX7_init_161 : decode cX7_init 161 = .ok (.aload_n 0, 1) := by decide +kernel
theorem dX7_init_162 : decode cX7_init 162 = .ok (.bipush 20, 2) := by decide +kernel
theorem dX7_init_164 : decode cX7_init 164 = .ok (.newarray .int, 2) := by decide +kernel
theorem dX7_init_166 : decode cX7_init 166 = .ok (.putfield 72, 3) := by decide +kernel
theorem dX7_init_169 : decode cX7_init 169 = .ok (.aload_n 0, 1) := by decide +kernel
theorem dX7_init_170 : decode cX7_init 170 = .ok (.bipush 20, 2) := by decide +kernel
theorem dX7_init_172 : decode cX7_init 172 = .ok (.newarray .boolean, 2) := by decide +kernel
theorem dX7_init_174 : decode cX7_init 174 = .ok (.putfield 75, 3) := by decide +kernel
theorem dX7_init_177 : decode cX7_init 177 = .ok (.aload_n 0, 1) := by decide +kernel
theorem dX7_init_178 : decode cX7_init 178 = .ok (.bipush 8, 2) := by decide +kernel
theorem dX7_init_180 : decode cX7_init 180 = .ok (.newarray .int, 2) := by decide +kernel
theorem dX7_init_182 : decode cX7_init 182 = .ok (.putfield 78, 3) := by decide +kernel
theorem dX7_init_185 : decode cX7_init 185 = .ok (.aload_n 0, 1) := by decide +kernel
theorem dX7_init_186 : decode cX7_init 186 = .ok (.bipush 8, 2) := by decide +kernel
theorem dX7_init_188 : decode cX7_init 188 = .ok (.newarray .int, 2) := by decide +kernel
theorem dX7_init_190 : decode cX7_init 190 = .ok (.putfield 81, 3) := by decide +kernel
theorem dX7_init_193 : decode cX7_init 193 = .ok (.aload_n 0, 1) := by decide +kernel
theorem dX7_init_194 : decode cX7_init 194 = .ok (.bipush 8, 2) := by decide +kernel
theorem dX7_init_196 : decode cX7_init 196 = .ok (.newarray .char, 2) := by decide +kernel
theorem dX7_init_198 : decode cX7_init 198 = .ok (.putfield 84, 3) := by decide +kernel
theorem dX7_init_201 : decode cX7_init 201 = .ok (.aload_n 0, 1) := by decide +kernel
theorem dX7_init_202 : decode cX7_init 202 = .ok (.bipush 16, 2) := by decide +kernel
theorem dX7_init_204 : decode cX7_init 204 = .ok (.newarray .char, 2) := by decide +kernel
theorem dX7_init_206 : decode cX7_init 206 = .ok (.putfield 87, 3) := by decide +kernel
theorem dX7_init_209 : decode cX7_init 209 = .ok (.aload_n 0, 1) := by decide +kernel
theorem dX7_init_210 : decode cX7_init 210 = .ok (.iconst 4, 1) := by decide +kernel
theorem dX7_init_211 : decode cX7_init 211 = .ok (.newarray .int, 2) := by decide +kernel
theorem dX7_init_213 : decode cX7_init 213 = .ok (.putfield 90, 3) := by decide +kernel
theorem dX7_init_216 : decode cX7_init 216 = .ok (.aload_n 0, 1) := by decide +kernel
theorem dX7_init_217 : decode cX7_init 217 = .ok (.iconst 4, 1) := by decide +kernel
theorem dX7_init_218 : decode cX7_init 218 = .ok (.newarray .int, 2) := by decide +kernel
theorem dX7_init_220 : decode cX7_init 220 = .ok (.putfield 93, 3) := by decide +kernel
theorem dX7_init_223 : decode cX7_init 223 = .ok (.aload_n 0, 1) := by decide +kernel
theorem dX7_init_224 : decode cX7_init 224 = .ok (.iconst 0, 1) := by decide +kernel
theorem dX7_init_225 : decode cX7_init 225 = .ok (.iconst 3, 1) := by decide +kernel
theorem dX7_init_226 : decode cX7_init 226 = .ok (.bipush 100, 2) := by decide +kernel
theorem dX7_init_228 : decode cX7_init 228 = .ok (.invokevirtual 96, 3) := by decide +kernel
theorem dX7_init_231 : decode cX7_init 231 = .ok (.aload_n 0, 1) := by decide +kernel
theorem dX7_init_232 : decode cX7_init 232 = .ok (.iconst 1, 1) := by decide +kernel
theorem dX7_init_233 : decode cX7_init 233 = .ok (.iconst 3, 1) := by decide +kernel
theorem dX7_init_234 : decode cX7_init 234 = .ok (.bipush 100, 2) := by decide +kernel
theorem dX7_init_236 : decode cX7_init 236 = .ok (.invokevirtual 96, 3) := by decide +kernel
theorem dX7_init_239 : decode cX7_init 239 = .ok (.return_, 1) := by decide +kernel
theorem dX7_thrown_0 : decode cX7_thrown 0 = .ok (.aload_n 0, 1) := by decide +kernel
theorem dX7_thrown_1 : decode cX7_thrown 1 = .ok (.getfield 100, 3) := by decide +kernel
theorem dX7_thrown_4 : decode cX7_thrown 4 = .ok (.ireturn, 1) := by decide +kernel
theorem dX7_no_0 : decode cX7_no 0 = .ok (.aload_n 0, 1) := by decide +kernel
theorem dX7_no_1 : decode cX7_no 1 = .ok (.iload_n 1, 1) := by decide +kernel
theorem dX7_no_2 : decode cX7_no 2 = .ok (.ifCond .eq 7, 3) := by decide +kernel
theorem dX7_no_5 : decode cX7_no 5 = .ok (.iconst 0, 1) := by decide +kernel
theorem dX7_no_6 : decode cX7_no 6 = .ok (.goto 4, 3) := by decide +kernel
theorem dX7_no_9 : decode cX7_no 9 = .ok (.iload_n 2, 1) := by decide +kernel
theorem dX7_no_10 : decode cX7_no 10 = .ok (.putfield 100, 3) := by decide +kernel
theorem dX7_no_13 : decode cX7_no 13 = .ok (.iload_n 1, 1) := by decide +kernel
theorem dX7_no_14 : decode cX7_no 14 = .ok (.ifCond .ne 7, 3) := by decide +kernel
theorem dX7_no_17 : decode cX7_no 17 = .ok (.iconst 1, 1) := by decide +kernel
theorem dX7_no_18 : decode cX7_no 18 = .ok (.goto 4, 3) := by decide +kernel
theorem dX7_no_21 : decode cX7_no 21 = .ok (.iconst 0, 1) := by decide +kernel
theorem dX7_no_22 : decode cX7_no 22 = .ok (.ireturn, 1) := by decide +kernel
theorem dX7_isIn_0 : decode cX7_isIn 0 = .ok (.iload_n 0, 1) := by decide +kernel
theorem dX7_isIn_1 : decode cX7_isIn 1 = .ok (.iload_n 1, 1) := by decide +kernel
theorem dX7_isIn_2 : decode cX7_isIn 2 = .ok (.if_icmp .lt 12, 3) := by decide +kernel
theorem dX7_isIn_5 : decode cX7_isIn 5 = .ok (.iload_n 0, 1) := by decide +kernel
theorem dX7_isIn_6 : decode cX7_isIn 6 = .ok (.iload_n 2, 1) := by decide +kernel
theorem dX7_isIn_7 : decode cX7_isIn 7 = .ok (.if_icmp .gt 7, 3) := by decide +kernel
theorem dX7_isIn_10 : decode cX7_isIn 10 = .ok (.iconst 1, 1) := by decide +kernel
theorem dX7_isIn_11 : decode cX7_isIn 11 = .ok (.goto 4, 3) := by decide +kernel
theorem dX7_isIn_14 : decode cX7_isIn 14 = .ok (.iconst 0, 1) := by decide +kernel
theorem dX7_isIn_15 : decode cX7_isIn 15 = .ok (.ireturn, 1) := by decide +kernel
theorem dX7_isCastle_0 : decode cX7_isCastle 0 = .ok (.iload_n 0, 1) := by decide +kernel
theorem dX7_isCastle_1 : decode cX7_isCastle 1 = .ok (.ifCond .eq 8, 3) := by decide +kernel
theorem dX7_isCastle_4 : decode cX7_isCastle 4 = .ok (.iload_n 0, 1) := by decide +kernel
theorem dX7_isCastle_5 : decode cX7_isCastle 5 = .ok (.iconst 1, 1) := by decide +kernel
theorem dX7_isCastle_6 : decode cX7_isCastle 6 = .ok (.if_icmp .ne 7, 3) := by decide +kernel
theorem dX7_isCastle_9 : decode cX7_isCastle 9 = .ok (.iconst 1, 1) := by decide +kernel
theorem dX7_isCastle_10 : decode cX7_isCastle 10 = .ok (.goto 4, 3) := by decide +kernel
theorem dX7_isCastle_13 : decode cX7_isCastle 13 = .ok (.iconst 0, 1) := by decide +kernel
theorem dX7_isCastle_14 : decode cX7_isCastle 14 = .ok (.ireturn, 1) := by decide +kernel
set_option maxRecDepth 20000 in
theorem ggX7_isLord_X7_isIn : GoodIn wsX7_isLord wsX7_isIn := goodIn_r _ [4] (by decide +kernel) (by decide +kernel)
set_option maxRecDepth 20000 in
theorem gX7_isLord_X7_isIn : GoodIn wsX7_isLord (va_wsS RX7 104 yX7_isIn wsX7_isIn) := goodIn_app (goodIn_of _ (by decide +kernel)) ggX7_isLord_X7_isIn
theorem dX7_isLord_0 : decode cX7_isLord 0 = .ok (.iload_n 0, 1) := by decide +kernel
theorem dX7_isLord_1 : decode cX7_isLord 1 = .ok (.iconst 0, 1) := by decide +kernel
theorem dX7_isLord_2 : decode cX7_isLord 2 = .ok (.iconst 3, 1) := by decide +kernel
theorem dX7_isLord_3 : decode cX7_isLord 3 = .ok (.invokestatic 104, 3) := by decide +kernel
theorem dX7_isLord_6 : decode cX7_isLord 6 = .ok (.ireturn, 1) := by decide +kernel
set_option maxRecDepth 20000 in
theorem ggX7_isGate_X7_isIn : GoodIn wsX7_isGate wsX7_isIn := goodIn_r _ [4] (by decide +kernel) (by decide +kernel)
set_option maxRecDepth 20000 in
theorem gX7_isGate_X7_isIn : GoodIn wsX7_isGate (va_wsS RX7 104 yX7_isIn wsX7_isIn) := goodIn_app (goodIn_of _ (by decide +kernel)) ggX7_isGate_X7_isIn
theorem dX7_isGate_0 : decode cX7_isGate 0 = .ok (.iload_n 0, 1) := by decide +kernel
theorem dX7_isGate_1 : decode cX7_isGate 1 = .ok (.iconst 0, 1) := by decide +kernel
theorem dX7_isGate_2 : decode cX7_isGate 2 = .ok (.iconst 2, 1) := by decide +kernel
theorem dX7_isGate_3 : decode cX7_isGate 3 = .ok (.invokestatic 104, 3) := by decide +kernel
theorem dX7_isGate_6 : decode cX7_isGate 6 = .ok (.ireturn, 1) := by decide +kernel
set_option maxRecDepth 20000 in
theorem ggX7_isTower_X7_isCastle : GoodIn wsX7_isTower wsX7_isCastle := goodIn_r _ [5] (by decide +kernel) (by decide +kernel)
set_option maxRecDepth 20000 in
theorem gX7_isTower_X7_isCastle : GoodIn wsX7_isTower (va_wsS RX7 108 yX7_isCastle wsX7_isCastle) := goodIn_app (goodIn_of _ (by decide +kernel)) ggX7_isTower_X7_isCastle
set_option maxRecDepth 20000 in
theorem ggX7_isTower_X7_isIn : GoodIn wsX7_isTower wsX7_isIn := goodIn_r _ [8] (by decide +kernel) (by decide +kernel)
set_option maxRecDepth 20000 in
theorem gX7_isTower_X7_isIn : GoodIn wsX7_isTower (va_wsS RX7 104 yX7_isIn wsX7_isIn) := goodIn_app (goodIn_of _ (by decide +kernel)) ggX7_isTower_X7_isIn
theorem dX7_isTower_0 : decode cX7_isTower 0 = .ok (.iload_n 1, 1) := by decide +kernel
theorem dX7_isTower_1 : decode cX7_isTower 1 = .ok (.invokestatic 108, 3) := by decide +kernel
theorem dX7_isTower_4 : decode cX7_isTower 4 = .ok (.ifCond .eq 23, 3) := by decide +kernel
theorem dX7_isTower_7 : decode cX7_isTower 7 = .ok (.iload_n 2, 1) := by decide +kernel
theorem dX7_isTower_8 : decode cX7_isTower 8 = .ok (.iconst 0, 1) := by decide +kernel
theorem dX7_isTower_9 : decode cX7_isTower 9 = .ok (.aload_n 0, 1) := by decide +kernel
theorem dX7_isTower_10 : decode cX7_isTower 10 = .ok (.getfield 7, 3) := by decide +kernel
theorem dX7_isTower_13 : decode cX7_isTower 13 = .ok (.iload_n 1, 1) := by decide +kernel
theorem dX7_isTower_14 : decode cX7_isTower 14 = .ok (.iaload, 1) := by decide +kernel
theorem dX7_isTower_15 : decode cX7_isTower 15 = .ok (.iconst 1, 1) := by decide +kernel
theorem dX7_isTower_16 : decode cX7_isTower 16 = .ok (.isub, 1) := by decide +kernel
theorem dX7_isTower_17 : decode cX7_isTower 17 = .ok (.invokestatic 104, 3) := by decide +kernel
theorem dX7_isTower_20 : decode cX7_isTower 20 = .ok (.ifCond .eq 7, 3) := by decide +kernel
theorem dX7_isTower_23 : decode cX7_isTower 23 = .ok (.iconst 1, 1) := by decide +kernel
theorem dX7_isTower_24 : decode cX7_isTower 24 = .ok (.goto 4, 3) := by decide +kernel
theorem dX7_isTower_27 : decode cX7_isTower 27 = .ok (.iconst 0, 1) := by decide +kernel
theorem dX7_isTower_28 : decode cX7_isTower 28 = .ok (.ireturn, 1) := by decide +kernel
set_option maxRecDepth 20000 in
theorem ggX7_isEntry_X7_isCastle : GoodIn wsX7_isEntry wsX7_isCastle := goodIn_r _ [5] (by decide +kernel) (by decide +kernel)
set_option maxRecDepth 20000 in
theorem gX7_isEntry_X7_isCastle : GoodIn wsX7_isEntry (va_wsS RX7 108 yX7_isCastle wsX7_isCastle) := goodIn_app (goodIn_of _ (by decide +kernel)) ggX7_isEntry_X7_isCastle
set_option maxRecDepth 20000 in
theorem ggX7_isEntry_X7_isIn : GoodIn wsX7_isEntry wsX7_isIn := goodIn_r _ [8] (by decide +kernel) (by decide +kernel)
set_option maxRecDepth 20000 in
theorem gX7_isEntry_X7_isIn : GoodIn wsX7_isEntry (va_wsS RX7 104 yX7_isIn wsX7_isIn) := goodIn_app (goodIn_of _ (by decide +kernel)) ggX7_isEntry_X7_isIn
theorem dX7_isEntry_0 : decode cX7_isEntry 0 = .ok (.iload_n 1, 1) := by decide +kernel
theorem dX7_isEntry_1 : decode cX7_isEntry 1 = .ok (.invokestatic 108, 3) := by decide +kernel
theorem dX7_isEntry_4 : decode cX7_isEntry 4 = .ok (.ifCond .eq 23, 3) := by decide +kernel
theorem dX7_isEntry_7 : decode cX7_isEntry 7 = .ok (.iload_n 2, 1) := by decide +kernel
theorem dX7_isEntry_8 : decode cX7_isEntry 8 = .ok (.iconst 0, 1) := by decide +kernel
theorem dX7_isEntry_9 : decode cX7_isEntry 9 = .ok (.aload_n 0, 1) := by decide +kernel
theorem dX7_isEntry_10 : decode cX7_isEntry 10 = .ok (.getfield 16, 3) := by decide +kernel
theorem dX7_isEntry_13 : decode cX7_isEntry 13 = .ok (.iload_n 1, 1) := by decide +kernel
theorem dX7_isEntry_14 : decode cX7_isEntry 14 = .ok (.iaload, 1) := by decide +kernel
theorem dX7_isEntry_15 : decode cX7_isEntry 15 = .ok (.iconst 1, 1) := by decide +kernel
theorem dX7_isEntry_16 : decode cX7_isEntry 16 = .ok (.isub, 1) := by decide +kernel
theorem dX7_isEntry_17 : decode cX7_isEntry 17 = .ok (.invokestatic 104, 3) := by decide +kernel
theorem dX7_isEntry_20 : decode cX7_isEntry 20 = .ok (.ifCond .eq 7, 3) := by decide +kernel
theorem dX7_isEntry_23 : decode cX7_isEntry 23 = .ok (.iconst 1, 1) := by decide +kernel
theorem dX7_isEntry_24 : decode cX7_isEntry 24 = .ok (.goto 4, 3) := by decide +kernel
theorem dX7_isEntry_27 : decode cX7_isEntry 27 = .ok (.iconst 0, 1) := by decide +kernel
theorem dX7_isEntry_28 : decode cX7_isEntry 28 = .ok (.ireturn, 1) := by decide +kernel
theorem dX7_raise_0 : decode cX7_raise 0 = .ok (.aload_n 0, 1) := by decide +kernel
theorem dX7_raise_1 : decode cX7_raise 1 = .ok (.getfield 7, 3) := by decide +kernel
theorem dX7_raise_4 : decode cX7_raise 4 = .ok (.iload_n 1, 1) := by decide +kernel
theorem dX7_raise_5 : decode cX7_raise 5 = .ok (.iload_n 2, 1) := by decide +kernel
theorem dX7_raise_6 : decode cX7_raise 6 = .ok (.iastore, 1) := by decide +kernel
theorem dX7_raise_7 : decode cX7_raise 7 = .ok (.aload_n 0, 1) := by decide +kernel
theorem dX7_raise_8 : decode cX7_raise 8 = .ok (.getfield 13, 3) := by decide +kernel
theorem dX7_raise_11 : decode cX7_raise 11 = .ok (.iload_n 1, 1) := by decide +kernel
theorem dX7_raise_12 : decode cX7_raise 12 = .ok (.iload_n 3, 1) := by decide +kernel
theorem dX7_raise_13 : decode cX7_raise 13 = .ok (.iastore, 1) := by decide +kernel
theorem dX7_raise_14 : decode cX7_raise 14 = .ok (.aload_n 0, 1) := by decide +kernel
theorem dX7_raise_15 : decode cX7_raise 15 = .ok (.getfield 16, 3) := by decide +kernel
theorem dX7_raise_18 : decode cX7_raise 18 = .ok (.iload_n 1, 1) := by decide +kernel
theorem dX7_raise_19 : decode cX7_raise 19 = .ok (.iconst 0, 1) := by decide +kernel
theorem dX7_raise_20 : decode cX7_raise 20 = .ok (.iastore, 1) := by decide +kernel
theorem dX7_raise_21 : decode cX7_raise 21 = .ok (.iconst 0, 1) := by decide +kernel
theorem dX7_raise_22 : decode cX7_raise 22 = .ok (.istore 4, 2) := by decide +kernel
theorem dX7_raise_24 : decode cX7_raise 24 = .ok (.iload 4, 2) := by decide +kernel
theorem dX7_raise_26 : decode cX7_raise 26 = .ok (.bipush 7, 2) := by decide +kernel
theorem dX7_raise_28 : decode cX7_raise 28 = .ok (.if_icmp .ge 101, 3) := by decide +kernel
theorem dX7_raise_31 : decode cX7_raise 31 = .ok (.aload_n 0, 1) := by decide +kernel
theorem dX7_raise_32 : decode cX7_raise 32 = .ok (.getfield 19, 3) := by decide +kernel
theorem dX7_raise_35 : decode cX7_raise 35 = .ok (.iload_n 1, 1) := by decide +kernel
theorem dX7_raise_36 : decode cX7_raise 36 = .ok (.bipush 7, 2) := by decide +kernel
theorem dX7_raise_38 : decode cX7_raise 38 = .ok (.imul, 1) := by decide +kernel
theorem dX7_raise_39 : decode cX7_raise 39 = .ok (.iload 4, 2) := by decide +kernel
theorem dX7_raise_41 : decode cX7_raise 41 = .ok (.iadd, 1) := by decide +kernel
theorem dX7_raise_42 : decode cX7_raise 42 = .ok (.iconst 1, 1) := by decide +kernel
theorem dX7_raise_43 : decode cX7_raise 43 = .ok (.bastore, 1) := by decide +kernel
theorem dX7_raise_44 : decode cX7_raise 44 = .ok (.aload_n 0, 1) := by decide +kernel
theorem dX7_raise_45 : decode cX7_raise 45 = .ok (.getfield 23, 3) := by decide +kernel
theorem dX7_raise_48 : decode cX7_raise 48 = .ok (.iload_n 1, 1) := by decide +kernel
theorem dX7_raise_49 : decode cX7_raise 49 = .ok (.bipush 7, 2) := by decide +kernel
theorem dX7_raise_51 : decode cX7_raise 51 = .ok (.imul, 1) := by decide +kernel
theorem dX7_raise_52 : decode cX7_raise 52 = .ok (.iload 4, 2) := by decide +kernel
theorem dX7_raise_54 : decode cX7_raise 54 = .ok (.iadd, 1) := by decide +kernel
theorem dX7_raise_55 : decode cX7_raise 55 = .ok (.iconst 0, 1) := by decide +kernel
theorem dX7_raise_56 : decode cX7_raise 56 = .ok (.bastore, 1) := by decide +kernel
theorem dX7_raise_57 : decode cX7_raise 57 = .ok (.iconst 0, 1) := by decide +kernel
theorem dX7_raise_58 : decode cX7_raise 58 = .ok (.istore 5, 2) := by decide +kernel
theorem dX7_raise_60 : decode cX7_raise 60 = .ok (.iload 5, 2) := by decide +kernel
theorem dX7_raise_62 : decode cX7_raise 62 = .ok (.iconst 4, 1) := by decide +kernel
theorem dX7_raise_63 : decode cX7_raise 63 = .ok (.if_icmp .ge 27, 3) := by decide +kernel
theorem dX7_raise_66 : decode cX7_raise 66 = .ok (.aload_n 0, 1) := by decide +kernel
theorem dX7_raise_67 : decode cX7_raise 67 = .ok (.getfield 29, 3) := by decide +kernel
theorem dX7_raise_70 : decode cX7_raise 70 = .ok (.iload_n 1, 1) := by decide +kernel
theorem dX7_raise_71 : decode cX7_raise 71 = .ok (.bipush 7, 2) := by decide +kernel
theorem dX7_raise_73 : decode cX7_raise 73 = .ok (.imul, 1) := by decide +kernel
theorem dX7_raise_74 : decode cX7_raise 74 = .ok (.iload 4, 2) := by decide +kernel
theorem dX7_raise_76 : decode cX7_raise 76 = .ok (.iadd, 1) := by decide +kernel
theorem dX7_raise_77 : decode cX7_raise 77 = .ok (.iconst 4, 1) := by decide +kernel
theorem dX7_raise_78 : decode cX7_raise 78 = .ok (.imul, 1) := by decide +kernel
theorem dX7_raise_79 : decode cX7_raise 79 = .ok (.iload 5, 2) := by decide +kernel
theorem dX7_raise_81 : decode cX7_raise 81 = .ok (.iadd, 1) := by decide +kernel
theorem dX7_raise_82 : decode cX7_raise 82 = .ok (.iconst 0, 1) := by decide +kernel
theorem dX7_raise_83 : decode cX7_raise 83 = .ok (.bastore, 1) := by decide +kernel
theorem dX7_raise_84 : decode cX7_raise 84 = .ok (.iinc 5 1, 3) := by decide +kernel
theorem dX7_raise_87 : decode cX7_raise 87 = .ok (.goto (-27), 3) := by decide +kernel
theorem dX7_raise_90 : decode cX7_raise 90 = .ok (.iconst 0, 1) := by decide +kernel
theorem dX7_raise_91 : decode cX7_raise 91 = .ok (.istore 5, 2) := by decide +kernel
theorem dX7_raise_93 : decode cX7_raise 93 = .ok (.iload 5, 2) := by decide +kernel
theorem dX7_raise_95 : decode cX7_raise 95 = .ok (.iconst 3, 1) := by decide +kernel
theorem dX7_raise_96 : decode cX7_raise 96 = .ok (.if_icmp .ge 27, 3) := by decide +kernel
theorem dX7_raise_99 : decode cX7_raise 99 = .ok (.aload_n 0, 1) := by decide +kernel
theorem dX7_raise_100 : decode cX7_raise 100 = .ok (.getfield 35, 3) := by decide +kernel
theorem dX7_raise_103 : decode cX7_raise 103 = .ok (.iload_n 1, 1) := by decide +kernel
theorem dX7_raise_104 : decode cX7_raise 104 = .ok (.bipush 7, 2) := by decide +kernel
theorem dX7_raise_106 : decode cX7_raise 106 = .ok (.imul, 1) := by decide +kernel
theorem dX7_raise_107 : decode cX7_raise 107 = .ok (.iload 4, 2) := by decide +kernel
theorem dX7_raise_109 : decode cX7_raise 109 = .ok (.iadd, 1) := by decide +kernel
theorem dX7_raise_110 : decode cX7_raise 110 = .ok (.iconst 3, 1) := by decide +kernel
theorem dX7_raise_111 : decode cX7_raise 111 = .ok (.imul, 1) := by decide +kernel
theorem dX7_raise_112 : decode cX7_raise 112 = .ok (.iload 5, 2) := by decide +kernel
theorem dX7_raise_114 : decode cX7_raise 114 = .ok (.iadd, 1) := by decide +kernel
theorem dX7_raise_115 : decode cX7_raise 115 = .ok (.iconst 0, 1) := by decide +kernel
theorem dX7_raise_116 : decode cX7_raise 116 = .ok (.iastore, 1) := by decide +kernel
theorem dX7_raise_117 : decode cX7_raise 117 = .ok (.iinc 5 1, 3) := by decide +kernel
theorem dX7_raise_120 : decode cX7_raise 120 = .ok (.goto (-27), 3) := by decide +kernel
theorem dX7_raise_123 : decode cX7_raise 123 = .ok (.iinc 4 1, 3) := by decide +kernel
theorem dX7_raise_126 : decode cX7_raise 126 = .ok (.goto (-102), 3) := by decide +kernel
theorem dX7_raise_129 : decode cX7_raise 129 = .ok (.iconst 0, 1) := by decide +kernel
theorem dX7_raise_130 : decode cX7_raise 130 = .ok (.istore 4, 2) := by decide +kernel
theorem dX7_raise_132 : decode cX7_raise 132 = .ok (.iload 4, 2) := by decide +kernel
theorem dX7_raise_134 : decode cX7_raise 134 = .ok (.bipush 12, 2) := by decide +kernel
theorem dX7_raise_136 : decode cX7_raise 136 = .ok (.if_icmp .ge 23, 3) := by decide +kernel
theorem dX7_raise_139 : decode cX7_raise 139 = .ok (.aload_n 0, 1) := by decide +kernel
theorem dX7_raise_140 : decode cX7_raise 140 = .ok (.getfield 38, 3) := by decide +kernel
theorem dX7_raise_143 : decode cX7_raise 143 = .ok (.iload_n 1, 1) := by decide +kernel
theorem dX7_raise_144 : decode cX7_raise 144 = .ok (.iconst 4, 1) := by decide +kernel
theorem dX7_raise_145 : decode cX7_raise 145 = .ok (.imul, 1) := by decide +kernel
theorem dX7_raise_146 : decode cX7_raise 146 = .ok (.iconst 3, 1) := by decide +kernel
theorem dX7_raise_147 : decode cX7_raise 147 = .ok (.imul, 1) := by decide +kernel
theorem dX7_raise_148 : decode cX7_raise 148 = .ok (.iload 4, 2) := by decide +kernel
theorem dX7_raise_150 : decode cX7_raise 150 = .ok (.iadd, 1) := by decide +kernel
theorem dX7_raise_151 : decode cX7_raise 151 = .ok (.iconst 0, 1) := by decide +kernel
theorem dX7_raise_152 : decode cX7_raise 152 = .ok (.iastore, 1) := by decide +kernel
theorem dX7_raise_153 : decode cX7_raise 153 = .ok (.iinc 4 1, 3) := by decide +kernel
theorem dX7_raise_156 : decode cX7_raise 156 = .ok (.goto (-24), 3) := by decide +kernel
theorem dX7_raise_159 : decode cX7_raise 159 = .ok (.iconst 0, 1) := by decide +kernel
theorem dX7_raise_160 : decode cX7_raise 160 = .ok (.istore 4, 2) := by decide +kernel
theorem dX7_raise_162 : decode cX7_raise 162 = .ok (.iload 4, 2) := by decide +kernel
theorem dX7_raise_164 : decode cX7_raise 164 = .ok (.aload_n 0, 1) := by decide +kernel
theorem dX7_raise_165 : decode cX7_raise 165 = .ok (.getfield 112, 3) := by decide +kernel
theorem dX7_raise_168 : decode cX7_raise 168 = .ok (.if_icmp .ge 42, 3) := by decide +kernel
theorem dX7_raise_171 : decode cX7_raise 171 = .ok (.aload_n 0, 1) := by decide +kernel
theorem dX7_raise_172 : decode cX7_raise 172 = .ok (.getfield 75, 3) := by decide +kernel
theorem dX7_raise_175 : decode cX7_raise 175 = .ok (.iload 4, 2) := by decide +kernel
theorem dX7_raise_177 : decode cX7_raise 177 = .ok (.aload_n 0, 1) := by decide +kernel
theorem dX7_raise_178 : decode cX7_raise 178 = .ok (.getfield 75, 3) := by decide +kernel
theorem dX7_raise_181 : decode cX7_raise 181 = .ok (.iload 4, 2) := by decide +kernel
theorem dX7_raise_183 : decode cX7_raise 183 = .ok (.baload, 1) := by decide +kernel
theorem dX7_raise_184 : decode cX7_raise 184 = .ok (.ifCond .ne 14, 3) := by decide +kernel
theorem dX7_raise_187 : decode cX7_raise 187 = .ok (.aload_n 0, 1) := by decide +kernel
theorem dX7_raise_188 : decode cX7_raise 188 = .ok (.getfield 63, 3) := by decide +kernel
theorem dX7_raise_191 : decode cX7_raise 191 = .ok (.iload 4, 2) := by decide +kernel
theorem dX7_raise_193 : decode cX7_raise 193 = .ok (.iaload, 1) := by decide +kernel
theorem dX7_raise_194 : decode cX7_raise 194 = .ok (.iload_n 1, 1) := by decide +kernel
theorem dX7_raise_195 : decode cX7_raise 195 = .ok (.if_icmp .ne 7, 3) := by decide +kernel
theorem dX7_raise_198 : decode cX7_raise 198 = .ok (.iconst 1, 1) := by decide +kernel
theorem dX7_raise_199 : decode cX7_raise 199 = .ok (.goto 4, 3) := by decide +kernel
theorem dX7_raise_202 : decode cX7_raise 202 = .ok (.iconst 0, 1) := by decide +kernel
theorem dX7_raise_203 : decode cX7_raise 203 = .ok (.bastore, 1) := by decide +kernel
theorem dX7_raise_204 : decode cX7_raise 204 = .ok (.iinc 4 1, 3) := by decide +kernel
theorem dX7_raise_207 : decode cX7_raise 207 = .ok (.goto (-45), 3) := by decide +kernel
theorem dX7_raise_210 : decode cX7_raise 210 = .ok (.return_, 1) := by decide +kernel
theorem dX7_prepared_0 : decode cX7_prepared 0 = .ok (.iconst (-1), 1) := by decide +kernel
theorem dX7_prepared_1 : decode cX7_prepared 1 = .ok (.istore_n 2, 1) := by decide +kernel
theorem dX7_prepared_2 : decode cX7_prepared 2 = .ok (.iconst 0, 1) := by decide +kernel
theorem dX7_prepared_3 : decode cX7_prepared 3 = .ok (.istore_n 3, 1) := by decide +kernel
theorem dX7_prepared_4 : decode cX7_prepared 4 = .ok (.iload_n 3, 1) := by decide +kernel
theorem dX7_prepared_5 : decode cX7_prepared 5 = .ok (.aload_n 0, 1) := by decide +kernel
theorem dX7_prepared_6 : decode cX7_prepared 6 = .ok (.getfield 115, 3) := by decide +kernel
theorem dX7_prepared_9 : decode cX7_prepared 9 = .ok (.if_icmp .ge 30, 3) := by decide +kernel
theorem dX7_prepared_12 : decode cX7_prepared 12 = .ok (.aload_n 0, 1) := by decide +kernel
theorem dX7_prepared_13 : decode cX7_prepared 13 = .ok (.getfield 87, 3) := by decide +kernel
theorem dX7_prepared_16 : decode cX7_prepared 16 = .ok (.iconst 2, 1) := by decide +kernel
theorem dX7_prepared_17 : decode cX7_prepared 17 = .ok (.iload_n 3, 1) := by decide +kernel
theorem dX7_prepared_18 : decode cX7_prepared 18 = .ok (.imul, 1) := by decide +kernel
theorem dX7_prepared_19 : decode cX7_prepared 19 = .ok (.iload_n 1, 1) := by decide +kernel
theorem dX7_prepared_20 : decode cX7_prepared 20 = .ok (.iadd, 1) := by decide +kernel
theorem dX7_prepared_21 : decode cX7_prepared 21 = .ok (.caload, 1) := by decide +kernel
theorem dX7_prepared_22 : decode cX7_prepared 22 = .ok (.bipush 112, 2) := by decide +kernel
theorem dX7_prepared_24 : decode cX7_prepared 24 = .ok (.if_icmp .ne 7, 3) := by decide +kernel
theorem dX7_prepared_27 : decode cX7_prepared 27 = .ok (.iload_n 3, 1) := by decide +kernel
theorem dX7_prepared_28 : decode cX7_prepared 28 = .ok (.goto 4, 3) := by decide +kernel
theorem dX7_prepared_31 : decode cX7_prepared 31 = .ok (.iload_n 2, 1) := by decide +kernel
theorem dX7_prepared_32 : decode cX7_prepared 32 = .ok (.istore_n 2, 1) := by decide +kernel
theorem dX7_prepared_33 : decode cX7_prepared 33 = .ok (.iinc 3 1, 3) := by decide +kernel
theorem dX7_prepared_36 : decode cX7_prepared 36 = .ok (.goto (-32), 3) := by decide +kernel
theorem dX7_prepared_39 : decode cX7_prepared 39 = .ok (.iload_n 2, 1) := by decide +kernel
theorem dX7_prepared_40 : decode cX7_prepared 40 = .ok (.ireturn, 1) := by decide +kernel
set_option maxRecDepth 20000 in
theorem ggX7_build_X7_isCastle : GoodIn wsX7_build wsX7_isCastle := goodIn_r _ [5] (by decide +kernel) (by decide +kernel)
set_option maxRecDepth 20000 in
theorem gX7_build_X7_isCastle : GoodIn wsX7_build (va_wsS RX7 108 yX7_isCastle wsX7_isCastle) := goodIn_app (goodIn_of _ (by decide +kernel)) ggX7_build_X7_isCastle
set_option maxRecDepth 20000 in
theorem ggX7_build_X7_no : GoodIn wsX7_build wsX7_no := goodIn_r _ [9, 10, 34, 35, 36, 37, 38, 39, 40, 41, 42, 43, 44, 45, 46, 47, 48, 49, 50, 51, 52, 53, 54, 55, 56, 57, 58, 59, 60, 61, 62, 63, 64, 65, 66, 67, 68] (by decide +kernel) (by decide +kernel)
set_option maxRecDepth 20000 in
theorem gX7_build_X7_no : GoodIn wsX7_build (wsV RX7 118 RX7 yX7_no wsX7_no) := goodIn_app (goodIn_of _ (by decide +kernel)) ggX7_build_X7_no
set_option maxRecDepth 20000 in
theorem ggX7_build_X7_isIn : GoodIn wsX7_build wsX7_isIn := goodIn_r _ [13] (by decide +kernel) (by decide +kernel)
set_option maxRecDepth 20000 in
theorem gX7_build_X7_isIn : GoodIn wsX7_build (va_wsS RX7 104 yX7_isIn wsX7_isIn) := goodIn_app (goodIn_of _ (by decide +kernel)) ggX7_build_X7_isIn
set_option maxRecDepth 20000 in
theorem ggX7_build_X7_prepared : GoodIn wsX7_build wsX7_prepared := goodIn_r _ [17, 18, 19, 34, 35, 36, 37, 38, 39, 40, 41, 42, 43, 44, 45, 46, 47, 48, 49, 50, 51, 52, 53, 54, 55, 56, 57, 58, 59, 60, 61, 62, 63, 64, 65, 66, 67, 68] (by decide +kernel) (by decide +kernel)
set_option maxRecDepth 20000 in
theorem gX7_build_X7_prepared : GoodIn wsX7_build (wsV RX7 122 RX7 yX7_prepared wsX7_prepared) := goodIn_app (goodIn_of _ (by decide +kernel)) ggX7_build_X7_prepared
set_option maxRecDepth 20000 in
theorem ggX7_build_X7_raise : GoodIn wsX7_build wsX7_raise := goodIn_r _ [23, 24, 25, 1, 26, 27, 28, 29, 30, 31, 32, 33, 34, 35, 36, 37, 38, 39, 40, 41, 42, 43, 44, 45, 46, 47, 48, 49, 50, 51, 52, 53, 54, 55, 56, 57, 58, 59, 60, 61, 62, 63, 64, 65, 66, 67, 68] (by decide +kernel) (by decide +kernel)
set_option maxRecDepth 20000 in
theorem gX7_build_X7_raise : GoodIn wsX7_build (wsV RX7 96 RX7 yX7_raise wsX7_raise) := goodIn_app (goodIn_of _ (by decide +kernel)) ggX7_build_X7_raise
theorem dX7_build_0 : decode cX7_build 0 = .ok (.aload_n 0, 1) := by decide +kernel
theorem dX7_build_1 : decode cX7_build 1 = .ok (.iload_n 1, 1) := by decide +kernel
theorem dX7_build_2 : decode cX7_build 2 = .ok (.invokestatic 108, 3) := by decide +kernel
theorem dX7_build_5 : decode cX7_build 5 = .ok (.iconst 1, 1) := by decide +kernel
theorem dX7_build_6 : decode cX7_build 6 = .ok (.invokevirtual 118, 3) := by decide +kernel
theorem dX7_build_9 : decode cX7_build 9 = .ok (.ifCond .ne 58, 3) := by decide +kernel
theorem dX7_build_12 : decode cX7_build 12 = .ok (.aload_n 0, 1) := by decide +kernel
theorem dX7_build_13 : decode cX7_build 13 = .ok (.iload_n 2, 1) := by decide +kernel
theorem dX7_build_14 : decode cX7_build 14 = .ok (.iconst 1, 1) := by decide +kernel
theorem dX7_build_15 : decode cX7_build 15 = .ok (.bipush 7, 2) := by decide +kernel
theorem dX7_build_17 : decode cX7_build 17 = .ok (.invokestatic 104, 3) := by decide +kernel
theorem dX7_build_20 : decode cX7_build 20 = .ok (.ifCond .eq 18, 3) := by decide +kernel
theorem dX7_build_23 : decode cX7_build 23 = .ok (.iload_n 3, 1) := by decide +kernel
theorem dX7_build_24 : decode cX7_build 24 = .ok (.iconst 0, 1) := by decide +kernel
theorem dX7_build_25 : decode cX7_build 25 = .ok (.sipush 9999, 3) := by decide +kernel
theorem dX7_build_28 : decode cX7_build 28 = .ok (.invokestatic 104, 3) := by decide +kernel
theorem dX7_build_31 : decode cX7_build 31 = .ok (.ifCond .eq 7, 3) := by decide +kernel
theorem dX7_build_34 : decode cX7_build 34 = .ok (.iconst 1, 1) := by decide +kernel
theorem dX7_build_35 : decode cX7_build 35 = .ok (.goto 4, 3) := by decide +kernel
theorem dX7_build_38 : decode cX7_build 38 = .ok (.iconst 0, 1) := by decide +kernel
theorem dX7_build_39 : decode cX7_build 39 = .ok (.iconst 2, 1) := by decide +kernel
theorem dX7_build_40 : decode cX7_build 40 = .ok (.invokevirtual 118, 3) := by decide +kernel
theorem dX7_build_43 : decode cX7_build 43 = .ok (.ifCond .ne 24, 3) := by decide +kernel
theorem dX7_build_46 : decode cX7_build 46 = .ok (.aload_n 0, 1) := by decide +kernel
theorem dX7_build_47 : decode cX7_build 47 = .ok (.aload_n 0, 1) := by decide +kernel
theorem dX7_build_48 : decode cX7_build 48 = .ok (.iload_n 1, 1) := by decide +kernel
theorem dX7_build_49 : decode cX7_build 49 = .ok (.invokevirtual 122, 3) := by decide +kernel
theorem dX7_build_52 : decode cX7_build 52 = .ok (.ifCond .ge 7, 3) := by decide +kernel
theorem dX7_build_55 : decode cX7_build 55 = .ok (.iconst 1, 1) := by decide +kernel
theorem dX7_build_56 : decode cX7_build 56 = .ok (.goto 4, 3) := by decide +kernel
theorem dX7_build_59 : decode cX7_build 59 = .ok (.iconst 0, 1) := by decide +kernel
theorem dX7_build_60 : decode cX7_build 60 = .ok (.iconst 3, 1) := by decide +kernel
theorem dX7_build_61 : decode cX7_build 61 = .ok (.invokevirtual 118, 3) := by decide +kernel
theorem dX7_build_64 : decode cX7_build 64 = .ok (.ifCond .eq 5, 3) := by decide +kernel
theorem dX7_build_67 : decode cX7_build 67 = .ok (.iconst 0, 1) := by decide +kernel
theorem dX7_build_68 : decode cX7_build 68 = .ok (.ireturn, 1) := by decide +kernel
theorem dX7_build_69 : decode cX7_build 69 = .ok (.aload_n 0, 1) := by decide +kernel
theorem dX7_build_70 : decode cX7_build 70 = .ok (.getfield 16, 3) := by decide +kernel
theorem dX7_build_73 : decode cX7_build 73 = .ok (.iload_n 1, 1) := by decide +kernel
theorem dX7_build_74 : decode cX7_build 74 = .ok (.iaload, 1) := by decide +kernel
theorem dX7_build_75 : decode cX7_build 75 = .ok (.istore 4, 2) := by decide +kernel
theorem dX7_build_77 : decode cX7_build 77 = .ok (.aload_n 0, 1) := by decide +kernel
theorem dX7_build_78 : decode cX7_build 78 = .ok (.iload_n 1, 1) := by decide +kernel
theorem dX7_build_79 : decode cX7_build 79 = .ok (.iload_n 2, 1) := by decide +kernel
theorem dX7_build_80 : decode cX7_build 80 = .ok (.iload_n 3, 1) := by decide +kernel
theorem dX7_build_81 : decode cX7_build 81 = .ok (.invokevirtual 96, 3) := by decide +kernel
theorem dX7_build_84 : decode cX7_build 84 = .ok (.iload 4, 2) := by decide +kernel
theorem dX7_build_86 : decode cX7_build 86 = .ok (.ireturn, 1) := by decide +kernel
set_option maxRecDepth 20000 in
theorem ggX7_wait_X7_isIn : GoodIn wsX7_wait wsX7_isIn := goodIn_r _ [5] (by decide +kernel) (by decide +kernel)
set_option maxRecDepth 20000 in
theorem gX7_wait_X7_isIn : GoodIn wsX7_wait (va_wsS RX7 104 yX7_isIn wsX7_isIn) := goodIn_app (goodIn_of _ (by decide +kernel)) ggX7_wait_X7_isIn
set_option maxRecDepth 20000 in
theorem ggX7_wait_X7_no : GoodIn wsX7_wait wsX7_no := goodIn_r _ [9, 10, 11, 12, 13, 14, 15, 16, 17, 18, 19, 20, 21, 22, 23, 24, 25, 26, 27, 28, 29, 30, 31, 32, 33, 34, 35, 36, 37, 38, 39, 40, 41, 42, 43, 44, 45] (by decide +kernel) (by decide +kernel)
set_option maxRecDepth 20000 in
theorem gX7_wait_X7_no : GoodIn wsX7_wait (wsV RX7 118 RX7 yX7_no wsX7_no) := goodIn_app (goodIn_of _ (by decide +kernel)) ggX7_wait_X7_no
theorem dX7_wait_0 : decode cX7_wait 0 = .ok (.aload_n 0, 1) := by decide +kernel
theorem dX7_wait_1 : decode cX7_wait 1 = .ok (.iload_n 1, 1) := by decide +kernel
theorem dX7_wait_2 : decode cX7_wait 2 = .ok (.iconst 1, 1) := by decide +kernel
theorem dX7_wait_3 : decode cX7_wait 3 = .ok (.bipush 100, 2) := by decide +kernel
theorem dX7_wait_5 : decode cX7_wait 5 = .ok (.invokestatic 104, 3) := by decide +kernel
theorem dX7_wait_8 : decode cX7_wait 8 = .ok (.iconst 1, 1) := by decide +kernel
theorem dX7_wait_9 : decode cX7_wait 9 = .ok (.invokevirtual 118, 3) := by decide +kernel
theorem dX7_wait_12 : decode cX7_wait 12 = .ok (.ifCond .eq 5, 3) := by decide +kernel
theorem dX7_wait_15 : decode cX7_wait 15 = .ok (.iconst 0, 1) := by decide +kernel
theorem dX7_wait_16 : decode cX7_wait 16 = .ok (.ireturn, 1) := by decide +kernel
theorem dX7_wait_17 : decode cX7_wait 17 = .ok (.aload_n 0, 1) := by decide +kernel
theorem dX7_wait_18 : decode cX7_wait 18 = .ok (.dup, 1) := by decide +kernel
theorem dX7_wait_19 : decode cX7_wait 19 = .ok (.getfield 126, 3) := by decide +kernel
theorem dX7_wait_22 : decode cX7_wait 22 = .ok (.iload_n 1, 1) := by decide +kernel
theorem dX7_wait_23 : decode cX7_wait 23 = .ok (.iadd, 1) := by decide +kernel
theorem dX7_wait_24 : decode cX7_wait 24 = .ok (.putfield 126, 3) := by decide +kernel
theorem dX7_wait_27 : decode cX7_wait 27 = .ok (.aload_n 0, 1) := by decide +kernel
theorem dX7_wait_28 : decode cX7_wait 28 = .ok (.getfield 126, 3) := by decide +kernel
theorem dX7_wait_31 : decode cX7_wait 31 = .ok (.ireturn, 1) := by decide +kernel
theorem dX7_downs_0 : decode cX7_downs 0 = .ok (.aload_n 0, 1) := by decide +kernel
theorem dX7_downs_1 : decode cX7_downs 1 = .ok (.getfield 19, 3) := by decide +kernel
theorem dX7_downs_4 : decode cX7_downs 4 = .ok (.iload_n 1, 1) := by decide +kernel
theorem dX7_downs_5 : decode cX7_downs 5 = .ok (.bipush 7, 2) := by decide +kernel
theorem dX7_downs_7 : decode cX7_downs 7 = .ok (.imul, 1) := by decide +kernel
theorem dX7_downs_8 : decode cX7_downs 8 = .ok (.iload_n 2, 1) := by decide +kernel
theorem dX7_downs_9 : decode cX7_downs 9 = .ok (.iadd, 1) := by decide +kernel
theorem dX7_downs_10 : decode cX7_downs 10 = .ok (.baload, 1) := by decide +kernel
theorem dX7_downs_11 : decode cX7_downs 11 = .ok (.istore_n 3, 1) := by decide +kernel
theorem dX7_downs_12 : decode cX7_downs 12 = .ok (.aload_n 0, 1) := by decide +kernel
theorem dX7_downs_13 : decode cX7_downs 13 = .ok (.getfield 19, 3) := by decide +kernel
theorem dX7_downs_16 : decode cX7_downs 16 = .ok (.iload_n 1, 1) := by decide +kernel
theorem dX7_downs_17 : decode cX7_downs 17 = .ok (.bipush 7, 2) := by decide +kernel
theorem dX7_downs_19 : decode cX7_downs 19 = .ok (.imul, 1) := by decide +kernel
theorem dX7_downs_20 : decode cX7_downs 20 = .ok (.iload_n 2, 1) := by decide +kernel
theorem dX7_downs_21 : decode cX7_downs 21 = .ok (.iadd, 1) := by decide +kernel
theorem dX7_downs_22 : decode cX7_downs 22 = .ok (.iconst 0, 1) := by decide +kernel
theorem dX7_downs_23 : decode cX7_downs 23 = .ok (.bastore, 1) := by decide +kernel
theorem dX7_downs_24 : decode cX7_downs 24 = .ok (.aload_n 0, 1) := by decide +kernel
theorem dX7_downs_25 : decode cX7_downs 25 = .ok (.getfield 23, 3) := by decide +kernel
theorem dX7_downs_28 : decode cX7_downs 28 = .ok (.iload_n 1, 1) := by decide +kernel
theorem dX7_downs_29 : decode cX7_downs 29 = .ok (.bipush 7, 2) := by decide +kernel
theorem dX7_downs_31 : decode cX7_downs 31 = .ok (.imul, 1) := by decide +kernel
theorem dX7_downs_32 : decode cX7_downs 32 = .ok (.iload_n 2, 1) := by decide +kernel
theorem dX7_downs_33 : decode cX7_downs 33 = .ok (.iadd, 1) := by decide +kernel
theorem dX7_downs_34 : decode cX7_downs 34 = .ok (.iconst 0, 1) := by decide +kernel
theorem dX7_downs_35 : decode cX7_downs 35 = .ok (.bastore, 1) := by decide +kernel
theorem dX7_downs_36 : decode cX7_downs 36 = .ok (.iconst 0, 1) := by decide +kernel
theorem dX7_downs_37 : decode cX7_downs 37 = .ok (.istore 4, 2) := by decide +kernel
theorem dX7_downs_39 : decode cX7_downs 39 = .ok (.iload 4, 2) := by decide +kernel
theorem dX7_downs_41 : decode cX7_downs 41 = .ok (.iconst 3, 1) := by decide +kernel
theorem dX7_downs_42 : decode cX7_downs 42 = .ok (.if_icmp .ge 26, 3) := by decide +kernel
theorem dX7_downs_45 : decode cX7_downs 45 = .ok (.aload_n 0, 1) := by decide +kernel
theorem dX7_downs_46 : decode cX7_downs 46 = .ok (.getfield 35, 3) := by decide +kernel
theorem dX7_downs_49 : decode cX7_downs 49 = .ok (.iload_n 1, 1) := by decide +kernel
theorem dX7_downs_50 : decode cX7_downs 50 = .ok (.bipush 7, 2) := by decide +kernel
theorem dX7_downs_52 : decode cX7_downs 52 = .ok (.imul, 1) := by decide +kernel
theorem dX7_downs_53 : decode cX7_downs 53 = .ok (.iload_n 2, 1) := by decide +kernel
theorem dX7_downs_54 : decode cX7_downs 54 = .ok (.iadd, 1) := by decide +kernel
theorem dX7_downs_55 : decode cX7_downs 55 = .ok (.iconst 3, 1) := by decide +kernel
theorem dX7_downs_56 : decode cX7_downs 56 = .ok (.imul, 1) := by decide +kernel
theorem dX7_downs_57 : decode cX7_downs 57 = .ok (.iload 4, 2) := by decide +kernel
theorem dX7_downs_59 : decode cX7_downs 59 = .ok (.iadd, 1) := by decide +kernel
theorem dX7_downs_60 : decode cX7_downs 60 = .ok (.iconst 0, 1) := by decide +kernel
theorem dX7_downs_61 : decode cX7_downs 61 = .ok (.iastore, 1) := by decide +kernel
theorem dX7_downs_62 : decode cX7_downs 62 = .ok (.iinc 4 1, 3) := by decide +kernel
theorem dX7_downs_65 : decode cX7_downs 65 = .ok (.goto (-26), 3) := by decide +kernel
theorem dX7_downs_68 : decode cX7_downs 68 = .ok (.iload_n 3, 1) := by decide +kernel
theorem dX7_downs_69 : decode cX7_downs 69 = .ok (.ireturn, 1) := by decide +kernel
set_option maxRecDepth 20000 in
theorem ggX7_fall_X7_isTower : GoodIn wsX7_fall wsX7_isTower := goodIn_r _ [5, 6, 7, 8, 4, 9, 10, 11, 12, 25, 26, 27, 28, 29, 30, 31, 32, 33, 34, 35, 36, 37, 38, 39, 40, 41, 42, 43, 44, 45, 46, 47, 48, 49, 50, 51, 52, 53, 54, 55, 56, 57, 58, 59] (by decide +kernel) (by decide +kernel)
set_option maxRecDepth 20000 in
theorem gX7_fall_X7_isTower : GoodIn wsX7_fall (wsV RX7 129 RX7 yX7_isTower wsX7_isTower) := goodIn_app (goodIn_of _ (by decide +kernel)) ggX7_fall_X7_isTower
set_option maxRecDepth 20000 in
theorem ggX7_fall_X7_no : GoodIn wsX7_fall wsX7_no := goodIn_r _ [16, 17, 25, 26, 27, 28, 29, 30, 31, 32, 33, 34, 35, 36, 37, 38, 39, 40, 41, 42, 43, 44, 45, 46, 47, 48, 49, 50, 51, 52, 53, 54, 55, 56, 57, 58, 59] (by decide +kernel) (by decide +kernel)
set_option maxRecDepth 20000 in
theorem gX7_fall_X7_no : GoodIn wsX7_fall (wsV RX7 118 RX7 yX7_no wsX7_no) := goodIn_app (goodIn_of _ (by decide +kernel)) ggX7_fall_X7_no
set_option maxRecDepth 20000 in
theorem ggX7_fall_X7_downs : GoodIn wsX7_fall wsX7_downs := goodIn_r _ [21, 22, 23, 24, 25, 26, 27, 28, 29, 30, 31, 32, 33, 34, 35, 36, 37, 38, 39, 40, 41, 42, 43, 44, 45, 46, 47, 48, 49, 50, 51, 52, 53, 54, 55, 56, 57, 58, 59] (by decide +kernel) (by decide +kernel)
set_option maxRecDepth 20000 in
theorem gX7_fall_X7_downs : GoodIn wsX7_fall (wsV RX7 133 RX7 yX7_downs wsX7_downs) := goodIn_app (goodIn_of _ (by decide +kernel)) ggX7_fall_X7_downs
theorem dX7_fall_0 : decode cX7_fall 0 = .ok (.aload_n 0, 1) := by decide +kernel
theorem dX7_fall_1 : decode cX7_fall 1 = .ok (.aload_n 0, 1) := by decide +kernel
theorem dX7_fall_2 : decode cX7_fall 2 = .ok (.iload_n 1, 1) := by decide +kernel
theorem dX7_fall_3 : decode cX7_fall 3 = .ok (.iload_n 2, 1) := by decide +kernel
theorem dX7_fall_4 : decode cX7_fall 4 = .ok (.invokevirtual 129, 3) := by decide +kernel
theorem dX7_fall_7 : decode cX7_fall 7 = .ok (.iconst 1, 1) := by decide +kernel
theorem dX7_fall_8 : decode cX7_fall 8 = .ok (.invokevirtual 118, 3) := by decide +kernel
theorem dX7_fall_11 : decode cX7_fall 11 = .ok (.ifCond .ne 16, 3) := by decide +kernel
theorem dX7_fall_14 : decode cX7_fall 14 = .ok (.aload_n 0, 1) := by decide +kernel
theorem dX7_fall_15 : decode cX7_fall 15 = .ok (.iload_n 1, 1) := by decide +kernel
theorem dX7_fall_16 : decode cX7_fall 16 = .ok (.iload_n 2, 1) := by decide +kernel
theorem dX7_fall_17 : decode cX7_fall 17 = .ok (.invokevirtual 133, 3) := by decide +kernel
theorem dX7_fall_20 : decode cX7_fall 20 = .ok (.ifCond .eq 7, 3) := by decide +kernel
theorem dX7_fall_23 : decode cX7_fall 23 = .ok (.iconst 1, 1) := by decide +kernel
theorem dX7_fall_24 : decode cX7_fall 24 = .ok (.goto 4, 3) := by decide +kernel
theorem dX7_fall_27 : decode cX7_fall 27 = .ok (.iconst 0, 1) := by decide +kernel
theorem dX7_fall_28 : decode cX7_fall 28 = .ok (.ireturn, 1) := by decide +kernel
set_option maxRecDepth 20000 in
theorem ggX7_burn_X7_isTower : GoodIn wsX7_burn wsX7_isTower := goodIn_r _ [7, 8, 9, 10, 6, 11, 12, 13, 14, 27, 28, 29, 30, 31, 32, 33, 34, 35, 36, 37, 38, 39, 40, 41, 42, 43, 44, 45, 46, 47, 48, 49, 50, 51, 52, 53, 54, 55, 56, 57, 58, 59, 60, 61] (by decide +kernel) (by decide +kernel)
set_option maxRecDepth 20000 in
theorem gX7_burn_X7_isTower : GoodIn wsX7_burn (wsV RX7 129 RX7 yX7_isTower wsX7_isTower) := goodIn_app (goodIn_of _ (by decide +kernel)) ggX7_burn_X7_isTower
set_option maxRecDepth 20000 in
theorem ggX7_burn_X7_no : GoodIn wsX7_burn wsX7_no := goodIn_r _ [18, 19, 27, 28, 29, 30, 31, 32, 33, 34, 35, 36, 37, 38, 39, 40, 41, 42, 43, 44, 45, 46, 47, 48, 49, 50, 51, 52, 53, 54, 55, 56, 57, 58, 59, 60, 61] (by decide +kernel) (by decide +kernel)
set_option maxRecDepth 20000 in
theorem gX7_burn_X7_no : GoodIn wsX7_burn (wsV RX7 118 RX7 yX7_no wsX7_no) := goodIn_app (goodIn_of _ (by decide +kernel)) ggX7_burn_X7_no
set_option maxRecDepth 20000 in
theorem ggX7_burn_X7_downs : GoodIn wsX7_burn wsX7_downs := goodIn_r _ [23, 24, 25, 26, 27, 28, 29, 30, 31, 32, 33, 34, 35, 36, 37, 38, 39, 40, 41, 42, 43, 44, 45, 46, 47, 48, 49, 50, 51, 52, 53, 54, 55, 56, 57, 58, 59, 60, 61] (by decide +kernel) (by decide +kernel)
set_option maxRecDepth 20000 in
theorem gX7_burn_X7_downs : GoodIn wsX7_burn (wsV RX7 133 RX7 yX7_downs wsX7_downs) := goodIn_app (goodIn_of _ (by decide +kernel)) ggX7_burn_X7_downs
theorem dX7_burn_0 : decode cX7_burn 0 = .ok (.aload_n 0, 1) := by decide +kernel
theorem dX7_burn_1 : decode cX7_burn 1 = .ok (.aload_n 0, 1) := by decide +kernel
theorem dX7_burn_2 : decode cX7_burn 2 = .ok (.iload_n 1, 1) := by decide +kernel
theorem dX7_burn_3 : decode cX7_burn 3 = .ok (.iload_n 2, 1) := by decide +kernel
theorem dX7_burn_4 : decode cX7_burn 4 = .ok (.invokevirtual 129, 3) := by decide +kernel
theorem dX7_burn_7 : decode cX7_burn 7 = .ok (.iconst 1, 1) := by decide +kernel
theorem dX7_burn_8 : decode cX7_burn 8 = .ok (.invokevirtual 118, 3) := by decide +kernel
theorem dX7_burn_11 : decode cX7_burn 11 = .ok (.ifCond .eq 5, 3) := by decide +kernel
theorem dX7_burn_14 : decode cX7_burn 14 = .ok (.iconst 0, 1) := by decide +kernel
theorem dX7_burn_15 : decode cX7_burn 15 = .ok (.ireturn, 1) := by decide +kernel
theorem dX7_burn_16 : decode cX7_burn 16 = .ok (.aload_n 0, 1) := by decide +kernel
theorem dX7_burn_17 : decode cX7_burn 17 = .ok (.iload_n 1, 1) := by decide +kernel
theorem dX7_burn_18 : decode cX7_burn 18 = .ok (.iload_n 2, 1) := by decide +kernel
theorem dX7_burn_19 : decode cX7_burn 19 = .ok (.invokevirtual 133, 3) := by decide +kernel
theorem dX7_burn_22 : decode cX7_burn 22 = .ok (.istore_n 3, 1) := by decide +kernel
theorem dX7_burn_23 : decode cX7_burn 23 = .ok (.iconst 0, 1) := by decide +kernel
theorem dX7_burn_24 : decode cX7_burn 24 = .ok (.istore 4, 2) := by decide +kernel
theorem dX7_burn_26 : decode cX7_burn 26 = .ok (.iconst 0, 1) := by decide +kernel
theorem dX7_burn_27 : decode cX7_burn 27 = .ok (.istore 5, 2) := by decide +kernel
theorem dX7_burn_29 : decode cX7_burn 29 = .ok (.iload 5, 2) := by decide +kernel
theorem dX7_burn_31 : decode cX7_burn 31 = .ok (.aload_n 0, 1) := by decide +kernel
theorem dX7_burn_32 : decode cX7_burn 32 = .ok (.getfield 16, 3) := by decide +kernel
theorem dX7_burn_35 : decode cX7_burn 35 = .ok (.iload_n 1, 1) := by decide +kernel
theorem dX7_burn_36 : decode cX7_burn 36 = .ok (.iaload, 1) := by decide +kernel
theorem dX7_burn_37 : decode cX7_burn 37 = .ok (.if_icmp .ge 50, 3) := by decide +kernel
theorem dX7_burn_40 : decode cX7_burn 40 = .ok (.iload 4, 2) := by decide +kernel
theorem dX7_burn_42 : decode cX7_burn 42 = .ok (.aload_n 0, 1) := by decide +kernel
theorem dX7_burn_43 : decode cX7_burn 43 = .ok (.getfield 54, 3) := by decide +kernel
theorem dX7_burn_46 : decode cX7_burn 46 = .ok (.iload_n 1, 1) := by decide +kernel
theorem dX7_burn_47 : decode cX7_burn 47 = .ok (.bipush 60, 2) := by decide +kernel
theorem dX7_burn_49 : decode cX7_burn 49 = .ok (.imul, 1) := by decide +kernel
theorem dX7_burn_50 : decode cX7_burn 50 = .ok (.iload 5, 2) := by decide +kernel
theorem dX7_burn_52 : decode cX7_burn 52 = .ok (.iadd, 1) := by decide +kernel
theorem dX7_burn_53 : decode cX7_burn 53 = .ok (.iaload, 1) := by decide +kernel
theorem dX7_burn_54 : decode cX7_burn 54 = .ok (.iload_n 2, 1) := by decide +kernel
theorem dX7_burn_55 : decode cX7_burn 55 = .ok (.ishr, 1) := by decide +kernel
theorem dX7_burn_56 : decode cX7_burn 56 = .ok (.iconst 1, 1) := by decide +kernel
theorem dX7_burn_57 : decode cX7_burn 57 = .ok (.iand, 1) := by decide +kernel
theorem dX7_burn_58 : decode cX7_burn 58 = .ok (.iadd, 1) := by decide +kernel
theorem dX7_burn_59 : decode cX7_burn 59 = .ok (.istore 4, 2) := by decide +kernel
theorem dX7_burn_61 : decode cX7_burn 61 = .ok (.aload_n 0, 1) := by decide +kernel
theorem dX7_burn_62 : decode cX7_burn 62 = .ok (.getfield 54, 3) := by decide +kernel
theorem dX7_burn_65 : decode cX7_burn 65 = .ok (.iload_n 1, 1) := by decide +kernel
theorem dX7_burn_66 : decode cX7_burn 66 = .ok (.bipush 60, 2) := by decide +kernel
theorem dX7_burn_68 : decode cX7_burn 68 = .ok (.imul, 1) := by decide +kernel
theorem dX7_burn_69 : decode cX7_burn 69 = .ok (.iload 5, 2) := by decide +kernel
theorem dX7_burn_71 : decode cX7_burn 71 = .ok (.iadd, 1) := by decide +kernel
theorem dX7_burn_72 : decode cX7_burn 72 = .ok (.dup2, 1) := by decide +kernel
theorem dX7_burn_73 : decode cX7_burn 73 = .ok (.iaload, 1) := by decide +kernel
theorem dX7_burn_74 : decode cX7_burn 74 = .ok (.iconst 1, 1) := by decide +kernel
theorem dX7_burn_75 : decode cX7_burn 75 = .ok (.iload_n 2, 1) := by decide +kernel
theorem dX7_burn_76 : decode cX7_burn 76 = .ok (.ishl, 1) := by decide +kernel
theorem dX7_burn_77 : decode cX7_burn 77 = .ok (.iconst (-1), 1) := by decide +kernel
theorem dX7_burn_78 : decode cX7_burn 78 = .ok (.ixor, 1) := by decide +kernel
theorem dX7_burn_79 : decode cX7_burn 79 = .ok (.iand, 1) := by decide +kernel
theorem dX7_burn_80 : decode cX7_burn 80 = .ok (.iastore, 1) := by decide +kernel
theorem dX7_burn_81 : decode cX7_burn 81 = .ok (.iinc 5 1, 3) := by decide +kernel
theorem dX7_burn_84 : decode cX7_burn 84 = .ok (.goto (-55), 3) := by decide +kernel
theorem dX7_burn_87 : decode cX7_burn 87 = .ok (.iload 4, 2) := by decide +kernel
theorem dX7_burn_89 : decode cX7_burn 89 = .ok (.ireturn, 1) := by decide +kernel
set_option maxRecDepth 20000 in
theorem ggX7_rise_X7_isTower : GoodIn wsX7_rise wsX7_isTower := goodIn_r _ [9, 10, 11, 12, 8, 13, 14, 15, 16, 22, 23, 24, 25, 26, 27, 28, 29, 30, 31, 32, 33, 34, 35, 36, 37, 38, 39, 40, 41, 42, 43, 44, 45, 46, 47, 48, 49, 50, 51, 52, 53, 54, 55, 56] (by decide +kernel) (by decide +kernel)
set_option maxRecDepth 20000 in
theorem gX7_rise_X7_isTower : GoodIn wsX7_rise (wsV RX7 129 RX7 yX7_isTower wsX7_isTower) := goodIn_app (goodIn_of _ (by decide +kernel)) ggX7_rise_X7_isTower
set_option maxRecDepth 20000 in
theorem ggX7_rise_X7_no : GoodIn wsX7_rise wsX7_no := goodIn_r _ [20, 21, 22, 23, 24, 25, 26, 27, 28, 29, 30, 31, 32, 33, 34, 35, 36, 37, 38, 39, 40, 41, 42, 43, 44, 45, 46, 47, 48, 49, 50, 51, 52, 53, 54, 55, 56] (by decide +kernel) (by decide +kernel)
set_option maxRecDepth 20000 in
theorem gX7_rise_X7_no : GoodIn wsX7_rise (wsV RX7 118 RX7 yX7_no wsX7_no) := goodIn_app (goodIn_of _ (by decide +kernel)) ggX7_rise_X7_no
theorem dX7_rise_0 : decode cX7_rise 0 = .ok (.aload_n 0, 1) := by decide +kernel
theorem dX7_rise_1 : decode cX7_rise 1 = .ok (.aload_n 0, 1) := by decide +kernel
theorem dX7_rise_2 : decode cX7_rise 2 = .ok (.iload_n 1, 1) := by decide +kernel
theorem dX7_rise_3 : decode cX7_rise 3 = .ok (.iload_n 2, 1) := by decide +kernel
theorem dX7_rise_4 : decode cX7_rise 4 = .ok (.invokevirtual 129, 3) := by decide +kernel
theorem dX7_rise_7 : decode cX7_rise 7 = .ok (.iconst 1, 1) := by decide +kernel
theorem dX7_rise_8 : decode cX7_rise 8 = .ok (.invokevirtual 118, 3) := by decide +kernel
theorem dX7_rise_11 : decode cX7_rise 11 = .ok (.ifCond .ne 17, 3) := by decide +kernel
theorem dX7_rise_14 : decode cX7_rise 14 = .ok (.aload_n 0, 1) := by decide +kernel
theorem dX7_rise_15 : decode cX7_rise 15 = .ok (.getfield 19, 3) := by decide +kernel
theorem dX7_rise_18 : decode cX7_rise 18 = .ok (.iload_n 1, 1) := by decide +kernel
theorem dX7_rise_19 : decode cX7_rise 19 = .ok (.bipush 7, 2) := by decide +kernel
theorem dX7_rise_21 : decode cX7_rise 21 = .ok (.imul, 1) := by decide +kernel
theorem dX7_rise_22 : decode cX7_rise 22 = .ok (.iload_n 2, 1) := by decide +kernel
theorem dX7_rise_23 : decode cX7_rise 23 = .ok (.iadd, 1) := by decide +kernel
theorem dX7_rise_24 : decode cX7_rise 24 = .ok (.baload, 1) := by decide +kernel
theorem dX7_rise_25 : decode cX7_rise 25 = .ok (.ifCond .eq 5, 3) := by decide +kernel
theorem dX7_rise_28 : decode cX7_rise 28 = .ok (.iconst 0, 1) := by decide +kernel
theorem dX7_rise_29 : decode cX7_rise 29 = .ok (.ireturn, 1) := by decide +kernel
theorem dX7_rise_30 : decode cX7_rise 30 = .ok (.aload_n 0, 1) := by decide +kernel
theorem dX7_rise_31 : decode cX7_rise 31 = .ok (.getfield 19, 3) := by decide +kernel
theorem dX7_rise_34 : decode cX7_rise 34 = .ok (.iload_n 1, 1) := by decide +kernel
theorem dX7_rise_35 : decode cX7_rise 35 = .ok (.bipush 7, 2) := by decide +kernel
theorem dX7_rise_37 : decode cX7_rise 37 = .ok (.imul, 1) := by decide +kernel
theorem dX7_rise_38 : decode cX7_rise 38 = .ok (.iload_n 2, 1) := by decide +kernel
theorem dX7_rise_39 : decode cX7_rise 39 = .ok (.iadd, 1) := by decide +kernel
theorem dX7_rise_40 : decode cX7_rise 40 = .ok (.iconst 1, 1) := by decide +kernel
theorem dX7_rise_41 : decode cX7_rise 41 = .ok (.bastore, 1) := by decide +kernel
theorem dX7_rise_42 : decode cX7_rise 42 = .ok (.aload_n 0, 1) := by decide +kernel
theorem dX7_rise_43 : decode cX7_rise 43 = .ok (.getfield 23, 3) := by decide +kernel
theorem dX7_rise_46 : decode cX7_rise 46 = .ok (.iload_n 1, 1) := by decide +kernel
theorem dX7_rise_47 : decode cX7_rise 47 = .ok (.bipush 7, 2) := by decide +kernel
theorem dX7_rise_49 : decode cX7_rise 49 = .ok (.imul, 1) := by decide +kernel
theorem dX7_rise_50 : decode cX7_rise 50 = .ok (.iload_n 2, 1) := by decide +kernel
theorem dX7_rise_51 : decode cX7_rise 51 = .ok (.iadd, 1) := by decide +kernel
theorem dX7_rise_52 : decode cX7_rise 52 = .ok (.iconst 1, 1) := by decide +kernel
theorem dX7_rise_53 : decode cX7_rise 53 = .ok (.bastore, 1) := by decide +kernel
theorem dX7_rise_54 : decode cX7_rise 54 = .ok (.aload_n 0, 1) := by decide +kernel
theorem dX7_rise_55 : decode cX7_rise 55 = .ok (.getfield 26, 3) := by decide +kernel
theorem dX7_rise_58 : decode cX7_rise 58 = .ok (.iload_n 1, 1) := by decide +kernel
theorem dX7_rise_59 : decode cX7_rise 59 = .ok (.bipush 7, 2) := by decide +kernel
theorem dX7_rise_61 : decode cX7_rise 61 = .ok (.imul, 1) := by decide +kernel
theorem dX7_rise_62 : decode cX7_rise 62 = .ok (.iload_n 2, 1) := by decide +kernel
theorem dX7_rise_63 : decode cX7_rise 63 = .ok (.iadd, 1) := by decide +kernel
theorem dX7_rise_64 : decode cX7_rise 64 = .ok (.aload_n 0, 1) := by decide +kernel
theorem dX7_rise_65 : decode cX7_rise 65 = .ok (.getfield 126, 3) := by decide +kernel
theorem dX7_rise_68 : decode cX7_rise 68 = .ok (.iastore, 1) := by decide +kernel
theorem dX7_rise_69 : decode cX7_rise 69 = .ok (.iconst 1, 1) := by decide +kernel
theorem dX7_rise_70 : decode cX7_rise 70 = .ok (.ireturn, 1) := by decide +kernel
set_option maxRecDepth 20000 in
theorem ggX7_cut_X7_isTower : GoodIn wsX7_cut wsX7_isTower := goodIn_r _ [6, 7, 8, 9, 5, 10, 11, 12, 13, 22, 23, 24, 25, 26, 27, 28, 29, 30, 31, 32, 33, 34, 35, 36, 37, 38, 39, 40, 41, 42, 43, 44, 45, 46, 47, 48, 49, 50, 51, 52, 53, 54, 55, 56] (by decide +kernel) (by decide +kernel)
set_option maxRecDepth 20000 in
theorem gX7_cut_X7_isTower : GoodIn wsX7_cut (wsV RX7 129 RX7 yX7_isTower wsX7_isTower) := goodIn_app (goodIn_of _ (by decide +kernel)) ggX7_cut_X7_isTower
set_option maxRecDepth 20000 in
theorem ggX7_cut_X7_isLord : GoodIn wsX7_cut wsX7_isLord := goodIn_r _ [16, 11, 12, 5, 13] (by decide +kernel) (by decide +kernel)
set_option maxRecDepth 20000 in
theorem gX7_cut_X7_isLord : GoodIn wsX7_cut (va_wsS RX7 136 yX7_isLord wsX7_isLord) := goodIn_app (goodIn_of _ (by decide +kernel)) ggX7_cut_X7_isLord
set_option maxRecDepth 20000 in
theorem ggX7_cut_X7_no : GoodIn wsX7_cut wsX7_no := goodIn_r _ [20, 21, 22, 23, 24, 25, 26, 27, 28, 29, 30, 31, 32, 33, 34, 35, 36, 37, 38, 39, 40, 41, 42, 43, 44, 45, 46, 47, 48, 49, 50, 51, 52, 53, 54, 55, 56] (by decide +kernel) (by decide +kernel)
set_option maxRecDepth 20000 in
theorem gX7_cut_X7_no : GoodIn wsX7_cut (wsV RX7 118 RX7 yX7_no wsX7_no) := goodIn_app (goodIn_of _ (by decide +kernel)) ggX7_cut_X7_no
theorem dX7_cut_0 : decode cX7_cut 0 = .ok (.aload_n 0, 1) := by decide +kernel
theorem dX7_cut_1 : decode cX7_cut 1 = .ok (.aload_n 0, 1) := by decide +kernel
theorem dX7_cut_2 : decode cX7_cut 2 = .ok (.iload_n 1, 1) := by decide +kernel
theorem dX7_cut_3 : decode cX7_cut 3 = .ok (.iload_n 2, 1) := by decide +kernel
theorem dX7_cut_4 : decode cX7_cut 4 = .ok (.invokevirtual 129, 3) := by decide +kernel
theorem dX7_cut_7 : decode cX7_cut 7 = .ok (.ifCond .eq 14, 3) := by decide +kernel
theorem dX7_cut_10 : decode cX7_cut 10 = .ok (.iload_n 3, 1) := by decide +kernel
theorem dX7_cut_11 : decode cX7_cut 11 = .ok (.invokestatic 136, 3) := by decide +kernel
theorem dX7_cut_14 : decode cX7_cut 14 = .ok (.ifCond .eq 7, 3) := by decide +kernel
theorem dX7_cut_17 : decode cX7_cut 17 = .ok (.iconst 1, 1) := by decide +kernel
theorem dX7_cut_18 : decode cX7_cut 18 = .ok (.goto 4, 3) := by decide +kernel
theorem dX7_cut_21 : decode cX7_cut 21 = .ok (.iconst 0, 1) := by decide +kernel
theorem dX7_cut_22 : decode cX7_cut 22 = .ok (.iconst 1, 1) := by decide +kernel
theorem dX7_cut_23 : decode cX7_cut 23 = .ok (.invokevirtual 118, 3) := by decide +kernel
theorem dX7_cut_26 : decode cX7_cut 26 = .ok (.ifCond .eq 5, 3) := by decide +kernel
theorem dX7_cut_29 : decode cX7_cut 29 = .ok (.iconst 0, 1) := by decide +kernel
theorem dX7_cut_30 : decode cX7_cut 30 = .ok (.ireturn, 1) := by decide +kernel
theorem dX7_cut_31 : decode cX7_cut 31 = .ok (.aload_n 0, 1) := by decide +kernel
theorem dX7_cut_32 : decode cX7_cut 32 = .ok (.getfield 29, 3) := by decide +kernel
theorem dX7_cut_35 : decode cX7_cut 35 = .ok (.iload_n 1, 1) := by decide +kernel
theorem dX7_cut_36 : decode cX7_cut 36 = .ok (.bipush 7, 2) := by decide +kernel
theorem dX7_cut_38 : decode cX7_cut 38 = .ok (.imul, 1) := by decide +kernel
theorem dX7_cut_39 : decode cX7_cut 39 = .ok (.iload_n 2, 1) := by decide +kernel
theorem dX7_cut_40 : decode cX7_cut 40 = .ok (.iadd, 1) := by decide +kernel
theorem dX7_cut_41 : decode cX7_cut 41 = .ok (.iconst 4, 1) := by decide +kernel
theorem dX7_cut_42 : decode cX7_cut 42 = .ok (.imul, 1) := by decide +kernel
theorem dX7_cut_43 : decode cX7_cut 43 = .ok (.iload_n 3, 1) := by decide +kernel
theorem dX7_cut_44 : decode cX7_cut 44 = .ok (.iadd, 1) := by decide +kernel
theorem dX7_cut_45 : decode cX7_cut 45 = .ok (.baload, 1) := by decide +kernel
theorem dX7_cut_46 : decode cX7_cut 46 = .ok (.istore 5, 2) := by decide +kernel
theorem dX7_cut_48 : decode cX7_cut 48 = .ok (.aload_n 0, 1) := by decide +kernel
theorem dX7_cut_49 : decode cX7_cut 49 = .ok (.getfield 29, 3) := by decide +kernel
theorem dX7_cut_52 : decode cX7_cut 52 = .ok (.iload_n 1, 1) := by decide +kernel
theorem dX7_cut_53 : decode cX7_cut 53 = .ok (.bipush 7, 2) := by decide +kernel
theorem dX7_cut_55 : decode cX7_cut 55 = .ok (.imul, 1) := by decide +kernel
theorem dX7_cut_56 : decode cX7_cut 56 = .ok (.iload_n 2, 1) := by decide +kernel
theorem dX7_cut_57 : decode cX7_cut 57 = .ok (.iadd, 1) := by decide +kernel
theorem dX7_cut_58 : decode cX7_cut 58 = .ok (.iconst 4, 1) := by decide +kernel
theorem dX7_cut_59 : decode cX7_cut 59 = .ok (.imul, 1) := by decide +kernel
theorem dX7_cut_60 : decode cX7_cut 60 = .ok (.iload_n 3, 1) := by decide +kernel
theorem dX7_cut_61 : decode cX7_cut 61 = .ok (.iadd, 1) := by decide +kernel
theorem dX7_cut_62 : decode cX7_cut 62 = .ok (.iload 4, 2) := by decide +kernel
theorem dX7_cut_64 : decode cX7_cut 64 = .ok (.bastore, 1) := by decide +kernel
theorem dX7_cut_65 : decode cX7_cut 65 = .ok (.iload 5, 2) := by decide +kernel
theorem dX7_cut_67 : decode cX7_cut 67 = .ok (.ireturn, 1) := by decide +kernel
theorem dX7_reach_0 : decode cX7_reach 0 = .ok (.iconst 0, 1) := by decide +kernel
theorem dX7_reach_1 : decode cX7_reach 1 = .ok (.istore_n 3, 1) := by decide +kernel
theorem dX7_reach_2 : decode cX7_reach 2 = .ok (.iconst 0, 1) := by decide +kernel
theorem dX7_reach_3 : decode cX7_reach 3 = .ok (.istore 4, 2) := by decide +kernel
theorem dX7_reach_5 : decode cX7_reach 5 = .ok (.iload 4, 2) := by decide +kernel
theorem dX7_reach_7 : decode cX7_reach 7 = .ok (.aload_n 0, 1) := by decide +kernel
theorem dX7_reach_8 : decode cX7_reach 8 = .ok (.getfield 7, 3) := by decide +kernel
theorem dX7_reach_11 : decode cX7_reach 11 = .ok (.iload_n 1, 1) := by decide +kernel
theorem dX7_reach_12 : decode cX7_reach 12 = .ok (.iaload, 1) := by decide +kernel
theorem dX7_reach_13 : decode cX7_reach 13 = .ok (.if_icmp .ge 58, 3) := by decide +kernel
theorem dX7_reach_16 : decode cX7_reach 16 = .ok (.iload_n 3, 1) := by decide +kernel
theorem dX7_reach_17 : decode cX7_reach 17 = .ok (.aload_n 0, 1) := by decide +kernel
theorem dX7_reach_18 : decode cX7_reach 18 = .ok (.getfield 19, 3) := by decide +kernel
theorem dX7_reach_21 : decode cX7_reach 21 = .ok (.iload_n 1, 1) := by decide +kernel
theorem dX7_reach_22 : decode cX7_reach 22 = .ok (.bipush 7, 2) := by decide +kernel
theorem dX7_reach_24 : decode cX7_reach 24 = .ok (.imul, 1) := by decide +kernel
theorem dX7_reach_25 : decode cX7_reach 25 = .ok (.iload 4, 2) := by decide +kernel
theorem dX7_reach_27 : decode cX7_reach 27 = .ok (.iadd, 1) := by decide +kernel
theorem dX7_reach_28 : decode cX7_reach 28 = .ok (.baload, 1) := by decide +kernel
theorem dX7_reach_29 : decode cX7_reach 29 = .ok (.ifCond .eq 33, 3) := by decide +kernel
theorem dX7_reach_32 : decode cX7_reach 32 = .ok (.iload_n 2, 1) := by decide +kernel
theorem dX7_reach_33 : decode cX7_reach 33 = .ok (.ifCond .lt 22, 3) := by decide +kernel
theorem dX7_reach_36 : decode cX7_reach 36 = .ok (.aload_n 0, 1) := by decide +kernel
theorem dX7_reach_37 : decode cX7_reach 37 = .ok (.getfield 29, 3) := by decide +kernel
theorem dX7_reach_40 : decode cX7_reach 40 = .ok (.iload_n 1, 1) := by decide +kernel
theorem dX7_reach_41 : decode cX7_reach 41 = .ok (.bipush 7, 2) := by decide +kernel
theorem dX7_reach_43 : decode cX7_reach 43 = .ok (.imul, 1) := by decide +kernel
theorem dX7_reach_44 : decode cX7_reach 44 = .ok (.iload 4, 2) := by decide +kernel
theorem dX7_reach_46 : decode cX7_reach 46 = .ok (.iadd, 1) := by decide +kernel
theorem dX7_reach_47 : decode cX7_reach 47 = .ok (.iconst 4, 1) := by decide +kernel
theorem dX7_reach_48 : decode cX7_reach 48 = .ok (.imul, 1) := by decide +kernel
theorem dX7_reach_49 : decode cX7_reach 49 = .ok (.iload_n 2, 1) := by decide +kernel
theorem dX7_reach_50 : decode cX7_reach 50 = .ok (.iadd, 1) := by decide +kernel
theorem dX7_reach_51 : decode cX7_reach 51 = .ok (.baload, 1) := by decide +kernel
theorem dX7_reach_52 : decode cX7_reach 52 = .ok (.ifCond .ne 10, 3) := by decide +kernel
theorem dX7_reach_55 : decode cX7_reach 55 = .ok (.iconst 1, 1) := by decide +kernel
theorem dX7_reach_56 : decode cX7_reach 56 = .ok (.iload 4, 2) := by decide +kernel
theorem dX7_reach_58 : decode cX7_reach 58 = .ok (.ishl, 1) := by decide +kernel
theorem dX7_reach_59 : decode cX7_reach 59 = .ok (.goto 4, 3) := by decide +kernel
theorem dX7_reach_62 : decode cX7_reach 62 = .ok (.iconst 0, 1) := by decide +kernel
theorem dX7_reach_63 : decode cX7_reach 63 = .ok (.ior, 1) := by decide +kernel
theorem dX7_reach_64 : decode cX7_reach 64 = .ok (.istore_n 3, 1) := by decide +kernel
theorem dX7_reach_65 : decode cX7_reach 65 = .ok (.iinc 4 1, 3) := by decide +kernel
theorem dX7_reach_68 : decode cX7_reach 68 = .ok (.goto (-63), 3) := by decide +kernel
theorem dX7_reach_71 : decode cX7_reach 71 = .ok (.iload_n 3, 1) := by decide +kernel
theorem dX7_reach_72 : decode cX7_reach 72 = .ok (.ireturn, 1) := by decide +kernel
theorem dX7_ones_0 : decode cX7_ones 0 = .ok (.iconst 0, 1) := by decide +kernel
theorem dX7_ones_1 : decode cX7_ones 1 = .ok (.istore_n 1, 1) := by decide +kernel
theorem dX7_ones_2 : decode cX7_ones 2 = .ok (.iconst 0, 1) := by decide +kernel
theorem dX7_ones_3 : decode cX7_ones 3 = .ok (.istore_n 2, 1) := by decide +kernel
theorem dX7_ones_4 : decode cX7_ones 4 = .ok (.iload_n 2, 1) := by decide +kernel
theorem dX7_ones_5 : decode cX7_ones 5 = .ok (.bipush 7, 2) := by decide +kernel
theorem dX7_ones_7 : decode cX7_ones 7 = .ok (.if_icmp .ge 17, 3) := by decide +kernel
theorem dX7_ones_10 : decode cX7_ones 10 = .ok (.iload_n 1, 1) := by decide +kernel
theorem dX7_ones_11 : decode cX7_ones 11 = .ok (.iload_n 0, 1) := by decide +kernel
theorem dX7_ones_12 : decode cX7_ones 12 = .ok (.iload_n 2, 1) := by decide +kernel
theorem dX7_ones_13 : decode cX7_ones 13 = .ok (.ishr, 1) := by decide +kernel
theorem dX7_ones_14 : decode cX7_ones 14 = .ok (.iconst 1, 1) := by decide +kernel
theorem dX7_ones_15 : decode cX7_ones 15 = .ok (.iand, 1) := by decide +kernel
theorem dX7_ones_16 : decode cX7_ones 16 = .ok (.iadd, 1) := by decide +kernel
theorem dX7_ones_17 : decode cX7_ones 17 = .ok (.istore_n 1, 1) := by decide +kernel
theorem dX7_ones_18 : decode cX7_ones 18 = .ok (.iinc 2 1, 3) := by decide +kernel
theorem dX7_ones_21 : decode cX7_ones 21 = .ok (.goto (-17), 3) := by decide +kernel
theorem dX7_ones_24 : decode cX7_ones 24 = .ok (.iload_n 1, 1) := by decide +kernel
theorem dX7_ones_25 : decode cX7_ones 25 = .ok (.ireturn, 1) := by decide +kernel
set_option maxRecDepth 20000 in
theorem ggX7_quorum_X7_ones : GoodIn wsX7_quorum wsX7_ones := goodIn_r _ [5] (by decide +kernel) (by decide +kernel)
set_option maxRecDepth 20000 in
theorem gX7_quorum_X7_ones : GoodIn wsX7_quorum (va_wsS RX7 139 yX7_ones wsX7_ones) := goodIn_app (goodIn_of _ (by decide +kernel)) ggX7_quorum_X7_ones
theorem dX7_quorum_0 : decode cX7_quorum 0 = .ok (.iconst 2, 1) := by decide +kernel
theorem dX7_quorum_1 : decode cX7_quorum 1 = .ok (.iload_n 2, 1) := by decide +kernel
theorem dX7_quorum_2 : decode cX7_quorum 2 = .ok (.invokestatic 139, 3) := by decide +kernel
theorem dX7_quorum_5 : decode cX7_quorum 5 = .ok (.imul, 1) := by decide +kernel
theorem dX7_quorum_6 : decode cX7_quorum 6 = .ok (.aload_n 0, 1) := by decide +kernel
theorem dX7_quorum_7 : decode cX7_quorum 7 = .ok (.getfield 7, 3) := by decide +kernel
theorem dX7_quorum_10 : decode cX7_quorum 10 = .ok (.iload_n 1, 1) := by decide +kernel
theorem dX7_quorum_11 : decode cX7_quorum 11 = .ok (.iaload, 1) := by decide +kernel
theorem dX7_quorum_12 : decode cX7_quorum 12 = .ok (.if_icmp .le 7, 3) := by decide +kernel
theorem dX7_quorum_15 : decode cX7_quorum 15 = .ok (.iconst 1, 1) := by decide +kernel
theorem dX7_quorum_16 : decode cX7_quorum 16 = .ok (.goto 4, 3) := by decide +kernel
theorem dX7_quorum_19 : decode cX7_quorum 19 = .ok (.iconst 0, 1) := by decide +kernel
theorem dX7_quorum_20 : decode cX7_quorum 20 = .ok (.ireturn, 1) := by decide +kernel
theorem dX7_rests_0 : decode cX7_rests 0 = .ok (.aload_n 0, 1) := by decide +kernel
theorem dX7_rests_1 : decode cX7_rests 1 = .ok (.getfield 23, 3) := by decide +kernel
theorem dX7_rests_4 : decode cX7_rests 4 = .ok (.iload_n 1, 1) := by decide +kernel
theorem dX7_rests_5 : decode cX7_rests 5 = .ok (.bipush 7, 2) := by decide +kernel
theorem dX7_rests_7 : decode cX7_rests 7 = .ok (.imul, 1) := by decide +kernel
theorem dX7_rests_8 : decode cX7_rests 8 = .ok (.iload_n 2, 1) := by decide +kernel
theorem dX7_rests_9 : decode cX7_rests 9 = .ok (.iadd, 1) := by decide +kernel
theorem dX7_rests_10 : decode cX7_rests 10 = .ok (.baload, 1) := by decide +kernel
theorem dX7_rests_11 : decode cX7_rests 11 = .ok (.ifCond .eq 28, 3) := by decide +kernel
theorem dX7_rests_14 : decode cX7_rests 14 = .ok (.aload_n 0, 1) := by decide +kernel
theorem dX7_rests_15 : decode cX7_rests 15 = .ok (.getfield 126, 3) := by decide +kernel
theorem dX7_rests_18 : decode cX7_rests 18 = .ok (.aload_n 0, 1) := by decide +kernel
theorem dX7_rests_19 : decode cX7_rests 19 = .ok (.getfield 26, 3) := by decide +kernel
theorem dX7_rests_22 : decode cX7_rests 22 = .ok (.iload_n 1, 1) := by decide +kernel
theorem dX7_rests_23 : decode cX7_rests 23 = .ok (.bipush 7, 2) := by decide +kernel
theorem dX7_rests_25 : decode cX7_rests 25 = .ok (.imul, 1) := by decide +kernel
theorem dX7_rests_26 : decode cX7_rests 26 = .ok (.iload_n 2, 1) := by decide +kernel
theorem dX7_rests_27 : decode cX7_rests 27 = .ok (.iadd, 1) := by decide +kernel
theorem dX7_rests_28 : decode cX7_rests 28 = .ok (.iaload, 1) := by decide +kernel
theorem dX7_rests_29 : decode cX7_rests 29 = .ok (.bipush 20, 2) := by decide +kernel
theorem dX7_rests_31 : decode cX7_rests 31 = .ok (.iadd, 1) := by decide +kernel
theorem dX7_rests_32 : decode cX7_rests 32 = .ok (.if_icmp .ge 7, 3) := by decide +kernel
theorem dX7_rests_35 : decode cX7_rests 35 = .ok (.iconst 1, 1) := by decide +kernel
theorem dX7_rests_36 : decode cX7_rests 36 = .ok (.goto 4, 3) := by decide +kernel
theorem dX7_rests_39 : decode cX7_rests 39 = .ok (.iconst 0, 1) := by decide +kernel
theorem dX7_rests_40 : decode cX7_rests 40 = .ok (.ireturn, 1) := by decide +kernel
theorem dX7_votes_0 : decode cX7_votes 0 = .ok (.aload_n 0, 1) := by decide +kernel
theorem dX7_votes_1 : decode cX7_votes 1 = .ok (.getfield 35, 3) := by decide +kernel
theorem dX7_votes_4 : decode cX7_votes 4 = .ok (.iload_n 1, 1) := by decide +kernel
theorem dX7_votes_5 : decode cX7_votes 5 = .ok (.bipush 7, 2) := by decide +kernel
theorem dX7_votes_7 : decode cX7_votes 7 = .ok (.imul, 1) := by decide +kernel
theorem dX7_votes_8 : decode cX7_votes 8 = .ok (.iload_n 2, 1) := by decide +kernel
theorem dX7_votes_9 : decode cX7_votes 9 = .ok (.iadd, 1) := by decide +kernel
theorem dX7_votes_10 : decode cX7_votes 10 = .ok (.iconst 3, 1) := by decide +kernel
theorem dX7_votes_11 : decode cX7_votes 11 = .ok (.imul, 1) := by decide +kernel
theorem dX7_votes_12 : decode cX7_votes 12 = .ok (.iload_n 3, 1) := by decide +kernel
theorem dX7_votes_13 : decode cX7_votes 13 = .ok (.iadd, 1) := by decide +kernel
theorem dX7_votes_14 : decode cX7_votes 14 = .ok (.iaload, 1) := by decide +kernel
theorem dX7_votes_15 : decode cX7_votes 15 = .ok (.aload_n 0, 1) := by decide +kernel
theorem dX7_votes_16 : decode cX7_votes 16 = .ok (.getfield 126, 3) := by decide +kernel
theorem dX7_votes_19 : decode cX7_votes 19 = .ok (.if_icmp .le 7, 3) := by decide +kernel
theorem dX7_votes_22 : decode cX7_votes 22 = .ok (.iconst 1, 1) := by decide +kernel
theorem dX7_votes_23 : decode cX7_votes 23 = .ok (.goto 4, 3) := by decide +kernel
theorem dX7_votes_26 : decode cX7_votes 26 = .ok (.iconst 0, 1) := by decide +kernel
theorem dX7_votes_27 : decode cX7_votes 27 = .ok (.ireturn, 1) := by decide +kernel
theorem dX7_opens_0 : decode cX7_opens 0 = .ok (.aload_n 0, 1) := by decide +kernel
theorem dX7_opens_1 : decode cX7_opens 1 = .ok (.getfield 38, 3) := by decide +kernel
theorem dX7_opens_4 : decode cX7_opens 4 = .ok (.iload_n 1, 1) := by decide +kernel
theorem dX7_opens_5 : decode cX7_opens 5 = .ok (.iconst 4, 1) := by decide +kernel
theorem dX7_opens_6 : decode cX7_opens 6 = .ok (.imul, 1) := by decide +kernel
theorem dX7_opens_7 : decode cX7_opens 7 = .ok (.iload_n 3, 1) := by decide +kernel
theorem dX7_opens_8 : decode cX7_opens 8 = .ok (.iadd, 1) := by decide +kernel
theorem dX7_opens_9 : decode cX7_opens 9 = .ok (.iconst 3, 1) := by decide +kernel
theorem dX7_opens_10 : decode cX7_opens 10 = .ok (.imul, 1) := by decide +kernel
theorem dX7_opens_11 : decode cX7_opens 11 = .ok (.iload_n 2, 1) := by decide +kernel
theorem dX7_opens_12 : decode cX7_opens 12 = .ok (.iadd, 1) := by decide +kernel
theorem dX7_opens_13 : decode cX7_opens 13 = .ok (.iaload, 1) := by decide +kernel
theorem dX7_opens_14 : decode cX7_opens 14 = .ok (.aload_n 0, 1) := by decide +kernel
theorem dX7_opens_15 : decode cX7_opens 15 = .ok (.getfield 126, 3) := by decide +kernel
theorem dX7_opens_18 : decode cX7_opens 18 = .ok (.if_icmp .le 7, 3) := by decide +kernel
theorem dX7_opens_21 : decode cX7_opens 21 = .ok (.iconst 1, 1) := by decide +kernel
theorem dX7_opens_22 : decode cX7_opens 22 = .ok (.goto 4, 3) := by decide +kernel
theorem dX7_opens_25 : decode cX7_opens 25 = .ok (.iconst 0, 1) := by decide +kernel
theorem dX7_opens_26 : decode cX7_opens 26 = .ok (.ireturn, 1) := by decide +kernel
set_option maxRecDepth 20000 in
theorem ggX7_lease_X7_isCastle : GoodIn wsX7_lease wsX7_isCastle := goodIn_r _ [9] (by decide +kernel) (by decide +kernel)
set_option maxRecDepth 20000 in
theorem gX7_lease_X7_isCastle : GoodIn wsX7_lease (va_wsS RX7 108 yX7_isCastle wsX7_isCastle) := goodIn_app (goodIn_of _ (by decide +kernel)) ggX7_lease_X7_isCastle
set_option maxRecDepth 20000 in
theorem ggX7_lease_X7_isGate : GoodIn wsX7_lease wsX7_isGate := goodIn_r _ [12, 13, 14, 8, 15] (by decide +kernel) (by decide +kernel)
set_option maxRecDepth 20000 in
theorem gX7_lease_X7_isGate : GoodIn wsX7_lease (va_wsS RX7 142 yX7_isGate wsX7_isGate) := goodIn_app (goodIn_of _ (by decide +kernel)) ggX7_lease_X7_isGate
set_option maxRecDepth 20000 in
theorem ggX7_lease_X7_isLord : GoodIn wsX7_lease wsX7_isLord := goodIn_r _ [18, 13, 14, 8, 15] (by decide +kernel) (by decide +kernel)
set_option maxRecDepth 20000 in
theorem gX7_lease_X7_isLord : GoodIn wsX7_lease (va_wsS RX7 136 yX7_isLord wsX7_isLord) := goodIn_app (goodIn_of _ (by decide +kernel)) ggX7_lease_X7_isLord
set_option maxRecDepth 20000 in
theorem ggX7_lease_X7_no : GoodIn wsX7_lease wsX7_no := goodIn_r _ [22, 23, 47, 48, 49, 50, 51, 52, 53, 54, 55, 56, 57, 58, 59, 60, 61, 62, 63, 64, 65, 66, 67, 68, 69, 70, 71, 72, 73, 74, 75, 76, 77, 78, 79, 80, 81] (by decide +kernel) (by decide +kernel)
set_option maxRecDepth 20000 in
theorem gX7_lease_X7_no : GoodIn wsX7_lease (wsV RX7 118 RX7 yX7_no wsX7_no) := goodIn_app (goodIn_of _ (by decide +kernel)) ggX7_lease_X7_no
set_option maxRecDepth 20000 in
theorem ggX7_lease_X7_isIn : GoodIn wsX7_lease wsX7_isIn := goodIn_r _ [15] (by decide +kernel) (by decide +kernel)
set_option maxRecDepth 20000 in
theorem gX7_lease_X7_isIn : GoodIn wsX7_lease (va_wsS RX7 104 yX7_isIn wsX7_isIn) := goodIn_app (goodIn_of _ (by decide +kernel)) ggX7_lease_X7_isIn
set_option maxRecDepth 20000 in
theorem ggX7_lease_X7_reach : GoodIn wsX7_lease wsX7_reach := goodIn_r _ [27, 1, 28, 29, 47, 48, 49, 50, 51, 52, 53, 54, 55, 56, 57, 58, 59, 60, 61, 62, 63, 64, 65, 66, 67, 68, 69, 70, 71, 72, 73, 74, 75, 76, 77, 78, 79, 80, 81] (by decide +kernel) (by decide +kernel)
set_option maxRecDepth 20000 in
theorem gX7_lease_X7_reach : GoodIn wsX7_lease (wsV RX7 145 RX7 yX7_reach wsX7_reach) := goodIn_app (goodIn_of _ (by decide +kernel)) ggX7_lease_X7_reach
set_option maxRecDepth 20000 in
theorem ggX7_lease_X7_votes : GoodIn wsX7_lease wsX7_votes := goodIn_r _ [33, 4, 3, 47, 48, 49, 50, 51, 52, 53, 54, 55, 56, 57, 58, 59, 60, 61, 62, 63, 64, 65, 66, 67, 68, 69, 70, 71, 72, 73, 74, 75, 76, 77, 78, 79, 80, 81] (by decide +kernel) (by decide +kernel)
set_option maxRecDepth 20000 in
theorem gX7_lease_X7_votes : GoodIn wsX7_lease (wsV RX7 149 RX7 yX7_votes wsX7_votes) := goodIn_app (goodIn_of _ (by decide +kernel)) ggX7_lease_X7_votes
set_option maxRecDepth 20000 in
theorem ggX7_lease_X7_rests : GoodIn wsX7_lease wsX7_rests := goodIn_r _ [37, 38, 3, 39, 47, 48, 49, 50, 51, 52, 53, 54, 55, 56, 57, 58, 59, 60, 61, 62, 63, 64, 65, 66, 67, 68, 69, 70, 71, 72, 73, 74, 75, 76, 77, 78, 79, 80, 81] (by decide +kernel) (by decide +kernel)
set_option maxRecDepth 20000 in
theorem gX7_lease_X7_rests : GoodIn wsX7_lease (wsV RX7 152 RX7 yX7_rests wsX7_rests) := goodIn_app (goodIn_of _ (by decide +kernel)) ggX7_lease_X7_rests
set_option maxRecDepth 20000 in
theorem ggX7_lease_X7_quorum : GoodIn wsX7_lease wsX7_quorum := goodIn_r _ [43, 1, 44, 45, 8, 46, 47, 48, 49, 50, 51, 52, 53, 54, 55, 56, 57, 58, 59, 60, 61, 62, 63, 64, 65, 66, 67, 68, 69, 70, 71, 72, 73, 74, 75, 76, 77, 78, 79, 80, 81] (by decide +kernel) (by decide +kernel)
set_option maxRecDepth 20000 in
theorem gX7_lease_X7_quorum : GoodIn wsX7_lease (wsV RX7 155 RX7 yX7_quorum wsX7_quorum) := goodIn_app (goodIn_of _ (by decide +kernel)) ggX7_lease_X7_quorum
theorem dX7_lease_0 : decode cX7_lease 0 = .ok (.aload_n 0, 1) := by decide +kernel
theorem dX7_lease_1 : decode cX7_lease 1 = .ok (.iload_n 2, 1) := by decide +kernel
theorem dX7_lease_2 : decode cX7_lease 2 = .ok (.invokestatic 108, 3) := by decide +kernel
theorem dX7_lease_5 : decode cX7_lease 5 = .ok (.ifCond .eq 21, 3) := by decide +kernel
theorem dX7_lease_8 : decode cX7_lease 8 = .ok (.iload_n 3, 1) := by decide +kernel
theorem dX7_lease_9 : decode cX7_lease 9 = .ok (.invokestatic 142, 3) := by decide +kernel
theorem dX7_lease_12 : decode cX7_lease 12 = .ok (.ifCond .eq 14, 3) := by decide +kernel
theorem dX7_lease_15 : decode cX7_lease 15 = .ok (.iload_n 1, 1) := by decide +kernel
theorem dX7_lease_16 : decode cX7_lease 16 = .ok (.invokestatic 136, 3) := by decide +kernel
theorem dX7_lease_19 : decode cX7_lease 19 = .ok (.ifCond .eq 7, 3) := by decide +kernel
theorem dX7_lease_22 : decode cX7_lease 22 = .ok (.iconst 1, 1) := by decide +kernel
theorem dX7_lease_23 : decode cX7_lease 23 = .ok (.goto 4, 3) := by decide +kernel
theorem dX7_lease_26 : decode cX7_lease 26 = .ok (.iconst 0, 1) := by decide +kernel
theorem dX7_lease_27 : decode cX7_lease 27 = .ok (.iconst 1, 1) := by decide +kernel
theorem dX7_lease_28 : decode cX7_lease 28 = .ok (.invokevirtual 118, 3) := by decide +kernel
theorem dX7_lease_31 : decode cX7_lease 31 = .ok (.ifCond .ne 19, 3) := by decide +kernel
theorem dX7_lease_34 : decode cX7_lease 34 = .ok (.aload_n 0, 1) := by decide +kernel
theorem dX7_lease_35 : decode cX7_lease 35 = .ok (.iload 4, 2) := by decide +kernel
theorem dX7_lease_37 : decode cX7_lease 37 = .ok (.iconst 1, 1) := by decide +kernel
theorem dX7_lease_38 : decode cX7_lease 38 = .ok (.bipush 20, 2) := by decide +kernel
theorem dX7_lease_40 : decode cX7_lease 40 = .ok (.invokestatic 104, 3) := by decide +kernel
theorem dX7_lease_43 : decode cX7_lease 43 = .ok (.iconst 2, 1) := by decide +kernel
theorem dX7_lease_44 : decode cX7_lease 44 = .ok (.invokevirtual 118, 3) := by decide +kernel
theorem dX7_lease_47 : decode cX7_lease 47 = .ok (.ifCond .eq 5, 3) := by decide +kernel
theorem dX7_lease_50 : decode cX7_lease 50 = .ok (.iconst 0, 1) := by decide +kernel
theorem dX7_lease_51 : decode cX7_lease 51 = .ok (.ireturn, 1) := by decide +kernel
theorem dX7_lease_52 : decode cX7_lease 52 = .ok (.aload_n 0, 1) := by decide +kernel
theorem dX7_lease_53 : decode cX7_lease 53 = .ok (.iload_n 2, 1) := by decide +kernel
theorem dX7_lease_54 : decode cX7_lease 54 = .ok (.iload_n 1, 1) := by decide +kernel
theorem dX7_lease_55 : decode cX7_lease 55 = .ok (.invokevirtual 145, 3) := by decide +kernel
theorem dX7_lease_58 : decode cX7_lease 58 = .ok (.istore 5, 2) := by decide +kernel
theorem dX7_lease_60 : decode cX7_lease 60 = .ok (.iconst 0, 1) := by decide +kernel
theorem dX7_lease_61 : decode cX7_lease 61 = .ok (.istore 6, 2) := by decide +kernel
theorem dX7_lease_63 : decode cX7_lease 63 = .ok (.iload 6, 2) := by decide +kernel
theorem dX7_lease_65 : decode cX7_lease 65 = .ok (.aload_n 0, 1) := by decide +kernel
theorem dX7_lease_66 : decode cX7_lease 66 = .ok (.getfield 7, 3) := by decide +kernel
theorem dX7_lease_69 : decode cX7_lease 69 = .ok (.iload_n 2, 1) := by decide +kernel
theorem dX7_lease_70 : decode cX7_lease 70 = .ok (.iaload, 1) := by decide +kernel
theorem dX7_lease_71 : decode cX7_lease 71 = .ok (.if_icmp .ge 73, 3) := by decide +kernel
theorem dX7_lease_74 : decode cX7_lease 74 = .ok (.aload_n 0, 1) := by decide +kernel
theorem dX7_lease_75 : decode cX7_lease 75 = .ok (.iload_n 2, 1) := by decide +kernel
theorem dX7_lease_76 : decode cX7_lease 76 = .ok (.iload 6, 2) := by decide +kernel
theorem dX7_lease_78 : decode cX7_lease 78 = .ok (.iload_n 3, 1) := by decide +kernel
theorem dX7_lease_79 : decode cX7_lease 79 = .ok (.invokevirtual 149, 3) := by decide +kernel
theorem dX7_lease_82 : decode cX7_lease 82 = .ok (.ifCond .eq 27, 3) := by decide +kernel
theorem dX7_lease_85 : decode cX7_lease 85 = .ok (.aload_n 0, 1) := by decide +kernel
theorem dX7_lease_86 : decode cX7_lease 86 = .ok (.getfield 32, 3) := by decide +kernel
theorem dX7_lease_89 : decode cX7_lease 89 = .ok (.iload_n 2, 1) := by decide +kernel
theorem dX7_lease_90 : decode cX7_lease 90 = .ok (.bipush 7, 2) := by decide +kernel
theorem dX7_lease_92 : decode cX7_lease 92 = .ok (.imul, 1) := by decide +kernel
theorem dX7_lease_93 : decode cX7_lease 93 = .ok (.iload 6, 2) := by decide +kernel
theorem dX7_lease_95 : decode cX7_lease 95 = .ok (.iadd, 1) := by decide +kernel
theorem dX7_lease_96 : decode cX7_lease 96 = .ok (.iconst 3, 1) := by decide +kernel
theorem dX7_lease_97 : decode cX7_lease 97 = .ok (.imul, 1) := by decide +kernel
theorem dX7_lease_98 : decode cX7_lease 98 = .ok (.iload_n 3, 1) := by decide +kernel
theorem dX7_lease_99 : decode cX7_lease 99 = .ok (.iadd, 1) := by decide +kernel
theorem dX7_lease_100 : decode cX7_lease 100 = .ok (.iaload, 1) := by decide +kernel
theorem dX7_lease_101 : decode cX7_lease 101 = .ok (.iload_n 1, 1) := by decide +kernel
theorem dX7_lease_102 : decode cX7_lease 102 = .ok (.if_icmp .eq 7, 3) := by decide +kernel
theorem dX7_lease_105 : decode cX7_lease 105 = .ok (.iconst 1, 1) := by decide +kernel
theorem dX7_lease_106 : decode cX7_lease 106 = .ok (.goto 4, 3) := by decide +kernel
theorem dX7_lease_109 : decode cX7_lease 109 = .ok (.iconst 0, 1) := by decide +kernel
theorem dX7_lease_110 : decode cX7_lease 110 = .ok (.istore 7, 2) := by decide +kernel
theorem dX7_lease_112 : decode cX7_lease 112 = .ok (.aload_n 0, 1) := by decide +kernel
theorem dX7_lease_113 : decode cX7_lease 113 = .ok (.iload_n 2, 1) := by decide +kernel
theorem dX7_lease_114 : decode cX7_lease 114 = .ok (.iload 6, 2) := by decide +kernel
theorem dX7_lease_116 : decode cX7_lease 116 = .ok (.invokevirtual 152, 3) := by decide +kernel
theorem dX7_lease_119 : decode cX7_lease 119 = .ok (.ifCond .ne 8, 3) := by decide +kernel
theorem dX7_lease_122 : decode cX7_lease 122 = .ok (.iload 7, 2) := by decide +kernel
theorem dX7_lease_124 : decode cX7_lease 124 = .ok (.ifCond .eq 14, 3) := by decide +kernel
theorem dX7_lease_127 : decode cX7_lease 127 = .ok (.iload 5, 2) := by decide +kernel
theorem dX7_lease_129 : decode cX7_lease 129 = .ok (.iconst 1, 1) := by decide +kernel
theorem dX7_lease_130 : decode cX7_lease 130 = .ok (.iload 6, 2) := by decide +kernel
theorem dX7_lease_132 : decode cX7_lease 132 = .ok (.ishl, 1) := by decide +kernel
theorem dX7_lease_133 : decode cX7_lease 133 = .ok (.iconst (-1), 1) := by decide +kernel
theorem dX7_lease_134 : decode cX7_lease 134 = .ok (.ixor, 1) := by decide +kernel
theorem dX7_lease_135 : decode cX7_lease 135 = .ok (.iand, 1) := by decide +kernel
theorem dX7_lease_136 : decode cX7_lease 136 = .ok (.istore 5, 2) := by decide +kernel
theorem dX7_lease_138 : decode cX7_lease 138 = .ok (.iinc 6 1, 3) := by decide +kernel
theorem dX7_lease_141 : decode cX7_lease 141 = .ok (.goto (-78), 3) := by decide +kernel
theorem dX7_lease_144 : decode cX7_lease 144 = .ok (.aload_n 0, 1) := by decide +kernel
theorem dX7_lease_145 : decode cX7_lease 145 = .ok (.aload_n 0, 1) := by decide +kernel
theorem dX7_lease_146 : decode cX7_lease 146 = .ok (.iload_n 2, 1) := by decide +kernel
theorem dX7_lease_147 : decode cX7_lease 147 = .ok (.iload 5, 2) := by decide +kernel
theorem dX7_lease_149 : decode cX7_lease 149 = .ok (.invokevirtual 155, 3) := by decide +kernel
theorem dX7_lease_152 : decode cX7_lease 152 = .ok (.iconst 3, 1) := by decide +kernel
theorem dX7_lease_153 : decode cX7_lease 153 = .ok (.invokevirtual 118, 3) := by decide +kernel
theorem dX7_lease_156 : decode cX7_lease 156 = .ok (.ifCond .eq 5, 3) := by decide +kernel
theorem dX7_lease_159 : decode cX7_lease 159 = .ok (.iconst 0, 1) := by decide +kernel
theorem dX7_lease_160 : decode cX7_lease 160 = .ok (.ireturn, 1) := by decide +kernel
theorem dX7_lease_161 : decode cX7_lease 161 = .ok (.aload_n 0, 1) := by decide +kernel
theorem dX7_lease_162 : decode cX7_lease 162 = .ok (.getfield 126, 3) := by decide +kernel
theorem dX7_lease_165 : decode cX7_lease 165 = .ok (.iload 4, 2) := by decide +kernel
theorem dX7_lease_167 : decode cX7_lease 167 = .ok (.iadd, 1) := by decide +kernel
theorem dX7_lease_168 : decode cX7_lease 168 = .ok (.istore 6, 2) := by decide +kernel
theorem dX7_lease_170 : decode cX7_lease 170 = .ok (.iconst 0, 1) := by decide +kernel
theorem dX7_lease_171 : decode cX7_lease 171 = .ok (.istore 7, 2) := by decide +kernel
theorem dX7_lease_173 : decode cX7_lease 173 = .ok (.iload 7, 2) := by decide +kernel
theorem dX7_lease_175 : decode cX7_lease 175 = .ok (.aload_n 0, 1) := by decide +kernel
theorem dX7_lease_176 : decode cX7_lease 176 = .ok (.getfield 7, 3) := by decide +kernel
theorem dX7_lease_179 : decode cX7_lease 179 = .ok (.iload_n 2, 1) := by decide +kernel
theorem dX7_lease_180 : decode cX7_lease 180 = .ok (.iaload, 1) := by decide +kernel
theorem dX7_lease_181 : decode cX7_lease 181 = .ok (.if_icmp .ge 74, 3) := by decide +kernel
theorem dX7_lease_184 : decode cX7_lease 184 = .ok (.iload_n 2, 1) := by decide +kernel
theorem dX7_lease_185 : decode cX7_lease 185 = .ok (.bipush 7, 2) := by decide +kernel
theorem dX7_lease_187 : decode cX7_lease 187 = .ok (.imul, 1) := by decide +kernel
theorem dX7_lease_188 : decode cX7_lease 188 = .ok (.iload 7, 2) := by decide +kernel
theorem dX7_lease_190 : decode cX7_lease 190 = .ok (.iadd, 1) := by decide +kernel
theorem dX7_lease_191 : decode cX7_lease 191 = .ok (.iconst 3, 1) := by decide +kernel
theorem dX7_lease_192 : decode cX7_lease 192 = .ok (.imul, 1) := by decide +kernel
theorem dX7_lease_193 : decode cX7_lease 193 = .ok (.iload_n 3, 1) := by decide +kernel
theorem dX7_lease_194 : decode cX7_lease 194 = .ok (.iadd, 1) := by decide +kernel
theorem dX7_lease_195 : decode cX7_lease 195 = .ok (.istore 8, 2) := by decide +kernel
theorem dX7_lease_197 : decode cX7_lease 197 = .ok (.iload 5, 2) := by decide +kernel
theorem dX7_lease_199 : decode cX7_lease 199 = .ok (.iload 7, 2) := by decide +kernel
theorem dX7_lease_201 : decode cX7_lease 201 = .ok (.ishr, 1) := by decide +kernel
theorem dX7_lease_202 : decode cX7_lease 202 = .ok (.iconst 1, 1) := by decide +kernel
theorem dX7_lease_203 : decode cX7_lease 203 = .ok (.iand, 1) := by decide +kernel
theorem dX7_lease_204 : decode cX7_lease 204 = .ok (.ifCond .ne 6, 3) := by decide +kernel
theorem dX7_lease_207 : decode cX7_lease 207 = .ok (.goto 42, 3) := by decide +kernel
theorem dX7_lease_210 : decode cX7_lease 210 = .ok (.aload_n 0, 1) := by decide +kernel
theorem dX7_lease_211 : decode cX7_lease 211 = .ok (.getfield 35, 3) := by decide +kernel
theorem dX7_lease_214 : decode cX7_lease 214 = .ok (.iload 8, 2) := by decide +kernel
theorem dX7_lease_216 : decode cX7_lease 216 = .ok (.aload_n 0, 1) := by decide +kernel
theorem dX7_lease_217 : decode cX7_lease 217 = .ok (.getfield 35, 3) := by decide +kernel
theorem dX7_lease_220 : decode cX7_lease 220 = .ok (.iload 8, 2) := by decide +kernel
theorem dX7_lease_222 : decode cX7_lease 222 = .ok (.iaload, 1) := by decide +kernel
theorem dX7_lease_223 : decode cX7_lease 223 = .ok (.iload 6, 2) := by decide +kernel
theorem dX7_lease_225 : decode cX7_lease 225 = .ok (.if_icmp .le 13, 3) := by decide +kernel
theorem dX7_lease_228 : decode cX7_lease 228 = .ok (.aload_n 0, 1) := by decide +kernel
theorem dX7_lease_229 : decode cX7_lease 229 = .ok (.getfield 35, 3) := by decide +kernel
theorem dX7_lease_232 : decode cX7_lease 232 = .ok (.iload 8, 2) := by decide +kernel
theorem dX7_lease_234 : decode cX7_lease 234 = .ok (.iaload, 1) := by decide +kernel
theorem dX7_lease_235 : decode cX7_lease 235 = .ok (.goto 5, 3) := by decide +kernel
theorem dX7_lease_238 : decode cX7_lease 238 = .ok (.iload 6, 2) := by decide +kernel
theorem dX7_lease_240 : decode cX7_lease 240 = .ok (.iastore, 1) := by decide +kernel
theorem dX7_lease_241 : decode cX7_lease 241 = .ok (.aload_n 0, 1) := by decide +kernel
theorem dX7_lease_242 : decode cX7_lease 242 = .ok (.getfield 32, 3) := by decide +kernel
theorem dX7_lease_245 : decode cX7_lease 245 = .ok (.iload 8, 2) := by decide +kernel
theorem dX7_lease_247 : decode cX7_lease 247 = .ok (.iload_n 1, 1) := by decide +kernel
theorem dX7_lease_248 : decode cX7_lease 248 = .ok (.iastore, 1) := by decide +kernel
theorem dX7_lease_249 : decode cX7_lease 249 = .ok (.iinc 7 1, 3) := by decide +kernel
theorem dX7_lease_252 : decode cX7_lease 252 = .ok (.goto (-79), 3) := by decide +kernel
theorem dX7_lease_255 : decode cX7_lease 255 = .ok (.iload_n 2, 1) := by decide +kernel
theorem dX7_lease_256 : decode cX7_lease 256 = .ok (.iconst 4, 1) := by decide +kernel
theorem dX7_lease_257 : decode cX7_lease 257 = .ok (.imul, 1) := by decide +kernel
theorem dX7_lease_258 : decode cX7_lease 258 = .ok (.iload_n 1, 1) := by decide +kernel
theorem dX7_lease_259 : decode cX7_lease 259 = .ok (.iadd, 1) := by decide +kernel
theorem dX7_lease_260 : decode cX7_lease 260 = .ok (.iconst 3, 1) := by decide +kernel
theorem dX7_lease_261 : decode cX7_lease 261 = .ok (.imul, 1) := by decide +kernel
theorem dX7_lease_262 : decode cX7_lease 262 = .ok (.iload_n 3, 1) := by decide +kernel
theorem dX7_lease_263 : decode cX7_lease 263 = .ok (.iadd, 1) := by decide +kernel
theorem dX7_lease_264 : decode cX7_lease 264 = .ok (.istore 7, 2) := by decide +kernel
theorem dX7_lease_266 : decode cX7_lease 266 = .ok (.aload_n 0, 1) := by decide +kernel
theorem dX7_lease_267 : decode cX7_lease 267 = .ok (.getfield 38, 3) := by decide +kernel
theorem dX7_lease_270 : decode cX7_lease 270 = .ok (.iload 7, 2) := by decide +kernel
theorem dX7_lease_272 : decode cX7_lease 272 = .ok (.aload_n 0, 1) := by decide +kernel
theorem dX7_lease_273 : decode cX7_lease 273 = .ok (.getfield 38, 3) := by decide +kernel
theorem dX7_lease_276 : decode cX7_lease 276 = .ok (.iload 7, 2) := by decide +kernel
theorem dX7_lease_278 : decode cX7_lease 278 = .ok (.iaload, 1) := by decide +kernel
theorem dX7_lease_279 : decode cX7_lease 279 = .ok (.iload 6, 2) := by decide +kernel
theorem dX7_lease_281 : decode cX7_lease 281 = .ok (.if_icmp .le 13, 3) := by decide +kernel
theorem dX7_lease_284 : decode cX7_lease 284 = .ok (.aload_n 0, 1) := by decide +kernel
theorem dX7_lease_285 : decode cX7_lease 285 = .ok (.getfield 38, 3) := by decide +kernel
theorem dX7_lease_288 : decode cX7_lease 288 = .ok (.iload 7, 2) := by decide +kernel
theorem dX7_lease_290 : decode cX7_lease 290 = .ok (.iaload, 1) := by decide +kernel
theorem dX7_lease_291 : decode cX7_lease 291 = .ok (.goto 5, 3) := by decide +kernel
theorem dX7_lease_294 : decode cX7_lease 294 = .ok (.iload 6, 2) := by decide +kernel
theorem dX7_lease_296 : decode cX7_lease 296 = .ok (.iastore, 1) := by decide +kernel
theorem dX7_lease_297 : decode cX7_lease 297 = .ok (.aload_n 0, 1) := by decide +kernel
theorem dX7_lease_298 : decode cX7_lease 298 = .ok (.getfield 38, 3) := by decide +kernel
theorem dX7_lease_301 : decode cX7_lease 301 = .ok (.iload 7, 2) := by decide +kernel
theorem dX7_lease_303 : decode cX7_lease 303 = .ok (.iaload, 1) := by decide +kernel
theorem dX7_lease_304 : decode cX7_lease 304 = .ok (.ireturn, 1) := by decide +kernel
set_option maxRecDepth 20000 in
theorem ggX7_giveUp_X7_isCastle : GoodIn wsX7_giveUp wsX7_isCastle := goodIn_r _ [8] (by decide +kernel) (by decide +kernel)
set_option maxRecDepth 20000 in
theorem gX7_giveUp_X7_isCastle : GoodIn wsX7_giveUp (va_wsS RX7 108 yX7_isCastle wsX7_isCastle) := goodIn_app (goodIn_of _ (by decide +kernel)) ggX7_giveUp_X7_isCastle
set_option maxRecDepth 20000 in
theorem ggX7_giveUp_X7_isGate : GoodIn wsX7_giveUp wsX7_isGate := goodIn_r _ [11, 12, 13, 7, 14] (by decide +kernel) (by decide +kernel)
set_option maxRecDepth 20000 in
theorem gX7_giveUp_X7_isGate : GoodIn wsX7_giveUp (va_wsS RX7 142 yX7_isGate wsX7_isGate) := goodIn_app (goodIn_of _ (by decide +kernel)) ggX7_giveUp_X7_isGate
set_option maxRecDepth 20000 in
theorem ggX7_giveUp_X7_isLord : GoodIn wsX7_giveUp wsX7_isLord := goodIn_r _ [17, 12, 13, 7, 14] (by decide +kernel) (by decide +kernel)
set_option maxRecDepth 20000 in
theorem gX7_giveUp_X7_isLord : GoodIn wsX7_giveUp (va_wsS RX7 136 yX7_isLord wsX7_isLord) := goodIn_app (goodIn_of _ (by decide +kernel)) ggX7_giveUp_X7_isLord
set_option maxRecDepth 20000 in
theorem ggX7_giveUp_X7_no : GoodIn wsX7_giveUp wsX7_no := goodIn_r _ [21, 22, 38, 39, 40, 41, 42, 43, 44, 45, 46, 47, 48, 49, 50, 51, 52, 53, 54, 55, 56, 57, 58, 59, 60, 61, 62, 63, 64, 65, 66, 67, 68, 69, 70, 71, 72] (by decide +kernel) (by decide +kernel)
set_option maxRecDepth 20000 in
theorem gX7_giveUp_X7_no : GoodIn wsX7_giveUp (wsV RX7 118 RX7 yX7_no wsX7_no) := goodIn_app (goodIn_of _ (by decide +kernel)) ggX7_giveUp_X7_no
set_option maxRecDepth 20000 in
theorem ggX7_giveUp_X7_opens : GoodIn wsX7_giveUp wsX7_opens := goodIn_r _ [26, 4, 27, 38, 39, 40, 41, 42, 43, 44, 45, 46, 47, 48, 49, 50, 51, 52, 53, 54, 55, 56, 57, 58, 59, 60, 61, 62, 63, 64, 65, 66, 67, 68, 69, 70, 71, 72] (by decide +kernel) (by decide +kernel)
set_option maxRecDepth 20000 in
theorem gX7_giveUp_X7_opens : GoodIn wsX7_giveUp (wsV RX7 158 RX7 yX7_opens wsX7_opens) := goodIn_app (goodIn_of _ (by decide +kernel)) ggX7_giveUp_X7_opens
set_option maxRecDepth 20000 in
theorem ggX7_giveUp_X7_reach : GoodIn wsX7_giveUp wsX7_reach := goodIn_r _ [31, 1, 32, 33, 38, 39, 40, 41, 42, 43, 44, 45, 46, 47, 48, 49, 50, 51, 52, 53, 54, 55, 56, 57, 58, 59, 60, 61, 62, 63, 64, 65, 66, 67, 68, 69, 70, 71, 72] (by decide +kernel) (by decide +kernel)
set_option maxRecDepth 20000 in
theorem gX7_giveUp_X7_reach : GoodIn wsX7_giveUp (wsV RX7 145 RX7 yX7_reach wsX7_reach) := goodIn_app (goodIn_of _ (by decide +kernel)) ggX7_giveUp_X7_reach
set_option maxRecDepth 20000 in
theorem ggX7_giveUp_X7_votes : GoodIn wsX7_giveUp wsX7_votes := goodIn_r _ [37, 3, 27, 38, 39, 40, 41, 42, 43, 44, 45, 46, 47, 48, 49, 50, 51, 52, 53, 54, 55, 56, 57, 58, 59, 60, 61, 62, 63, 64, 65, 66, 67, 68, 69, 70, 71, 72] (by decide +kernel) (by decide +kernel)
set_option maxRecDepth 20000 in
theorem gX7_giveUp_X7_votes : GoodIn wsX7_giveUp (wsV RX7 149 RX7 yX7_votes wsX7_votes) := goodIn_app (goodIn_of _ (by decide +kernel)) ggX7_giveUp_X7_votes
theorem dX7_giveUp_0 : decode cX7_giveUp 0 = .ok (.aload_n 0, 1) := by decide +kernel
theorem dX7_giveUp_1 : decode cX7_giveUp 1 = .ok (.iload_n 2, 1) := by decide +kernel
theorem dX7_giveUp_2 : decode cX7_giveUp 2 = .ok (.invokestatic 108, 3) := by decide +kernel
theorem dX7_giveUp_5 : decode cX7_giveUp 5 = .ok (.ifCond .eq 21, 3) := by decide +kernel
theorem dX7_giveUp_8 : decode cX7_giveUp 8 = .ok (.iload_n 3, 1) := by decide +kernel
theorem dX7_giveUp_9 : decode cX7_giveUp 9 = .ok (.invokestatic 142, 3) := by decide +kernel
theorem dX7_giveUp_12 : decode cX7_giveUp 12 = .ok (.ifCond .eq 14, 3) := by decide +kernel
theorem dX7_giveUp_15 : decode cX7_giveUp 15 = .ok (.iload_n 1, 1) := by decide +kernel
theorem dX7_giveUp_16 : decode cX7_giveUp 16 = .ok (.invokestatic 136, 3) := by decide +kernel
theorem dX7_giveUp_19 : decode cX7_giveUp 19 = .ok (.ifCond .eq 7, 3) := by decide +kernel
theorem dX7_giveUp_22 : decode cX7_giveUp 22 = .ok (.iconst 1, 1) := by decide +kernel
theorem dX7_giveUp_23 : decode cX7_giveUp 23 = .ok (.goto 4, 3) := by decide +kernel
theorem dX7_giveUp_26 : decode cX7_giveUp 26 = .ok (.iconst 0, 1) := by decide +kernel
theorem dX7_giveUp_27 : decode cX7_giveUp 27 = .ok (.iconst 1, 1) := by decide +kernel
theorem dX7_giveUp_28 : decode cX7_giveUp 28 = .ok (.invokevirtual 118, 3) := by decide +kernel
theorem dX7_giveUp_31 : decode cX7_giveUp 31 = .ok (.ifCond .ne 18, 3) := by decide +kernel
theorem dX7_giveUp_34 : decode cX7_giveUp 34 = .ok (.aload_n 0, 1) := by decide +kernel
theorem dX7_giveUp_35 : decode cX7_giveUp 35 = .ok (.aload_n 0, 1) := by decide +kernel
theorem dX7_giveUp_36 : decode cX7_giveUp 36 = .ok (.iload_n 2, 1) := by decide +kernel
theorem dX7_giveUp_37 : decode cX7_giveUp 37 = .ok (.iload_n 3, 1) := by decide +kernel
theorem dX7_giveUp_38 : decode cX7_giveUp 38 = .ok (.iload_n 1, 1) := by decide +kernel
theorem dX7_giveUp_39 : decode cX7_giveUp 39 = .ok (.invokevirtual 158, 3) := by decide +kernel
theorem dX7_giveUp_42 : decode cX7_giveUp 42 = .ok (.iconst 2, 1) := by decide +kernel
theorem dX7_giveUp_43 : decode cX7_giveUp 43 = .ok (.invokevirtual 118, 3) := by decide +kernel
theorem dX7_giveUp_46 : decode cX7_giveUp 46 = .ok (.ifCond .eq 5, 3) := by decide +kernel
theorem dX7_giveUp_49 : decode cX7_giveUp 49 = .ok (.iconst 0, 1) := by decide +kernel
theorem dX7_giveUp_50 : decode cX7_giveUp 50 = .ok (.ireturn, 1) := by decide +kernel
theorem dX7_giveUp_51 : decode cX7_giveUp 51 = .ok (.aload_n 0, 1) := by decide +kernel
theorem dX7_giveUp_52 : decode cX7_giveUp 52 = .ok (.iload_n 2, 1) := by decide +kernel
theorem dX7_giveUp_53 : decode cX7_giveUp 53 = .ok (.iload_n 1, 1) := by decide +kernel
theorem dX7_giveUp_54 : decode cX7_giveUp 54 = .ok (.invokevirtual 145, 3) := by decide +kernel
theorem dX7_giveUp_57 : decode cX7_giveUp 57 = .ok (.istore 4, 2) := by decide +kernel
theorem dX7_giveUp_59 : decode cX7_giveUp 59 = .ok (.iconst 0, 1) := by decide +kernel
theorem dX7_giveUp_60 : decode cX7_giveUp 60 = .ok (.istore 5, 2) := by decide +kernel
theorem dX7_giveUp_62 : decode cX7_giveUp 62 = .ok (.iconst 0, 1) := by decide +kernel
theorem dX7_giveUp_63 : decode cX7_giveUp 63 = .ok (.istore 6, 2) := by decide +kernel
theorem dX7_giveUp_65 : decode cX7_giveUp 65 = .ok (.iload 6, 2) := by decide +kernel
theorem dX7_giveUp_67 : decode cX7_giveUp 67 = .ok (.aload_n 0, 1) := by decide +kernel
theorem dX7_giveUp_68 : decode cX7_giveUp 68 = .ok (.getfield 7, 3) := by decide +kernel
theorem dX7_giveUp_71 : decode cX7_giveUp 71 = .ok (.iload_n 2, 1) := by decide +kernel
theorem dX7_giveUp_72 : decode cX7_giveUp 72 = .ok (.iaload, 1) := by decide +kernel
theorem dX7_giveUp_73 : decode cX7_giveUp 73 = .ok (.if_icmp .ge 68, 3) := by decide +kernel
theorem dX7_giveUp_76 : decode cX7_giveUp 76 = .ok (.iload_n 2, 1) := by decide +kernel
theorem dX7_giveUp_77 : decode cX7_giveUp 77 = .ok (.bipush 7, 2) := by decide +kernel
theorem dX7_giveUp_79 : decode cX7_giveUp 79 = .ok (.imul, 1) := by decide +kernel
theorem dX7_giveUp_80 : decode cX7_giveUp 80 = .ok (.iload 6, 2) := by decide +kernel
theorem dX7_giveUp_82 : decode cX7_giveUp 82 = .ok (.iadd, 1) := by decide +kernel
theorem dX7_giveUp_83 : decode cX7_giveUp 83 = .ok (.iconst 3, 1) := by decide +kernel
theorem dX7_giveUp_84 : decode cX7_giveUp 84 = .ok (.imul, 1) := by decide +kernel
theorem dX7_giveUp_85 : decode cX7_giveUp 85 = .ok (.iload_n 3, 1) := by decide +kernel
theorem dX7_giveUp_86 : decode cX7_giveUp 86 = .ok (.iadd, 1) := by decide +kernel
theorem dX7_giveUp_87 : decode cX7_giveUp 87 = .ok (.istore 7, 2) := by decide +kernel
theorem dX7_giveUp_89 : decode cX7_giveUp 89 = .ok (.iload 4, 2) := by decide +kernel
theorem dX7_giveUp_91 : decode cX7_giveUp 91 = .ok (.iload 6, 2) := by decide +kernel
theorem dX7_giveUp_93 : decode cX7_giveUp 93 = .ok (.ishr, 1) := by decide +kernel
theorem dX7_giveUp_94 : decode cX7_giveUp 94 = .ok (.iconst 1, 1) := by decide +kernel
theorem dX7_giveUp_95 : decode cX7_giveUp 95 = .ok (.iand, 1) := by decide +kernel
theorem dX7_giveUp_96 : decode cX7_giveUp 96 = .ok (.ifCond .eq 39, 3) := by decide +kernel
theorem dX7_giveUp_99 : decode cX7_giveUp 99 = .ok (.aload_n 0, 1) := by decide +kernel
theorem dX7_giveUp_100 : decode cX7_giveUp 100 = .ok (.iload_n 2, 1) := by decide +kernel
theorem dX7_giveUp_101 : decode cX7_giveUp 101 = .ok (.iload 6, 2) := by decide +kernel
theorem dX7_giveUp_103 : decode cX7_giveUp 103 = .ok (.iload_n 3, 1) := by decide +kernel
theorem dX7_giveUp_104 : decode cX7_giveUp 104 = .ok (.invokevirtual 149, 3) := by decide +kernel
theorem dX7_giveUp_107 : decode cX7_giveUp 107 = .ok (.ifCond .eq 28, 3) := by decide +kernel
theorem dX7_giveUp_110 : decode cX7_giveUp 110 = .ok (.aload_n 0, 1) := by decide +kernel
theorem dX7_giveUp_111 : decode cX7_giveUp 111 = .ok (.getfield 32, 3) := by decide +kernel
theorem dX7_giveUp_114 : decode cX7_giveUp 114 = .ok (.iload 7, 2) := by decide +kernel
theorem dX7_giveUp_116 : decode cX7_giveUp 116 = .ok (.iaload, 1) := by decide +kernel
theorem dX7_giveUp_117 : decode cX7_giveUp 117 = .ok (.iload_n 1, 1) := by decide +kernel
theorem dX7_giveUp_118 : decode cX7_giveUp 118 = .ok (.if_icmp .eq 6, 3) := by decide +kernel
theorem dX7_giveUp_121 : decode cX7_giveUp 121 = .ok (.goto 14, 3) := by decide +kernel
theorem dX7_giveUp_124 : decode cX7_giveUp 124 = .ok (.aload_n 0, 1) := by decide +kernel
theorem dX7_giveUp_125 : decode cX7_giveUp 125 = .ok (.getfield 35, 3) := by decide +kernel
theorem dX7_giveUp_128 : decode cX7_giveUp 128 = .ok (.iload 7, 2) := by decide +kernel
theorem dX7_giveUp_130 : decode cX7_giveUp 130 = .ok (.iconst 0, 1) := by decide +kernel
theorem dX7_giveUp_131 : decode cX7_giveUp 131 = .ok (.iastore, 1) := by decide +kernel
theorem dX7_giveUp_132 : decode cX7_giveUp 132 = .ok (.iinc 5 1, 3) := by decide +kernel
theorem dX7_giveUp_135 : decode cX7_giveUp 135 = .ok (.iinc 6 1, 3) := by decide +kernel
theorem dX7_giveUp_138 : decode cX7_giveUp 138 = .ok (.goto (-73), 3) := by decide +kernel
theorem dX7_giveUp_141 : decode cX7_giveUp 141 = .ok (.aload_n 0, 1) := by decide +kernel
theorem dX7_giveUp_142 : decode cX7_giveUp 142 = .ok (.getfield 38, 3) := by decide +kernel
theorem dX7_giveUp_145 : decode cX7_giveUp 145 = .ok (.iload_n 2, 1) := by decide +kernel
theorem dX7_giveUp_146 : decode cX7_giveUp 146 = .ok (.iconst 4, 1) := by decide +kernel
theorem dX7_giveUp_147 : decode cX7_giveUp 147 = .ok (.imul, 1) := by decide +kernel
theorem dX7_giveUp_148 : decode cX7_giveUp 148 = .ok (.iload_n 1, 1) := by decide +kernel
theorem dX7_giveUp_149 : decode cX7_giveUp 149 = .ok (.iadd, 1) := by decide +kernel
theorem dX7_giveUp_150 : decode cX7_giveUp 150 = .ok (.iconst 3, 1) := by decide +kernel
theorem dX7_giveUp_151 : decode cX7_giveUp 151 = .ok (.imul, 1) := by decide +kernel
theorem dX7_giveUp_152 : decode cX7_giveUp 152 = .ok (.iload_n 3, 1) := by decide +kernel
theorem dX7_giveUp_153 : decode cX7_giveUp 153 = .ok (.iadd, 1) := by decide +kernel
theorem dX7_giveUp_154 : decode cX7_giveUp 154 = .ok (.iconst 0, 1) := by decide +kernel
theorem dX7_giveUp_155 : decode cX7_giveUp 155 = .ok (.iastore, 1) := by decide +kernel
theorem dX7_giveUp_156 : decode cX7_giveUp 156 = .ok (.iload 5, 2) := by decide +kernel
theorem dX7_giveUp_158 : decode cX7_giveUp 158 = .ok (.ireturn, 1) := by decide +kernel
set_option maxRecDepth 20000 in
theorem ggX7_leaseOf_X7_isCastle : GoodIn wsX7_leaseOf wsX7_isCastle := goodIn_r _ [5] (by decide +kernel) (by decide +kernel)
set_option maxRecDepth 20000 in
theorem gX7_leaseOf_X7_isCastle : GoodIn wsX7_leaseOf (va_wsS RX7 108 yX7_isCastle wsX7_isCastle) := goodIn_app (goodIn_of _ (by decide +kernel)) ggX7_leaseOf_X7_isCastle
set_option maxRecDepth 20000 in
theorem ggX7_leaseOf_X7_isGate : GoodIn wsX7_leaseOf wsX7_isGate := goodIn_r _ [8, 9, 10, 4, 11] (by decide +kernel) (by decide +kernel)
set_option maxRecDepth 20000 in
theorem gX7_leaseOf_X7_isGate : GoodIn wsX7_leaseOf (va_wsS RX7 142 yX7_isGate wsX7_isGate) := goodIn_app (goodIn_of _ (by decide +kernel)) ggX7_leaseOf_X7_isGate
set_option maxRecDepth 20000 in
theorem ggX7_leaseOf_X7_isLord : GoodIn wsX7_leaseOf wsX7_isLord := goodIn_r _ [14, 9, 10, 4, 11] (by decide +kernel) (by decide +kernel)
set_option maxRecDepth 20000 in
theorem gX7_leaseOf_X7_isLord : GoodIn wsX7_leaseOf (va_wsS RX7 136 yX7_isLord wsX7_isLord) := goodIn_app (goodIn_of _ (by decide +kernel)) ggX7_leaseOf_X7_isLord
set_option maxRecDepth 20000 in
theorem ggX7_leaseOf_X7_no : GoodIn wsX7_leaseOf wsX7_no := goodIn_r _ [18, 19, 20, 21, 22, 23, 24, 25, 26, 27, 28, 29, 30, 31, 32, 33, 34, 35, 36, 37, 38, 39, 40, 41, 42, 43, 44, 45, 46, 47, 48, 49, 50, 51, 52, 53, 54] (by decide +kernel) (by decide +kernel)
set_option maxRecDepth 20000 in
theorem gX7_leaseOf_X7_no : GoodIn wsX7_leaseOf (wsV RX7 118 RX7 yX7_no wsX7_no) := goodIn_app (goodIn_of _ (by decide +kernel)) ggX7_leaseOf_X7_no
theorem dX7_leaseOf_0 : decode cX7_leaseOf 0 = .ok (.aload_n 0, 1) := by decide +kernel
theorem dX7_leaseOf_1 : decode cX7_leaseOf 1 = .ok (.iload_n 2, 1) := by decide +kernel
theorem dX7_leaseOf_2 : decode cX7_leaseOf 2 = .ok (.invokestatic 108, 3) := by decide +kernel
theorem dX7_leaseOf_5 : decode cX7_leaseOf 5 = .ok (.ifCond .eq 21, 3) := by decide +kernel
theorem dX7_leaseOf_8 : decode cX7_leaseOf 8 = .ok (.iload_n 3, 1) := by decide +kernel
theorem dX7_leaseOf_9 : decode cX7_leaseOf 9 = .ok (.invokestatic 142, 3) := by decide +kernel
theorem dX7_leaseOf_12 : decode cX7_leaseOf 12 = .ok (.ifCond .eq 14, 3) := by decide +kernel
theorem dX7_leaseOf_15 : decode cX7_leaseOf 15 = .ok (.iload_n 1, 1) := by decide +kernel
theorem dX7_leaseOf_16 : decode cX7_leaseOf 16 = .ok (.invokestatic 136, 3) := by decide +kernel
theorem dX7_leaseOf_19 : decode cX7_leaseOf 19 = .ok (.ifCond .eq 7, 3) := by decide +kernel
theorem dX7_leaseOf_22 : decode cX7_leaseOf 22 = .ok (.iconst 1, 1) := by decide +kernel
theorem dX7_leaseOf_23 : decode cX7_leaseOf 23 = .ok (.goto 4, 3) := by decide +kernel
theorem dX7_leaseOf_26 : decode cX7_leaseOf 26 = .ok (.iconst 0, 1) := by decide +kernel
theorem dX7_leaseOf_27 : decode cX7_leaseOf 27 = .ok (.iconst 1, 1) := by decide +kernel
theorem dX7_leaseOf_28 : decode cX7_leaseOf 28 = .ok (.invokevirtual 118, 3) := by decide +kernel
theorem dX7_leaseOf_31 : decode cX7_leaseOf 31 = .ok (.ifCond .eq 7, 3) := by decide +kernel
theorem dX7_leaseOf_34 : decode cX7_leaseOf 34 = .ok (.iconst 0, 1) := by decide +kernel
theorem dX7_leaseOf_35 : decode cX7_leaseOf 35 = .ok (.goto 17, 3) := by decide +kernel
theorem dX7_leaseOf_38 : decode cX7_leaseOf 38 = .ok (.aload_n 0, 1) := by decide +kernel
theorem dX7_leaseOf_39 : decode cX7_leaseOf 39 = .ok (.getfield 38, 3) := by decide +kernel
theorem dX7_leaseOf_42 : decode cX7_leaseOf 42 = .ok (.iload_n 2, 1) := by decide +kernel
theorem dX7_leaseOf_43 : decode cX7_leaseOf 43 = .ok (.iconst 4, 1) := by decide +kernel
theorem dX7_leaseOf_44 : decode cX7_leaseOf 44 = .ok (.imul, 1) := by decide +kernel
theorem dX7_leaseOf_45 : decode cX7_leaseOf 45 = .ok (.iload_n 1, 1) := by decide +kernel
theorem dX7_leaseOf_46 : decode cX7_leaseOf 46 = .ok (.iadd, 1) := by decide +kernel
theorem dX7_leaseOf_47 : decode cX7_leaseOf 47 = .ok (.iconst 3, 1) := by decide +kernel
theorem dX7_leaseOf_48 : decode cX7_leaseOf 48 = .ok (.imul, 1) := by decide +kernel
theorem dX7_leaseOf_49 : decode cX7_leaseOf 49 = .ok (.iload_n 3, 1) := by decide +kernel
theorem dX7_leaseOf_50 : decode cX7_leaseOf 50 = .ok (.iadd, 1) := by decide +kernel
theorem dX7_leaseOf_51 : decode cX7_leaseOf 51 = .ok (.iaload, 1) := by decide +kernel
theorem dX7_leaseOf_52 : decode cX7_leaseOf 52 = .ok (.ireturn, 1) := by decide +kernel
set_option maxRecDepth 20000 in
theorem ggX7_openFor_X7_isCastle : GoodIn wsX7_openFor wsX7_isCastle := goodIn_r _ [4] (by decide +kernel) (by decide +kernel)
set_option maxRecDepth 20000 in
theorem gX7_openFor_X7_isCastle : GoodIn wsX7_openFor (va_wsS RX7 108 yX7_isCastle wsX7_isCastle) := goodIn_app (goodIn_of _ (by decide +kernel)) ggX7_openFor_X7_isCastle
set_option maxRecDepth 20000 in
theorem ggX7_openFor_X7_isGate : GoodIn wsX7_openFor wsX7_isGate := goodIn_r _ [7, 8, 9, 3, 10] (by decide +kernel) (by decide +kernel)
set_option maxRecDepth 20000 in
theorem gX7_openFor_X7_isGate : GoodIn wsX7_openFor (va_wsS RX7 142 yX7_isGate wsX7_isGate) := goodIn_app (goodIn_of _ (by decide +kernel)) ggX7_openFor_X7_isGate
set_option maxRecDepth 20000 in
theorem ggX7_openFor_X7_no : GoodIn wsX7_openFor wsX7_no := goodIn_r _ [14, 15, 22, 23, 24, 25, 26, 27, 28, 29, 30, 31, 32, 33, 34, 35, 36, 37, 38, 39, 40, 41, 42, 43, 44, 45, 46, 47, 48, 49, 50, 51, 52, 53, 54, 55, 56] (by decide +kernel) (by decide +kernel)
set_option maxRecDepth 20000 in
theorem gX7_openFor_X7_no : GoodIn wsX7_openFor (wsV RX7 118 RX7 yX7_no wsX7_no) := goodIn_app (goodIn_of _ (by decide +kernel)) ggX7_openFor_X7_no
set_option maxRecDepth 20000 in
theorem ggX7_openFor_X7_opens : GoodIn wsX7_openFor wsX7_opens := goodIn_r _ [19, 20, 21, 22, 23, 24, 25, 26, 27, 28, 29, 30, 31, 32, 33, 34, 35, 36, 37, 38, 39, 40, 41, 42, 43, 44, 45, 46, 47, 48, 49, 50, 51, 52, 53, 54, 55, 56] (by decide +kernel) (by decide +kernel)
set_option maxRecDepth 20000 in
theorem gX7_openFor_X7_opens : GoodIn wsX7_openFor (wsV RX7 158 RX7 yX7_opens wsX7_opens) := goodIn_app (goodIn_of _ (by decide +kernel)) ggX7_openFor_X7_opens
theorem dX7_openFor_0 : decode cX7_openFor 0 = .ok (.aload_n 0, 1) := by decide +kernel
theorem dX7_openFor_1 : decode cX7_openFor 1 = .ok (.iload_n 1, 1) := by decide +kernel
theorem dX7_openFor_2 : decode cX7_openFor 2 = .ok (.invokestatic 108, 3) := by decide +kernel
theorem dX7_openFor_5 : decode cX7_openFor 5 = .ok (.ifCond .eq 14, 3) := by decide +kernel
theorem dX7_openFor_8 : decode cX7_openFor 8 = .ok (.iload_n 2, 1) := by decide +kernel
theorem dX7_openFor_9 : decode cX7_openFor 9 = .ok (.invokestatic 142, 3) := by decide +kernel
theorem dX7_openFor_12 : decode cX7_openFor 12 = .ok (.ifCond .eq 7, 3) := by decide +kernel
theorem dX7_openFor_15 : decode cX7_openFor 15 = .ok (.iconst 1, 1) := by decide +kernel
theorem dX7_openFor_16 : decode cX7_openFor 16 = .ok (.goto 4, 3) := by decide +kernel
theorem dX7_openFor_19 : decode cX7_openFor 19 = .ok (.iconst 0, 1) := by decide +kernel
theorem dX7_openFor_20 : decode cX7_openFor 20 = .ok (.iconst 1, 1) := by decide +kernel
theorem dX7_openFor_21 : decode cX7_openFor 21 = .ok (.invokevirtual 118, 3) := by decide +kernel
theorem dX7_openFor_24 : decode cX7_openFor 24 = .ok (.ifCond .eq 5, 3) := by decide +kernel
theorem dX7_openFor_27 : decode cX7_openFor 27 = .ok (.iconst 0, 1) := by decide +kernel
theorem dX7_openFor_28 : decode cX7_openFor 28 = .ok (.ireturn, 1) := by decide +kernel
theorem dX7_openFor_29 : decode cX7_openFor 29 = .ok (.iconst (-1), 1) := by decide +kernel
theorem dX7_openFor_30 : decode cX7_openFor 30 = .ok (.istore_n 3, 1) := by decide +kernel
theorem dX7_openFor_31 : decode cX7_openFor 31 = .ok (.iconst 0, 1) := by decide +kernel
theorem dX7_openFor_32 : decode cX7_openFor 32 = .ok (.istore 4, 2) := by decide +kernel
theorem dX7_openFor_34 : decode cX7_openFor 34 = .ok (.iload 4, 2) := by decide +kernel
theorem dX7_openFor_36 : decode cX7_openFor 36 = .ok (.iconst 4, 1) := by decide +kernel
theorem dX7_openFor_37 : decode cX7_openFor 37 = .ok (.if_icmp .ge 27, 3) := by decide +kernel
theorem dX7_openFor_40 : decode cX7_openFor 40 = .ok (.aload_n 0, 1) := by decide +kernel
theorem dX7_openFor_41 : decode cX7_openFor 41 = .ok (.iload_n 1, 1) := by decide +kernel
theorem dX7_openFor_42 : decode cX7_openFor 42 = .ok (.iload_n 2, 1) := by decide +kernel
theorem dX7_openFor_43 : decode cX7_openFor 43 = .ok (.iload 4, 2) := by decide +kernel
theorem dX7_openFor_45 : decode cX7_openFor 45 = .ok (.invokevirtual 158, 3) := by decide +kernel
theorem dX7_openFor_48 : decode cX7_openFor 48 = .ok (.ifCond .eq 8, 3) := by decide +kernel
theorem dX7_openFor_51 : decode cX7_openFor 51 = .ok (.iload 4, 2) := by decide +kernel
theorem dX7_openFor_53 : decode cX7_openFor 53 = .ok (.goto 4, 3) := by decide +kernel
theorem dX7_openFor_56 : decode cX7_openFor 56 = .ok (.iload_n 3, 1) := by decide +kernel
theorem dX7_openFor_57 : decode cX7_openFor 57 = .ok (.istore_n 3, 1) := by decide +kernel
theorem dX7_openFor_58 : decode cX7_openFor 58 = .ok (.iinc 4 1, 3) := by decide +kernel
theorem dX7_openFor_61 : decode cX7_openFor 61 = .ok (.goto (-27), 3) := by decide +kernel
theorem dX7_openFor_64 : decode cX7_openFor 64 = .ok (.aload_n 0, 1) := by decide +kernel
theorem dX7_openFor_65 : decode cX7_openFor 65 = .ok (.iload_n 3, 1) := by decide +kernel
theorem dX7_openFor_66 : decode cX7_openFor 66 = .ok (.ifCond .lt 7, 3) := by decide +kernel
theorem dX7_openFor_69 : decode cX7_openFor 69 = .ok (.iconst 1, 1) := by decide +kernel
theorem dX7_openFor_70 : decode cX7_openFor 70 = .ok (.goto 4, 3) := by decide +kernel
theorem dX7_openFor_73 : decode cX7_openFor 73 = .ok (.iconst 0, 1) := by decide +kernel
theorem dX7_openFor_74 : decode cX7_openFor 74 = .ok (.iconst 2, 1) := by decide +kernel
theorem dX7_openFor_75 : decode cX7_openFor 75 = .ok (.invokevirtual 118, 3) := by decide +kernel
theorem dX7_openFor_78 : decode cX7_openFor 78 = .ok (.ifCond .eq 7, 3) := by decide +kernel
theorem dX7_openFor_81 : decode cX7_openFor 81 = .ok (.iconst 0, 1) := by decide +kernel
theorem dX7_openFor_82 : decode cX7_openFor 82 = .ok (.goto 4, 3) := by decide +kernel
theorem dX7_openFor_85 : decode cX7_openFor 85 = .ok (.iload_n 3, 1) := by decide +kernel
theorem dX7_openFor_86 : decode cX7_openFor 86 = .ok (.ireturn, 1) := by decide +kernel
set_option maxRecDepth 20000 in
theorem ggX7_voteOf_X7_isTower : GoodIn wsX7_voteOf wsX7_isTower := goodIn_r _ [6, 7, 8, 9, 5, 10, 11, 12, 13, 28, 29, 30, 31, 32, 33, 34, 35, 36, 37, 38, 39, 40, 41, 42, 43, 44, 45, 46, 47, 48, 49, 50, 51, 52, 53, 54, 55, 56, 57, 58, 59, 60, 61, 62] (by decide +kernel) (by decide +kernel)
set_option maxRecDepth 20000 in
theorem gX7_voteOf_X7_isTower : GoodIn wsX7_voteOf (wsV RX7 129 RX7 yX7_isTower wsX7_isTower) := goodIn_app (goodIn_of _ (by decide +kernel)) ggX7_voteOf_X7_isTower
set_option maxRecDepth 20000 in
theorem ggX7_voteOf_X7_isGate : GoodIn wsX7_voteOf wsX7_isGate := goodIn_r _ [16, 11, 12, 5, 13] (by decide +kernel) (by decide +kernel)
set_option maxRecDepth 20000 in
theorem gX7_voteOf_X7_isGate : GoodIn wsX7_voteOf (va_wsS RX7 142 yX7_isGate wsX7_isGate) := goodIn_app (goodIn_of _ (by decide +kernel)) ggX7_voteOf_X7_isGate
set_option maxRecDepth 20000 in
theorem ggX7_voteOf_X7_no : GoodIn wsX7_voteOf wsX7_no := goodIn_r _ [20, 21, 28, 29, 30, 31, 32, 33, 34, 35, 36, 37, 38, 39, 40, 41, 42, 43, 44, 45, 46, 47, 48, 49, 50, 51, 52, 53, 54, 55, 56, 57, 58, 59, 60, 61, 62] (by decide +kernel) (by decide +kernel)
set_option maxRecDepth 20000 in
theorem gX7_voteOf_X7_no : GoodIn wsX7_voteOf (wsV RX7 118 RX7 yX7_no wsX7_no) := goodIn_app (goodIn_of _ (by decide +kernel)) ggX7_voteOf_X7_no
set_option maxRecDepth 20000 in
theorem ggX7_voteOf_X7_votes : GoodIn wsX7_voteOf wsX7_votes := goodIn_r _ [25, 26, 27, 28, 29, 30, 31, 32, 33, 34, 35, 36, 37, 38, 39, 40, 41, 42, 43, 44, 45, 46, 47, 48, 49, 50, 51, 52, 53, 54, 55, 56, 57, 58, 59, 60, 61, 62] (by decide +kernel) (by decide +kernel)
set_option maxRecDepth 20000 in
theorem gX7_voteOf_X7_votes : GoodIn wsX7_voteOf (wsV RX7 149 RX7 yX7_votes wsX7_votes) := goodIn_app (goodIn_of _ (by decide +kernel)) ggX7_voteOf_X7_votes
theorem dX7_voteOf_0 : decode cX7_voteOf 0 = .ok (.aload_n 0, 1) := by decide +kernel
theorem dX7_voteOf_1 : decode cX7_voteOf 1 = .ok (.aload_n 0, 1) := by decide +kernel
theorem dX7_voteOf_2 : decode cX7_voteOf 2 = .ok (.iload_n 1, 1) := by decide +kernel
theorem dX7_voteOf_3 : decode cX7_voteOf 3 = .ok (.iload_n 2, 1) := by decide +kernel
theorem dX7_voteOf_4 : decode cX7_voteOf 4 = .ok (.invokevirtual 129, 3) := by decide +kernel
theorem dX7_voteOf_7 : decode cX7_voteOf 7 = .ok (.ifCond .eq 14, 3) := by decide +kernel
theorem dX7_voteOf_10 : decode cX7_voteOf 10 = .ok (.iload_n 3, 1) := by decide +kernel
theorem dX7_voteOf_11 : decode cX7_voteOf 11 = .ok (.invokestatic 142, 3) := by decide +kernel
theorem dX7_voteOf_14 : decode cX7_voteOf 14 = .ok (.ifCond .eq 7, 3) := by decide +kernel
theorem dX7_voteOf_17 : decode cX7_voteOf 17 = .ok (.iconst 1, 1) := by decide +kernel
theorem dX7_voteOf_18 : decode cX7_voteOf 18 = .ok (.goto 4, 3) := by decide +kernel
theorem dX7_voteOf_21 : decode cX7_voteOf 21 = .ok (.iconst 0, 1) := by decide +kernel
theorem dX7_voteOf_22 : decode cX7_voteOf 22 = .ok (.iconst 1, 1) := by decide +kernel
theorem dX7_voteOf_23 : decode cX7_voteOf 23 = .ok (.invokevirtual 118, 3) := by decide +kernel
theorem dX7_voteOf_26 : decode cX7_voteOf 26 = .ok (.ifCond .ne 18, 3) := by decide +kernel
theorem dX7_voteOf_29 : decode cX7_voteOf 29 = .ok (.aload_n 0, 1) := by decide +kernel
theorem dX7_voteOf_30 : decode cX7_voteOf 30 = .ok (.aload_n 0, 1) := by decide +kernel
theorem dX7_voteOf_31 : decode cX7_voteOf 31 = .ok (.iload_n 1, 1) := by decide +kernel
theorem dX7_voteOf_32 : decode cX7_voteOf 32 = .ok (.iload_n 2, 1) := by decide +kernel
theorem dX7_voteOf_33 : decode cX7_voteOf 33 = .ok (.iload_n 3, 1) := by decide +kernel
theorem dX7_voteOf_34 : decode cX7_voteOf 34 = .ok (.invokevirtual 149, 3) := by decide +kernel
theorem dX7_voteOf_37 : decode cX7_voteOf 37 = .ok (.iconst 2, 1) := by decide +kernel
theorem dX7_voteOf_38 : decode cX7_voteOf 38 = .ok (.invokevirtual 118, 3) := by decide +kernel
theorem dX7_voteOf_41 : decode cX7_voteOf 41 = .ok (.ifCond .eq 7, 3) := by decide +kernel
theorem dX7_voteOf_44 : decode cX7_voteOf 44 = .ok (.iconst 0, 1) := by decide +kernel
theorem dX7_voteOf_45 : decode cX7_voteOf 45 = .ok (.goto 18, 3) := by decide +kernel
theorem dX7_voteOf_48 : decode cX7_voteOf 48 = .ok (.aload_n 0, 1) := by decide +kernel
theorem dX7_voteOf_49 : decode cX7_voteOf 49 = .ok (.getfield 32, 3) := by decide +kernel
theorem dX7_voteOf_52 : decode cX7_voteOf 52 = .ok (.iload_n 1, 1) := by decide +kernel
theorem dX7_voteOf_53 : decode cX7_voteOf 53 = .ok (.bipush 7, 2) := by decide +kernel
theorem dX7_voteOf_55 : decode cX7_voteOf 55 = .ok (.imul, 1) := by decide +kernel
theorem dX7_voteOf_56 : decode cX7_voteOf 56 = .ok (.iload_n 2, 1) := by decide +kernel
theorem dX7_voteOf_57 : decode cX7_voteOf 57 = .ok (.iadd, 1) := by decide +kernel
theorem dX7_voteOf_58 : decode cX7_voteOf 58 = .ok (.iconst 3, 1) := by decide +kernel
theorem dX7_voteOf_59 : decode cX7_voteOf 59 = .ok (.imul, 1) := by decide +kernel
theorem dX7_voteOf_60 : decode cX7_voteOf 60 = .ok (.iload_n 3, 1) := by decide +kernel
theorem dX7_voteOf_61 : decode cX7_voteOf 61 = .ok (.iadd, 1) := by decide +kernel
theorem dX7_voteOf_62 : decode cX7_voteOf 62 = .ok (.iaload, 1) := by decide +kernel
theorem dX7_voteOf_63 : decode cX7_voteOf 63 = .ok (.ireturn, 1) := by decide +kernel
set_option maxRecDepth 20000 in
theorem ggX7_voteTill_X7_isTower : GoodIn wsX7_voteTill wsX7_isTower := goodIn_r _ [6, 7, 8, 9, 5, 10, 11, 12, 13, 27, 28, 29, 30, 31, 32, 33, 34, 35, 36, 37, 38, 39, 40, 41, 42, 43, 44, 45, 46, 47, 48, 49, 50, 51, 52, 53, 54, 55, 56, 57, 58, 59, 60, 61] (by decide +kernel) (by decide +kernel)
set_option maxRecDepth 20000 in
theorem gX7_voteTill_X7_isTower : GoodIn wsX7_voteTill (wsV RX7 129 RX7 yX7_isTower wsX7_isTower) := goodIn_app (goodIn_of _ (by decide +kernel)) ggX7_voteTill_X7_isTower
set_option maxRecDepth 20000 in
theorem ggX7_voteTill_X7_isGate : GoodIn wsX7_voteTill wsX7_isGate := goodIn_r _ [16, 11, 12, 5, 13] (by decide +kernel) (by decide +kernel)
set_option maxRecDepth 20000 in
theorem gX7_voteTill_X7_isGate : GoodIn wsX7_voteTill (va_wsS RX7 142 yX7_isGate wsX7_isGate) := goodIn_app (goodIn_of _ (by decide +kernel)) ggX7_voteTill_X7_isGate
set_option maxRecDepth 20000 in
theorem ggX7_voteTill_X7_no : GoodIn wsX7_voteTill wsX7_no := goodIn_r _ [20, 21, 27, 28, 29, 30, 31, 32, 33, 34, 35, 36, 37, 38, 39, 40, 41, 42, 43, 44, 45, 46, 47, 48, 49, 50, 51, 52, 53, 54, 55, 56, 57, 58, 59, 60, 61] (by decide +kernel) (by decide +kernel)
set_option maxRecDepth 20000 in
theorem gX7_voteTill_X7_no : GoodIn wsX7_voteTill (wsV RX7 118 RX7 yX7_no wsX7_no) := goodIn_app (goodIn_of _ (by decide +kernel)) ggX7_voteTill_X7_no
set_option maxRecDepth 20000 in
theorem ggX7_voteTill_X7_votes : GoodIn wsX7_voteTill wsX7_votes := goodIn_r _ [25, 1, 26, 27, 28, 29, 30, 31, 32, 33, 34, 35, 36, 37, 38, 39, 40, 41, 42, 43, 44, 45, 46, 47, 48, 49, 50, 51, 52, 53, 54, 55, 56, 57, 58, 59, 60, 61] (by decide +kernel) (by decide +kernel)
set_option maxRecDepth 20000 in
theorem gX7_voteTill_X7_votes : GoodIn wsX7_voteTill (wsV RX7 149 RX7 yX7_votes wsX7_votes) := goodIn_app (goodIn_of _ (by decide +kernel)) ggX7_voteTill_X7_votes
theorem dX7_voteTill_0 : decode cX7_voteTill 0 = .ok (.aload_n 0, 1) := by decide +kernel
theorem dX7_voteTill_1 : decode cX7_voteTill 1 = .ok (.aload_n 0, 1) := by decide +kernel
theorem dX7_voteTill_2 : decode cX7_voteTill 2 = .ok (.iload_n 1, 1) := by decide +kernel
theorem dX7_voteTill_3 : decode cX7_voteTill 3 = .ok (.iload_n 2, 1) := by decide +kernel
theorem dX7_voteTill_4 : decode cX7_voteTill 4 = .ok (.invokevirtual 129, 3) := by decide +kernel
theorem dX7_voteTill_7 : decode cX7_voteTill 7 = .ok (.ifCond .eq 14, 3) := by decide +kernel
theorem dX7_voteTill_10 : decode cX7_voteTill 10 = .ok (.iload_n 3, 1) := by decide +kernel
theorem dX7_voteTill_11 : decode cX7_voteTill 11 = .ok (.invokestatic 142, 3) := by decide +kernel
theorem dX7_voteTill_14 : decode cX7_voteTill 14 = .ok (.ifCond .eq 7, 3) := by decide +kernel
theorem dX7_voteTill_17 : decode cX7_voteTill 17 = .ok (.iconst 1, 1) := by decide +kernel
theorem dX7_voteTill_18 : decode cX7_voteTill 18 = .ok (.goto 4, 3) := by decide +kernel
theorem dX7_voteTill_21 : decode cX7_voteTill 21 = .ok (.iconst 0, 1) := by decide +kernel
theorem dX7_voteTill_22 : decode cX7_voteTill 22 = .ok (.iconst 1, 1) := by decide +kernel
theorem dX7_voteTill_23 : decode cX7_voteTill 23 = .ok (.invokevirtual 118, 3) := by decide +kernel
theorem dX7_voteTill_26 : decode cX7_voteTill 26 = .ok (.ifCond .ne 18, 3) := by decide +kernel
theorem dX7_voteTill_29 : decode cX7_voteTill 29 = .ok (.aload_n 0, 1) := by decide +kernel
theorem dX7_voteTill_30 : decode cX7_voteTill 30 = .ok (.aload_n 0, 1) := by decide +kernel
theorem dX7_voteTill_31 : decode cX7_voteTill 31 = .ok (.iload_n 1, 1) := by decide +kernel
theorem dX7_voteTill_32 : decode cX7_voteTill 32 = .ok (.iload_n 2, 1) := by decide +kernel
theorem dX7_voteTill_33 : decode cX7_voteTill 33 = .ok (.iload_n 3, 1) := by decide +kernel
theorem dX7_voteTill_34 : decode cX7_voteTill 34 = .ok (.invokevirtual 149, 3) := by decide +kernel
theorem dX7_voteTill_37 : decode cX7_voteTill 37 = .ok (.iconst 2, 1) := by decide +kernel
theorem dX7_voteTill_38 : decode cX7_voteTill 38 = .ok (.invokevirtual 118, 3) := by decide +kernel
theorem dX7_voteTill_41 : decode cX7_voteTill 41 = .ok (.ifCond .eq 7, 3) := by decide +kernel
theorem dX7_voteTill_44 : decode cX7_voteTill 44 = .ok (.iconst 0, 1) := by decide +kernel
theorem dX7_voteTill_45 : decode cX7_voteTill 45 = .ok (.goto 18, 3) := by decide +kernel
theorem dX7_voteTill_48 : decode cX7_voteTill 48 = .ok (.aload_n 0, 1) := by decide +kernel
theorem dX7_voteTill_49 : decode cX7_voteTill 49 = .ok (.getfield 35, 3) := by decide +kernel
theorem dX7_voteTill_52 : decode cX7_voteTill 52 = .ok (.iload_n 1, 1) := by decide +kernel
theorem dX7_voteTill_53 : decode cX7_voteTill 53 = .ok (.bipush 7, 2) := by decide +kernel
theorem dX7_voteTill_55 : decode cX7_voteTill 55 = .ok (.imul, 1) := by decide +kernel
theorem dX7_voteTill_56 : decode cX7_voteTill 56 = .ok (.iload_n 2, 1) := by decide +kernel
theorem dX7_voteTill_57 : decode cX7_voteTill 57 = .ok (.iadd, 1) := by decide +kernel
theorem dX7_voteTill_58 : decode cX7_voteTill 58 = .ok (.iconst 3, 1) := by decide +kernel
theorem dX7_voteTill_59 : decode cX7_voteTill 59 = .ok (.imul, 1) := by decide +kernel
theorem dX7_voteTill_60 : decode cX7_voteTill 60 = .ok (.iload_n 3, 1) := by decide +kernel
theorem dX7_voteTill_61 : decode cX7_voteTill 61 = .ok (.iadd, 1) := by decide +kernel
theorem dX7_voteTill_62 : decode cX7_voteTill 62 = .ok (.iaload, 1) := by decide +kernel
theorem dX7_voteTill_63 : decode cX7_voteTill 63 = .ok (.ireturn, 1) := by decide +kernel
set_option maxRecDepth 20000 in
theorem ggX7_near_X7_isCastle : GoodIn wsX7_near wsX7_isCastle := goodIn_r _ [4] (by decide +kernel) (by decide +kernel)
set_option maxRecDepth 20000 in
theorem gX7_near_X7_isCastle : GoodIn wsX7_near (va_wsS RX7 108 yX7_isCastle wsX7_isCastle) := goodIn_app (goodIn_of _ (by decide +kernel)) ggX7_near_X7_isCastle
set_option maxRecDepth 20000 in
theorem ggX7_near_X7_isLord : GoodIn wsX7_near wsX7_isLord := goodIn_r _ [7, 8, 9, 3, 10] (by decide +kernel) (by decide +kernel)
set_option maxRecDepth 20000 in
theorem gX7_near_X7_isLord : GoodIn wsX7_near (va_wsS RX7 136 yX7_isLord wsX7_isLord) := goodIn_app (goodIn_of _ (by decide +kernel)) ggX7_near_X7_isLord
set_option maxRecDepth 20000 in
theorem ggX7_near_X7_no : GoodIn wsX7_near wsX7_no := goodIn_r _ [14, 15, 26, 27, 28, 29, 30, 31, 32, 33, 34, 35, 36, 37, 38, 39, 40, 41, 42, 43, 44, 45, 46, 47, 48, 49, 50, 51, 52, 53, 54, 55, 56, 57, 58, 59, 60] (by decide +kernel) (by decide +kernel)
set_option maxRecDepth 20000 in
theorem gX7_near_X7_no : GoodIn wsX7_near (wsV RX7 118 RX7 yX7_no wsX7_no) := goodIn_app (goodIn_of _ (by decide +kernel)) ggX7_near_X7_no
set_option maxRecDepth 20000 in
theorem ggX7_near_X7_reach : GoodIn wsX7_near wsX7_reach := goodIn_r _ [19, 20, 21, 22, 26, 27, 28, 29, 30, 31, 32, 33, 34, 35, 36, 37, 38, 39, 40, 41, 42, 43, 44, 45, 46, 47, 48, 49, 50, 51, 52, 53, 54, 55, 56, 57, 58, 59, 60] (by decide +kernel) (by decide +kernel)
set_option maxRecDepth 20000 in
theorem gX7_near_X7_reach : GoodIn wsX7_near (wsV RX7 145 RX7 yX7_reach wsX7_reach) := goodIn_app (goodIn_of _ (by decide +kernel)) ggX7_near_X7_reach
set_option maxRecDepth 20000 in
theorem ggX7_near_X7_ones : GoodIn wsX7_near wsX7_ones := goodIn_r _ [25] (by decide +kernel) (by decide +kernel)
set_option maxRecDepth 20000 in
theorem gX7_near_X7_ones : GoodIn wsX7_near (va_wsS RX7 139 yX7_ones wsX7_ones) := goodIn_app (goodIn_of _ (by decide +kernel)) ggX7_near_X7_ones
theorem dX7_near_0 : decode cX7_near 0 = .ok (.aload_n 0, 1) := by decide +kernel
theorem dX7_near_1 : decode cX7_near 1 = .ok (.iload_n 2, 1) := by decide +kernel
theorem dX7_near_2 : decode cX7_near 2 = .ok (.invokestatic 108, 3) := by decide +kernel
theorem dX7_near_5 : decode cX7_near 5 = .ok (.ifCond .eq 14, 3) := by decide +kernel
theorem dX7_near_8 : decode cX7_near 8 = .ok (.iload_n 1, 1) := by decide +kernel
theorem dX7_near_9 : decode cX7_near 9 = .ok (.invokestatic 136, 3) := by decide +kernel
theorem dX7_near_12 : decode cX7_near 12 = .ok (.ifCond .eq 7, 3) := by decide +kernel
theorem dX7_near_15 : decode cX7_near 15 = .ok (.iconst 1, 1) := by decide +kernel
theorem dX7_near_16 : decode cX7_near 16 = .ok (.goto 4, 3) := by decide +kernel
theorem dX7_near_19 : decode cX7_near 19 = .ok (.iconst 0, 1) := by decide +kernel
theorem dX7_near_20 : decode cX7_near 20 = .ok (.iconst 1, 1) := by decide +kernel
theorem dX7_near_21 : decode cX7_near 21 = .ok (.invokevirtual 118, 3) := by decide +kernel
theorem dX7_near_24 : decode cX7_near 24 = .ok (.ifCond .eq 7, 3) := by decide +kernel
theorem dX7_near_27 : decode cX7_near 27 = .ok (.iconst 0, 1) := by decide +kernel
theorem dX7_near_28 : decode cX7_near 28 = .ok (.goto 12, 3) := by decide +kernel
theorem dX7_near_31 : decode cX7_near 31 = .ok (.aload_n 0, 1) := by decide +kernel
theorem dX7_near_32 : decode cX7_near 32 = .ok (.iload_n 2, 1) := by decide +kernel
theorem dX7_near_33 : decode cX7_near 33 = .ok (.iload_n 1, 1) := by decide +kernel
theorem dX7_near_34 : decode cX7_near 34 = .ok (.invokevirtual 145, 3) := by decide +kernel
theorem dX7_near_37 : decode cX7_near 37 = .ok (.invokestatic 139, 3) := by decide +kernel
theorem dX7_near_40 : decode cX7_near 40 = .ok (.ireturn, 1) := by decide +kernel
set_option maxRecDepth 20000 in
theorem ggX7_tower_X7_isTower : GoodIn wsX7_tower wsX7_isTower := goodIn_r _ [6, 7, 8, 9, 5, 10, 11, 12, 13, 26, 27, 28, 29, 30, 31, 32, 33, 34, 35, 36, 37, 38, 39, 40, 41, 42, 43, 44, 45, 46, 47, 48, 49, 50, 51, 52, 53, 54, 55, 56, 57, 58, 59, 60] (by decide +kernel) (by decide +kernel)
set_option maxRecDepth 20000 in
theorem gX7_tower_X7_isTower : GoodIn wsX7_tower (wsV RX7 129 RX7 yX7_isTower wsX7_isTower) := goodIn_app (goodIn_of _ (by decide +kernel)) ggX7_tower_X7_isTower
set_option maxRecDepth 20000 in
theorem ggX7_tower_X7_no : GoodIn wsX7_tower wsX7_no := goodIn_r _ [17, 18, 26, 27, 28, 29, 30, 31, 32, 33, 34, 35, 36, 37, 38, 39, 40, 41, 42, 43, 44, 45, 46, 47, 48, 49, 50, 51, 52, 53, 54, 55, 56, 57, 58, 59, 60] (by decide +kernel) (by decide +kernel)
set_option maxRecDepth 20000 in
theorem gX7_tower_X7_no : GoodIn wsX7_tower (wsV RX7 118 RX7 yX7_no wsX7_no) := goodIn_app (goodIn_of _ (by decide +kernel)) ggX7_tower_X7_no
set_option maxRecDepth 20000 in
theorem ggX7_tower_X7_rests : GoodIn wsX7_tower wsX7_rests := goodIn_r _ [22, 23, 24, 25, 26, 27, 28, 29, 30, 31, 32, 33, 34, 35, 36, 37, 38, 39, 40, 41, 42, 43, 44, 45, 46, 47, 48, 49, 50, 51, 52, 53, 54, 55, 56, 57, 58, 59, 60] (by decide +kernel) (by decide +kernel)
set_option maxRecDepth 20000 in
theorem gX7_tower_X7_rests : GoodIn wsX7_tower (wsV RX7 152 RX7 yX7_rests wsX7_rests) := goodIn_app (goodIn_of _ (by decide +kernel)) ggX7_tower_X7_rests
theorem dX7_tower_0 : decode cX7_tower 0 = .ok (.aload_n 0, 1) := by decide +kernel
theorem dX7_tower_1 : decode cX7_tower 1 = .ok (.aload_n 0, 1) := by decide +kernel
theorem dX7_tower_2 : decode cX7_tower 2 = .ok (.iload_n 1, 1) := by decide +kernel
theorem dX7_tower_3 : decode cX7_tower 3 = .ok (.iload_n 2, 1) := by decide +kernel
theorem dX7_tower_4 : decode cX7_tower 4 = .ok (.invokevirtual 129, 3) := by decide +kernel
theorem dX7_tower_7 : decode cX7_tower 7 = .ok (.iconst 1, 1) := by decide +kernel
theorem dX7_tower_8 : decode cX7_tower 8 = .ok (.invokevirtual 118, 3) := by decide +kernel
theorem dX7_tower_11 : decode cX7_tower 11 = .ok (.ifCond .eq 8, 3) := by decide +kernel
theorem dX7_tower_14 : decode cX7_tower 14 = .ok (.bipush 45, 2) := by decide +kernel
theorem dX7_tower_16 : decode cX7_tower 16 = .ok (.goto 38, 3) := by decide +kernel
theorem dX7_tower_19 : decode cX7_tower 19 = .ok (.aload_n 0, 1) := by decide +kernel
theorem dX7_tower_20 : decode cX7_tower 20 = .ok (.getfield 19, 3) := by decide +kernel
theorem dX7_tower_23 : decode cX7_tower 23 = .ok (.iload_n 1, 1) := by decide +kernel
theorem dX7_tower_24 : decode cX7_tower 24 = .ok (.bipush 7, 2) := by decide +kernel
theorem dX7_tower_26 : decode cX7_tower 26 = .ok (.imul, 1) := by decide +kernel
theorem dX7_tower_27 : decode cX7_tower 27 = .ok (.iload_n 2, 1) := by decide +kernel
theorem dX7_tower_28 : decode cX7_tower 28 = .ok (.iadd, 1) := by decide +kernel
theorem dX7_tower_29 : decode cX7_tower 29 = .ok (.baload, 1) := by decide +kernel
theorem dX7_tower_30 : decode cX7_tower 30 = .ok (.ifCond .ne 8, 3) := by decide +kernel
theorem dX7_tower_33 : decode cX7_tower 33 = .ok (.bipush 100, 2) := by decide +kernel
theorem dX7_tower_35 : decode cX7_tower 35 = .ok (.goto 19, 3) := by decide +kernel
theorem dX7_tower_38 : decode cX7_tower 38 = .ok (.aload_n 0, 1) := by decide +kernel
theorem dX7_tower_39 : decode cX7_tower 39 = .ok (.iload_n 1, 1) := by decide +kernel
theorem dX7_tower_40 : decode cX7_tower 40 = .ok (.iload_n 2, 1) := by decide +kernel
theorem dX7_tower_41 : decode cX7_tower 41 = .ok (.invokevirtual 152, 3) := by decide +kernel
theorem dX7_tower_44 : decode cX7_tower 44 = .ok (.ifCond .eq 8, 3) := by decide +kernel
theorem dX7_tower_47 : decode cX7_tower 47 = .ok (.bipush 119, 2) := by decide +kernel
theorem dX7_tower_49 : decode cX7_tower 49 = .ok (.goto 5, 3) := by decide +kernel
theorem dX7_tower_52 : decode cX7_tower 52 = .ok (.bipush 117, 2) := by decide +kernel
theorem dX7_tower_54 : decode cX7_tower 54 = .ok (.ireturn, 1) := by decide +kernel
set_option maxRecDepth 20000 in
theorem ggX7_commits_X7_quorum : GoodIn wsX7_commits wsX7_quorum := goodIn_r _ [8, 9, 10, 11, 7, 12, 13, 14, 15, 16, 17, 18, 19, 20, 21, 22, 23, 24, 25, 26, 27, 28, 29, 30, 31, 32, 33, 34, 35, 36, 37, 38, 39, 40, 41, 42, 43, 44, 45, 46, 47] (by decide +kernel) (by decide +kernel)
set_option maxRecDepth 20000 in
theorem gX7_commits_X7_quorum : GoodIn wsX7_commits (wsV RX7 155 RX7 yX7_quorum wsX7_quorum) := goodIn_app (goodIn_of _ (by decide +kernel)) ggX7_commits_X7_quorum
theorem dX7_commits_0 : decode cX7_commits 0 = .ok (.iconst 0, 1) := by decide +kernel
theorem dX7_commits_1 : decode cX7_commits 1 = .ok (.istore_n 2, 1) := by decide +kernel
theorem dX7_commits_2 : decode cX7_commits 2 = .ok (.iload_n 2, 1) := by decide +kernel
theorem dX7_commits_3 : decode cX7_commits 3 = .ok (.aload_n 0, 1) := by decide +kernel
theorem dX7_commits_4 : decode cX7_commits 4 = .ok (.getfield 16, 3) := by decide +kernel
theorem dX7_commits_7 : decode cX7_commits 7 = .ok (.iload_n 1, 1) := by decide +kernel
theorem dX7_commits_8 : decode cX7_commits 8 = .ok (.iaload, 1) := by decide +kernel
theorem dX7_commits_9 : decode cX7_commits 9 = .ok (.if_icmp .ge 58, 3) := by decide +kernel
theorem dX7_commits_12 : decode cX7_commits 12 = .ok (.aload_n 0, 1) := by decide +kernel
theorem dX7_commits_13 : decode cX7_commits 13 = .ok (.getfield 57, 3) := by decide +kernel
theorem dX7_commits_16 : decode cX7_commits 16 = .ok (.iload_n 1, 1) := by decide +kernel
theorem dX7_commits_17 : decode cX7_commits 17 = .ok (.bipush 60, 2) := by decide +kernel
theorem dX7_commits_19 : decode cX7_commits 19 = .ok (.imul, 1) := by decide +kernel
theorem dX7_commits_20 : decode cX7_commits 20 = .ok (.iload_n 2, 1) := by decide +kernel
theorem dX7_commits_21 : decode cX7_commits 21 = .ok (.iadd, 1) := by decide +kernel
theorem dX7_commits_22 : decode cX7_commits 22 = .ok (.aload_n 0, 1) := by decide +kernel
theorem dX7_commits_23 : decode cX7_commits 23 = .ok (.getfield 57, 3) := by decide +kernel
theorem dX7_commits_26 : decode cX7_commits 26 = .ok (.iload_n 1, 1) := by decide +kernel
theorem dX7_commits_27 : decode cX7_commits 27 = .ok (.bipush 60, 2) := by decide +kernel
theorem dX7_commits_29 : decode cX7_commits 29 = .ok (.imul, 1) := by decide +kernel
theorem dX7_commits_30 : decode cX7_commits 30 = .ok (.iload_n 2, 1) := by decide +kernel
theorem dX7_commits_31 : decode cX7_commits 31 = .ok (.iadd, 1) := by decide +kernel
theorem dX7_commits_32 : decode cX7_commits 32 = .ok (.baload, 1) := by decide +kernel
theorem dX7_commits_33 : decode cX7_commits 33 = .ok (.ifCond .ne 22, 3) := by decide +kernel
theorem dX7_commits_36 : decode cX7_commits 36 = .ok (.aload_n 0, 1) := by decide +kernel
theorem dX7_commits_37 : decode cX7_commits 37 = .ok (.iload_n 1, 1) := by decide +kernel
theorem dX7_commits_38 : decode cX7_commits 38 = .ok (.aload_n 0, 1) := by decide +kernel
theorem dX7_commits_39 : decode cX7_commits 39 = .ok (.getfield 54, 3) := by decide +kernel
theorem dX7_commits_42 : decode cX7_commits 42 = .ok (.iload_n 1, 1) := by decide +kernel
theorem dX7_commits_43 : decode cX7_commits 43 = .ok (.bipush 60, 2) := by decide +kernel
theorem dX7_commits_45 : decode cX7_commits 45 = .ok (.imul, 1) := by decide +kernel
theorem dX7_commits_46 : decode cX7_commits 46 = .ok (.iload_n 2, 1) := by decide +kernel
theorem dX7_commits_47 : decode cX7_commits 47 = .ok (.iadd, 1) := by decide +kernel
theorem dX7_commits_48 : decode cX7_commits 48 = .ok (.iaload, 1) := by decide +kernel
theorem dX7_commits_49 : decode cX7_commits 49 = .ok (.invokevirtual 155, 3) := by decide +kernel
theorem dX7_commits_52 : decode cX7_commits 52 = .ok (.ifCond .eq 7, 3) := by decide +kernel
theorem dX7_commits_55 : decode cX7_commits 55 = .ok (.iconst 1, 1) := by decide +kernel
theorem dX7_commits_56 : decode cX7_commits 56 = .ok (.goto 4, 3) := by decide +kernel
theorem dX7_commits_59 : decode cX7_commits 59 = .ok (.iconst 0, 1) := by decide +kernel
theorem dX7_commits_60 : decode cX7_commits 60 = .ok (.bastore, 1) := by decide +kernel
theorem dX7_commits_61 : decode cX7_commits 61 = .ok (.iinc 2 1, 3) := by decide +kernel
theorem dX7_commits_64 : decode cX7_commits 64 = .ok (.goto (-62), 3) := by decide +kernel
theorem dX7_commits_67 : decode cX7_commits 67 = .ok (.return_, 1) := by decide +kernel
set_option maxRecDepth 20000 in
theorem ggX7_writes_X7_reach : GoodIn wsX7_writes wsX7_reach := goodIn_r _ [12, 13, 14, 15, 27, 28, 29, 30, 31, 32, 33, 34, 35, 36, 37, 38, 39, 40, 41, 42, 43, 44, 45, 46, 47, 48, 49, 50, 51, 52, 53, 54, 55, 56, 57, 58, 59, 60, 61] (by decide +kernel) (by decide +kernel)
set_option maxRecDepth 20000 in
theorem gX7_writes_X7_reach : GoodIn wsX7_writes (wsV RX7 145 RX7 yX7_reach wsX7_reach) := goodIn_app (goodIn_of _ (by decide +kernel)) ggX7_writes_X7_reach
set_option maxRecDepth 20000 in
theorem ggX7_writes_X7_commits : GoodIn wsX7_writes wsX7_commits := goodIn_r _ [19, 1, 7, 6, 20, 21, 22, 11, 23, 13, 24, 25, 26, 27, 28, 29, 30, 31, 32, 33, 34, 35, 36, 37, 38, 39, 40, 41, 42, 43, 44, 45, 46, 47, 48, 49, 50, 51, 52, 53, 54, 55, 56, 57, 58, 59, 60, 61] (by decide +kernel) (by decide +kernel)
set_option maxRecDepth 20000 in
theorem gX7_writes_X7_commits : GoodIn wsX7_writes (wsV RX7 161 RX7 yX7_commits wsX7_commits) := goodIn_app (goodIn_of _ (by decide +kernel)) ggX7_writes_X7_commits
theorem dX7_writes_0 : decode cX7_writes 0 = .ok (.iload_n 1, 1) := by decide +kernel
theorem dX7_writes_1 : decode cX7_writes 1 = .ok (.bipush 60, 2) := by decide +kernel
theorem dX7_writes_3 : decode cX7_writes 3 = .ok (.imul, 1) := by decide +kernel
theorem dX7_writes_4 : decode cX7_writes 4 = .ok (.aload_n 0, 1) := by decide +kernel
theorem dX7_writes_5 : decode cX7_writes 5 = .ok (.getfield 16, 3) := by decide +kernel
theorem dX7_writes_8 : decode cX7_writes 8 = .ok (.iload_n 1, 1) := by decide +kernel
theorem dX7_writes_9 : decode cX7_writes 9 = .ok (.iaload, 1) := by decide +kernel
theorem dX7_writes_10 : decode cX7_writes 10 = .ok (.iadd, 1) := by decide +kernel
theorem dX7_writes_11 : decode cX7_writes 11 = .ok (.istore 6, 2) := by decide +kernel
theorem dX7_writes_13 : decode cX7_writes 13 = .ok (.aload_n 0, 1) := by decide +kernel
theorem dX7_writes_14 : decode cX7_writes 14 = .ok (.getfield 41, 3) := by decide +kernel
theorem dX7_writes_17 : decode cX7_writes 17 = .ok (.iload 6, 2) := by decide +kernel
theorem dX7_writes_19 : decode cX7_writes 19 = .ok (.iload_n 2, 1) := by decide +kernel
theorem dX7_writes_20 : decode cX7_writes 20 = .ok (.castore, 1) := by decide +kernel
theorem dX7_writes_21 : decode cX7_writes 21 = .ok (.aload_n 0, 1) := by decide +kernel
theorem dX7_writes_22 : decode cX7_writes 22 = .ok (.getfield 45, 3) := by decide +kernel
theorem dX7_writes_25 : decode cX7_writes 25 = .ok (.iload 6, 2) := by decide +kernel
theorem dX7_writes_27 : decode cX7_writes 27 = .ok (.iload_n 3, 1) := by decide +kernel
theorem dX7_writes_28 : decode cX7_writes 28 = .ok (.iastore, 1) := by decide +kernel
theorem dX7_writes_29 : decode cX7_writes 29 = .ok (.aload_n 0, 1) := by decide +kernel
theorem dX7_writes_30 : decode cX7_writes 30 = .ok (.getfield 48, 3) := by decide +kernel
theorem dX7_writes_33 : decode cX7_writes 33 = .ok (.iload 6, 2) := by decide +kernel
theorem dX7_writes_35 : decode cX7_writes 35 = .ok (.iload 4, 2) := by decide +kernel
theorem dX7_writes_37 : decode cX7_writes 37 = .ok (.iastore, 1) := by decide +kernel
theorem dX7_writes_38 : decode cX7_writes 38 = .ok (.aload_n 0, 1) := by decide +kernel
theorem dX7_writes_39 : decode cX7_writes 39 = .ok (.getfield 51, 3) := by decide +kernel
theorem dX7_writes_42 : decode cX7_writes 42 = .ok (.iload 6, 2) := by decide +kernel
theorem dX7_writes_44 : decode cX7_writes 44 = .ok (.iload 5, 2) := by decide +kernel
theorem dX7_writes_46 : decode cX7_writes 46 = .ok (.iastore, 1) := by decide +kernel
theorem dX7_writes_47 : decode cX7_writes 47 = .ok (.aload_n 0, 1) := by decide +kernel
theorem dX7_writes_48 : decode cX7_writes 48 = .ok (.getfield 54, 3) := by decide +kernel
theorem dX7_writes_51 : decode cX7_writes 51 = .ok (.iload 6, 2) := by decide +kernel
theorem dX7_writes_53 : decode cX7_writes 53 = .ok (.aload_n 0, 1) := by decide +kernel
theorem dX7_writes_54 : decode cX7_writes 54 = .ok (.iload_n 1, 1) := by decide +kernel
theorem dX7_writes_55 : decode cX7_writes 55 = .ok (.iload 4, 2) := by decide +kernel
theorem dX7_writes_57 : decode cX7_writes 57 = .ok (.invokevirtual 145, 3) := by decide +kernel
theorem dX7_writes_60 : decode cX7_writes 60 = .ok (.iastore, 1) := by decide +kernel
theorem dX7_writes_61 : decode cX7_writes 61 = .ok (.aload_n 0, 1) := by decide +kernel
theorem dX7_writes_62 : decode cX7_writes 62 = .ok (.getfield 57, 3) := by decide +kernel
theorem dX7_writes_65 : decode cX7_writes 65 = .ok (.iload 6, 2) := by decide +kernel
theorem dX7_writes_67 : decode cX7_writes 67 = .ok (.iconst 0, 1) := by decide +kernel
theorem dX7_writes_68 : decode cX7_writes 68 = .ok (.bastore, 1) := by decide +kernel
theorem dX7_writes_69 : decode cX7_writes 69 = .ok (.aload_n 0, 1) := by decide +kernel
theorem dX7_writes_70 : decode cX7_writes 70 = .ok (.getfield 16, 3) := by decide +kernel
theorem dX7_writes_73 : decode cX7_writes 73 = .ok (.iload_n 1, 1) := by decide +kernel
theorem dX7_writes_74 : decode cX7_writes 74 = .ok (.dup2, 1) := by decide +kernel
theorem dX7_writes_75 : decode cX7_writes 75 = .ok (.iaload, 1) := by decide +kernel
theorem dX7_writes_76 : decode cX7_writes 76 = .ok (.iconst 1, 1) := by decide +kernel
theorem dX7_writes_77 : decode cX7_writes 77 = .ok (.iadd, 1) := by decide +kernel
theorem dX7_writes_78 : decode cX7_writes 78 = .ok (.iastore, 1) := by decide +kernel
theorem dX7_writes_79 : decode cX7_writes 79 = .ok (.aload_n 0, 1) := by decide +kernel
theorem dX7_writes_80 : decode cX7_writes 80 = .ok (.iload_n 1, 1) := by decide +kernel
theorem dX7_writes_81 : decode cX7_writes 81 = .ok (.invokevirtual 161, 3) := by decide +kernel
theorem dX7_writes_84 : decode cX7_writes 84 = .ok (.aload_n 0, 1) := by decide +kernel
theorem dX7_writes_85 : decode cX7_writes 85 = .ok (.getfield 16, 3) := by decide +kernel
theorem dX7_writes_88 : decode cX7_writes 88 = .ok (.iload_n 1, 1) := by decide +kernel
theorem dX7_writes_89 : decode cX7_writes 89 = .ok (.iaload, 1) := by decide +kernel
theorem dX7_writes_90 : decode cX7_writes 90 = .ok (.iconst 1, 1) := by decide +kernel
theorem dX7_writes_91 : decode cX7_writes 91 = .ok (.isub, 1) := by decide +kernel
theorem dX7_writes_92 : decode cX7_writes 92 = .ok (.ireturn, 1) := by decide +kernel
set_option maxRecDepth 20000 in
theorem ggX7_sums_X7_weighs : GoodIn wsX7_sums wsX7_weighs := goodIn_r _ [13, 8, 14, 5, 15, 2, 3, 16, 17, 18, 19, 20, 21, 22, 23, 24, 25, 26, 27, 28, 29, 30, 31, 32, 33, 34, 35, 36, 37, 38, 39, 40, 41, 42, 43, 44, 45, 46, 47, 48, 49, 50, 51, 52] (by decide +kernel) (by decide +kernel)
set_option maxRecDepth 20000 in
theorem gX7_sums_X7_weighs : GoodIn wsX7_sums (wsV RX7 174 RX7 yX7_weighs wsX7_weighs) := goodIn_app (goodIn_of _ (by decide +kernel)) ggX7_sums_X7_weighs
theorem dX7_sums_0 : decode cX7_sums 0 = .ok (.aload_n 0, 1) := by decide +kernel
theorem dX7_sums_1 : decode cX7_sums 1 = .ok (.aload_n 0, 1) := by decide +kernel
theorem dX7_sums_2 : decode cX7_sums 2 = .ok (.getfield 13, 3) := by decide +kernel
theorem dX7_sums_5 : decode cX7_sums 5 = .ok (.iload_n 1, 1) := by decide +kernel
theorem dX7_sums_6 : decode cX7_sums 6 = .ok (.iaload, 1) := by decide +kernel
theorem dX7_sums_7 : decode cX7_sums 7 = .ok (.putfield 165, 3) := by decide +kernel
theorem dX7_sums_10 : decode cX7_sums 10 = .ok (.aload_n 0, 1) := by decide +kernel
theorem dX7_sums_11 : decode cX7_sums 11 = .ok (.iconst 0, 1) := by decide +kernel
theorem dX7_sums_12 : decode cX7_sums 12 = .ok (.putfield 168, 3) := by decide +kernel
theorem dX7_sums_15 : decode cX7_sums 15 = .ok (.aload_n 0, 1) := by decide +kernel
theorem dX7_sums_16 : decode cX7_sums 16 = .ok (.iconst 0, 1) := by decide +kernel
theorem dX7_sums_17 : decode cX7_sums 17 = .ok (.putfield 171, 3) := by decide +kernel
theorem dX7_sums_20 : decode cX7_sums 20 = .ok (.iconst 0, 1) := by decide +kernel
theorem dX7_sums_21 : decode cX7_sums 21 = .ok (.istore_n 2, 1) := by decide +kernel
theorem dX7_sums_22 : decode cX7_sums 22 = .ok (.iload_n 2, 1) := by decide +kernel
theorem dX7_sums_23 : decode cX7_sums 23 = .ok (.iconst 4, 1) := by decide +kernel
theorem dX7_sums_24 : decode cX7_sums 24 = .ok (.if_icmp .ge 16, 3) := by decide +kernel
theorem dX7_sums_27 : decode cX7_sums 27 = .ok (.aload_n 0, 1) := by decide +kernel
theorem dX7_sums_28 : decode cX7_sums 28 = .ok (.getfield 93, 3) := by decide +kernel
theorem dX7_sums_31 : decode cX7_sums 31 = .ok (.iload_n 2, 1) := by decide +kernel
theorem dX7_sums_32 : decode cX7_sums 32 = .ok (.iconst 0, 1) := by decide +kernel
theorem dX7_sums_33 : decode cX7_sums 33 = .ok (.iastore, 1) := by decide +kernel
theorem dX7_sums_34 : decode cX7_sums 34 = .ok (.iinc 2 1, 3) := by decide +kernel
theorem dX7_sums_37 : decode cX7_sums 37 = .ok (.goto (-15), 3) := by decide +kernel
theorem dX7_sums_40 : decode cX7_sums 40 = .ok (.aload_n 0, 1) := by decide +kernel
theorem dX7_sums_41 : decode cX7_sums 41 = .ok (.getfield 171, 3) := by decide +kernel
theorem dX7_sums_44 : decode cX7_sums 44 = .ok (.aload_n 0, 1) := by decide +kernel
theorem dX7_sums_45 : decode cX7_sums 45 = .ok (.getfield 16, 3) := by decide +kernel
theorem dX7_sums_48 : decode cX7_sums 48 = .ok (.iload_n 1, 1) := by decide +kernel
theorem dX7_sums_49 : decode cX7_sums 49 = .ok (.iaload, 1) := by decide +kernel
theorem dX7_sums_50 : decode cX7_sums 50 = .ok (.if_icmp .ge 66, 3) := by decide +kernel
theorem dX7_sums_53 : decode cX7_sums 53 = .ok (.aload_n 0, 1) := by decide +kernel
theorem dX7_sums_54 : decode cX7_sums 54 = .ok (.getfield 57, 3) := by decide +kernel
theorem dX7_sums_57 : decode cX7_sums 57 = .ok (.iload_n 1, 1) := by decide +kernel
theorem dX7_sums_58 : decode cX7_sums 58 = .ok (.bipush 60, 2) := by decide +kernel
theorem dX7_sums_60 : decode cX7_sums 60 = .ok (.imul, 1) := by decide +kernel
theorem dX7_sums_61 : decode cX7_sums 61 = .ok (.aload_n 0, 1) := by decide +kernel
theorem dX7_sums_62 : decode cX7_sums 62 = .ok (.getfield 171, 3) := by decide +kernel
theorem dX7_sums_65 : decode cX7_sums 65 = .ok (.iadd, 1) := by decide +kernel
theorem dX7_sums_66 : decode cX7_sums 66 = .ok (.baload, 1) := by decide +kernel
theorem dX7_sums_67 : decode cX7_sums 67 = .ok (.ifCond .ne 22, 3) := by decide +kernel
theorem dX7_sums_70 : decode cX7_sums 70 = .ok (.aload_n 0, 1) := by decide +kernel
theorem dX7_sums_71 : decode cX7_sums 71 = .ok (.getfield 41, 3) := by decide +kernel
theorem dX7_sums_74 : decode cX7_sums 74 = .ok (.iload_n 1, 1) := by decide +kernel
theorem dX7_sums_75 : decode cX7_sums 75 = .ok (.bipush 60, 2) := by decide +kernel
theorem dX7_sums_77 : decode cX7_sums 77 = .ok (.imul, 1) := by decide +kernel
theorem dX7_sums_78 : decode cX7_sums 78 = .ok (.aload_n 0, 1) := by decide +kernel
theorem dX7_sums_79 : decode cX7_sums 79 = .ok (.getfield 171, 3) := by decide +kernel
theorem dX7_sums_82 : decode cX7_sums 82 = .ok (.iadd, 1) := by decide +kernel
theorem dX7_sums_83 : decode cX7_sums 83 = .ok (.caload, 1) := by decide +kernel
theorem dX7_sums_84 : decode cX7_sums 84 = .ok (.bipush 45, 2) := by decide +kernel
theorem dX7_sums_86 : decode cX7_sums 86 = .ok (.if_icmp .ne 30, 3) := by decide +kernel
theorem dX7_sums_89 : decode cX7_sums 89 = .ok (.aload_n 0, 1) := by decide +kernel
theorem dX7_sums_90 : decode cX7_sums 90 = .ok (.iload_n 1, 1) := by decide +kernel
theorem dX7_sums_91 : decode cX7_sums 91 = .ok (.iload_n 1, 1) := by decide +kernel
theorem dX7_sums_92 : decode cX7_sums 92 = .ok (.bipush 60, 2) := by decide +kernel
theorem dX7_sums_94 : decode cX7_sums 94 = .ok (.imul, 1) := by decide +kernel
theorem dX7_sums_95 : decode cX7_sums 95 = .ok (.aload_n 0, 1) := by decide +kernel
theorem dX7_sums_96 : decode cX7_sums 96 = .ok (.getfield 171, 3) := by decide +kernel
theorem dX7_sums_99 : decode cX7_sums 99 = .ok (.iadd, 1) := by decide +kernel
theorem dX7_sums_100 : decode cX7_sums 100 = .ok (.invokevirtual 174, 3) := by decide +kernel
theorem dX7_sums_103 : decode cX7_sums 103 = .ok (.aload_n 0, 1) := by decide +kernel
theorem dX7_sums_104 : decode cX7_sums 104 = .ok (.dup, 1) := by decide +kernel
theorem dX7_sums_105 : decode cX7_sums 105 = .ok (.getfield 171, 3) := by decide +kernel
theorem dX7_sums_108 : decode cX7_sums 108 = .ok (.iconst 1, 1) := by decide +kernel
theorem dX7_sums_109 : decode cX7_sums 109 = .ok (.iadd, 1) := by decide +kernel
theorem dX7_sums_110 : decode cX7_sums 110 = .ok (.putfield 171, 3) := by decide +kernel
theorem dX7_sums_113 : decode cX7_sums 113 = .ok (.goto (-73), 3) := by decide +kernel
theorem dX7_sums_116 : decode cX7_sums 116 = .ok (.return_, 1) := by decide +kernel
theorem dX7_weighs_0 : decode cX7_weighs 0 = .ok (.aload_n 0, 1) := by decide +kernel
theorem dX7_weighs_1 : decode cX7_weighs 1 = .ok (.getfield 41, 3) := by decide +kernel
theorem dX7_weighs_4 : decode cX7_weighs 4 = .ok (.iload_n 2, 1) := by decide +kernel
theorem dX7_weighs_5 : decode cX7_weighs 5 = .ok (.caload, 1) := by decide +kernel
theorem dX7_weighs_6 : decode cX7_weighs 6 = .ok (.istore_n 3, 1) := by decide +kernel
theorem dX7_weighs_7 : decode cX7_weighs 7 = .ok (.aload_n 0, 1) := by decide +kernel
theorem dX7_weighs_8 : decode cX7_weighs 8 = .ok (.getfield 45, 3) := by decide +kernel
theorem dX7_weighs_11 : decode cX7_weighs 11 = .ok (.iload_n 2, 1) := by decide +kernel
theorem dX7_weighs_12 : decode cX7_weighs 12 = .ok (.iaload, 1) := by decide +kernel
theorem dX7_weighs_13 : decode cX7_weighs 13 = .ok (.istore 4, 2) := by decide +kernel
theorem dX7_weighs_15 : decode cX7_weighs 15 = .ok (.iload_n 3, 1) := by decide +kernel
theorem dX7_weighs_16 : decode cX7_weighs 16 = .ok (.bipush 105, 2) := by decide +kernel
theorem dX7_weighs_18 : decode cX7_weighs 18 = .ok (.if_icmp .ne 46, 3) := by decide +kernel
theorem dX7_weighs_21 : decode cX7_weighs 21 = .ok (.aload_n 0, 1) := by decide +kernel
theorem dX7_weighs_22 : decode cX7_weighs 22 = .ok (.getfield 93, 3) := by decide +kernel
theorem dX7_weighs_25 : decode cX7_weighs 25 = .ok (.aload_n 0, 1) := by decide +kernel
theorem dX7_weighs_26 : decode cX7_weighs 26 = .ok (.getfield 48, 3) := by decide +kernel
theorem dX7_weighs_29 : decode cX7_weighs 29 = .ok (.iload_n 2, 1) := by decide +kernel
theorem dX7_weighs_30 : decode cX7_weighs 30 = .ok (.iaload, 1) := by decide +kernel
theorem dX7_weighs_31 : decode cX7_weighs 31 = .ok (.iaload, 1) := by decide +kernel
theorem dX7_weighs_32 : decode cX7_weighs 32 = .ok (.iload 4, 2) := by decide +kernel
theorem dX7_weighs_34 : decode cX7_weighs 34 = .ok (.if_icmp .lt 30, 3) := by decide +kernel
theorem dX7_weighs_37 : decode cX7_weighs 37 = .ok (.aload_n 0, 1) := by decide +kernel
theorem dX7_weighs_38 : decode cX7_weighs 38 = .ok (.getfield 93, 3) := by decide +kernel
theorem dX7_weighs_41 : decode cX7_weighs 41 = .ok (.aload_n 0, 1) := by decide +kernel
theorem dX7_weighs_42 : decode cX7_weighs 42 = .ok (.getfield 48, 3) := by decide +kernel
theorem dX7_weighs_45 : decode cX7_weighs 45 = .ok (.iload_n 2, 1) := by decide +kernel
theorem dX7_weighs_46 : decode cX7_weighs 46 = .ok (.iaload, 1) := by decide +kernel
theorem dX7_weighs_47 : decode cX7_weighs 47 = .ok (.dup2, 1) := by decide +kernel
theorem dX7_weighs_48 : decode cX7_weighs 48 = .ok (.iaload, 1) := by decide +kernel
theorem dX7_weighs_49 : decode cX7_weighs 49 = .ok (.iload 4, 2) := by decide +kernel
theorem dX7_weighs_51 : decode cX7_weighs 51 = .ok (.isub, 1) := by decide +kernel
theorem dX7_weighs_52 : decode cX7_weighs 52 = .ok (.iastore, 1) := by decide +kernel
theorem dX7_weighs_53 : decode cX7_weighs 53 = .ok (.aload_n 0, 1) := by decide +kernel
theorem dX7_weighs_54 : decode cX7_weighs 54 = .ok (.dup, 1) := by decide +kernel
theorem dX7_weighs_55 : decode cX7_weighs 55 = .ok (.getfield 165, 3) := by decide +kernel
theorem dX7_weighs_58 : decode cX7_weighs 58 = .ok (.iload 4, 2) := by decide +kernel
theorem dX7_weighs_60 : decode cX7_weighs 60 = .ok (.iadd, 1) := by decide +kernel
theorem dX7_weighs_61 : decode cX7_weighs 61 = .ok (.putfield 165, 3) := by decide +kernel
theorem dX7_weighs_64 : decode cX7_weighs 64 = .ok (.iload_n 3, 1) := by decide +kernel
theorem dX7_weighs_65 : decode cX7_weighs 65 = .ok (.bipush 111, 2) := by decide +kernel
theorem dX7_weighs_67 : decode cX7_weighs 67 = .ok (.if_icmp .eq 9, 3) := by decide +kernel
theorem dX7_weighs_70 : decode cX7_weighs 70 = .ok (.iload_n 3, 1) := by decide +kernel
theorem dX7_weighs_71 : decode cX7_weighs 71 = .ok (.bipush 114, 2) := by decide +kernel
theorem dX7_weighs_73 : decode cX7_weighs 73 = .ok (.if_icmp .ne 44, 3) := by decide +kernel
theorem dX7_weighs_76 : decode cX7_weighs 76 = .ok (.aload_n 0, 1) := by decide +kernel
theorem dX7_weighs_77 : decode cX7_weighs 77 = .ok (.getfield 165, 3) := by decide +kernel
theorem dX7_weighs_80 : decode cX7_weighs 80 = .ok (.aload_n 0, 1) := by decide +kernel
theorem dX7_weighs_81 : decode cX7_weighs 81 = .ok (.getfield 168, 3) := by decide +kernel
theorem dX7_weighs_84 : decode cX7_weighs 84 = .ok (.isub, 1) := by decide +kernel
theorem dX7_weighs_85 : decode cX7_weighs 85 = .ok (.iload 4, 2) := by decide +kernel
theorem dX7_weighs_87 : decode cX7_weighs 87 = .ok (.if_icmp .lt 30, 3) := by decide +kernel
theorem dX7_weighs_90 : decode cX7_weighs 90 = .ok (.aload_n 0, 1) := by decide +kernel
theorem dX7_weighs_91 : decode cX7_weighs 91 = .ok (.dup, 1) := by decide +kernel
theorem dX7_weighs_92 : decode cX7_weighs 92 = .ok (.getfield 165, 3) := by decide +kernel
theorem dX7_weighs_95 : decode cX7_weighs 95 = .ok (.iload 4, 2) := by decide +kernel
theorem dX7_weighs_97 : decode cX7_weighs 97 = .ok (.isub, 1) := by decide +kernel
theorem dX7_weighs_98 : decode cX7_weighs 98 = .ok (.putfield 165, 3) := by decide +kernel
theorem dX7_weighs_101 : decode cX7_weighs 101 = .ok (.aload_n 0, 1) := by decide +kernel
theorem dX7_weighs_102 : decode cX7_weighs 102 = .ok (.getfield 93, 3) := by decide +kernel
theorem dX7_weighs_105 : decode cX7_weighs 105 = .ok (.aload_n 0, 1) := by decide +kernel
theorem dX7_weighs_106 : decode cX7_weighs 106 = .ok (.getfield 48, 3) := by decide +kernel
theorem dX7_weighs_109 : decode cX7_weighs 109 = .ok (.iload_n 2, 1) := by decide +kernel
theorem dX7_weighs_110 : decode cX7_weighs 110 = .ok (.iaload, 1) := by decide +kernel
theorem dX7_weighs_111 : decode cX7_weighs 111 = .ok (.dup2, 1) := by decide +kernel
theorem dX7_weighs_112 : decode cX7_weighs 112 = .ok (.iaload, 1) := by decide +kernel
theorem dX7_weighs_113 : decode cX7_weighs 113 = .ok (.iload 4, 2) := by decide +kernel
theorem dX7_weighs_115 : decode cX7_weighs 115 = .ok (.iadd, 1) := by decide +kernel
theorem dX7_weighs_116 : decode cX7_weighs 116 = .ok (.iastore, 1) := by decide +kernel
theorem dX7_weighs_117 : decode cX7_weighs 117 = .ok (.iload_n 3, 1) := by decide +kernel
theorem dX7_weighs_118 : decode cX7_weighs 118 = .ok (.bipush 112, 2) := by decide +kernel
theorem dX7_weighs_120 : decode cX7_weighs 120 = .ok (.if_icmp .eq 16, 3) := by decide +kernel
theorem dX7_weighs_123 : decode cX7_weighs 123 = .ok (.iload_n 3, 1) := by decide +kernel
theorem dX7_weighs_124 : decode cX7_weighs 124 = .ok (.bipush 100, 2) := by decide +kernel
theorem dX7_weighs_126 : decode cX7_weighs 126 = .ok (.if_icmp .eq 10, 3) := by decide +kernel
theorem dX7_weighs_129 : decode cX7_weighs 129 = .ok (.iload_n 3, 1) := by decide +kernel
theorem dX7_weighs_130 : decode cX7_weighs 130 = .ok (.bipush 97, 2) := by decide +kernel
theorem dX7_weighs_132 : decode cX7_weighs 132 = .ok (.if_icmp .eq 4, 3) := by decide +kernel
theorem dX7_weighs_135 : decode cX7_weighs 135 = .ok (.return_, 1) := by decide +kernel
theorem dX7_weighs_136 : decode cX7_weighs 136 = .ok (.aload_n 0, 1) := by decide +kernel
theorem dX7_weighs_137 : decode cX7_weighs 137 = .ok (.getfield 78, 3) := by decide +kernel
theorem dX7_weighs_140 : decode cX7_weighs 140 = .ok (.aload_n 0, 1) := by decide +kernel
theorem dX7_weighs_141 : decode cX7_weighs 141 = .ok (.getfield 51, 3) := by decide +kernel
theorem dX7_weighs_144 : decode cX7_weighs 144 = .ok (.iload_n 2, 1) := by decide +kernel
theorem dX7_weighs_145 : decode cX7_weighs 145 = .ok (.iaload, 1) := by decide +kernel
theorem dX7_weighs_146 : decode cX7_weighs 146 = .ok (.iaload, 1) := by decide +kernel
theorem dX7_weighs_147 : decode cX7_weighs 147 = .ok (.iload_n 1, 1) := by decide +kernel
theorem dX7_weighs_148 : decode cX7_weighs 148 = .ok (.if_icmp .ne 7, 3) := by decide +kernel
theorem dX7_weighs_151 : decode cX7_weighs 151 = .ok (.iconst 1, 1) := by decide +kernel
theorem dX7_weighs_152 : decode cX7_weighs 152 = .ok (.goto 4, 3) := by decide +kernel
theorem dX7_weighs_155 : decode cX7_weighs 155 = .ok (.iconst 0, 1) := by decide +kernel
theorem dX7_weighs_156 : decode cX7_weighs 156 = .ok (.istore 5, 2) := by decide +kernel
theorem dX7_weighs_158 : decode cX7_weighs 158 = .ok (.aload_n 0, 1) := by decide +kernel
theorem dX7_weighs_159 : decode cX7_weighs 159 = .ok (.dup, 1) := by decide +kernel
theorem dX7_weighs_160 : decode cX7_weighs 160 = .ok (.getfield 168, 3) := by decide +kernel
theorem dX7_weighs_163 : decode cX7_weighs 163 = .ok (.iload 5, 2) := by decide +kernel
theorem dX7_weighs_165 : decode cX7_weighs 165 = .ok (.ifCond .ne 7, 3) := by decide +kernel
theorem dX7_weighs_168 : decode cX7_weighs 168 = .ok (.iconst 0, 1) := by decide +kernel
theorem dX7_weighs_169 : decode cX7_weighs 169 = .ok (.goto 17, 3) := by decide +kernel
theorem dX7_weighs_172 : decode cX7_weighs 172 = .ok (.iload_n 3, 1) := by decide +kernel
theorem dX7_weighs_173 : decode cX7_weighs 173 = .ok (.bipush 112, 2) := by decide +kernel
theorem dX7_weighs_175 : decode cX7_weighs 175 = .ok (.if_icmp .ne 8, 3) := by decide +kernel
theorem dX7_weighs_178 : decode cX7_weighs 178 = .ok (.iload 4, 2) := by decide +kernel
theorem dX7_weighs_180 : decode cX7_weighs 180 = .ok (.goto 6, 3) := by decide +kernel
theorem dX7_weighs_183 : decode cX7_weighs 183 = .ok (.iload 4, 2) := by decide +kernel
theorem dX7_weighs_185 : decode cX7_weighs 185 = .ok (.ineg, 1) := by decide +kernel
theorem dX7_weighs_186 : decode cX7_weighs 186 = .ok (.iadd, 1) := by decide +kernel
theorem dX7_weighs_187 : decode cX7_weighs 187 = .ok (.putfield 168, 3) := by decide +kernel
theorem dX7_weighs_190 : decode cX7_weighs 190 = .ok (.aload_n 0, 1) := by decide +kernel
theorem dX7_weighs_191 : decode cX7_weighs 191 = .ok (.dup, 1) := by decide +kernel
theorem dX7_weighs_192 : decode cX7_weighs 192 = .ok (.getfield 165, 3) := by decide +kernel
theorem dX7_weighs_195 : decode cX7_weighs 195 = .ok (.iload_n 3, 1) := by decide +kernel
theorem dX7_weighs_196 : decode cX7_weighs 196 = .ok (.bipush 100, 2) := by decide +kernel
theorem dX7_weighs_198 : decode cX7_weighs 198 = .ok (.if_icmp .eq 7, 3) := by decide +kernel
theorem dX7_weighs_201 : decode cX7_weighs 201 = .ok (.iconst 0, 1) := by decide +kernel
theorem dX7_weighs_202 : decode cX7_weighs 202 = .ok (.goto 16, 3) := by decide +kernel
theorem dX7_weighs_205 : decode cX7_weighs 205 = .ok (.iload 5, 2) := by decide +kernel
theorem dX7_weighs_207 : decode cX7_weighs 207 = .ok (.ifCond .eq 9, 3) := by decide +kernel
theorem dX7_weighs_210 : decode cX7_weighs 210 = .ok (.iload 4, 2) := by decide +kernel
theorem dX7_weighs_212 : decode cX7_weighs 212 = .ok (.ineg, 1) := by decide +kernel
theorem dX7_weighs_213 : decode cX7_weighs 213 = .ok (.goto 5, 3) := by decide +kernel
theorem dX7_weighs_216 : decode cX7_weighs 216 = .ok (.iload 4, 2) := by decide +kernel
theorem dX7_weighs_218 : decode cX7_weighs 218 = .ok (.iadd, 1) := by decide +kernel
theorem dX7_weighs_219 : decode cX7_weighs 219 = .ok (.putfield 165, 3) := by decide +kernel
theorem dX7_weighs_222 : decode cX7_weighs 222 = .ok (.return_, 1) := by decide +kernel
set_option maxRecDepth 20000 in
theorem ggX7_hangs_X7_sums : GoodIn wsX7_hangs wsX7_sums := goodIn_r _ [7, 8, 9, 10, 1, 11, 2, 12, 13, 14, 15, 16, 6, 17, 18, 19, 20, 21, 22, 23, 24, 25, 26, 27, 28, 29, 30, 31, 32, 33, 34, 35, 36, 37, 38, 39, 40, 41, 42, 43, 44, 45, 46, 47, 48, 49, 50, 51, 52, 53, 54, 55, 56] (by decide +kernel) (by decide +kernel)
set_option maxRecDepth 20000 in
theorem gX7_hangs_X7_sums : GoodIn wsX7_hangs (wsV RX7 178 RX7 yX7_sums wsX7_sums) := goodIn_app (goodIn_of _ (by decide +kernel)) ggX7_hangs_X7_sums
theorem dX7_hangs_0 : decode cX7_hangs 0 = .ok (.aload_n 0, 1) := by decide +kernel
theorem dX7_hangs_1 : decode cX7_hangs 1 = .ok (.iload_n 1, 1) := by decide +kernel
theorem dX7_hangs_2 : decode cX7_hangs 2 = .ok (.invokevirtual 178, 3) := by decide +kernel
theorem dX7_hangs_5 : decode cX7_hangs 5 = .ok (.aload_n 0, 1) := by decide +kernel
theorem dX7_hangs_6 : decode cX7_hangs 6 = .ok (.getfield 171, 3) := by decide +kernel
theorem dX7_hangs_9 : decode cX7_hangs 9 = .ok (.aload_n 0, 1) := by decide +kernel
theorem dX7_hangs_10 : decode cX7_hangs 10 = .ok (.getfield 16, 3) := by decide +kernel
theorem dX7_hangs_13 : decode cX7_hangs 13 = .ok (.iload_n 1, 1) := by decide +kernel
theorem dX7_hangs_14 : decode cX7_hangs 14 = .ok (.iaload, 1) := by decide +kernel
theorem dX7_hangs_15 : decode cX7_hangs 15 = .ok (.if_icmp .ge 7, 3) := by decide +kernel
theorem dX7_hangs_18 : decode cX7_hangs 18 = .ok (.iconst 1, 1) := by decide +kernel
theorem dX7_hangs_19 : decode cX7_hangs 19 = .ok (.goto 4, 3) := by decide +kernel
theorem dX7_hangs_22 : decode cX7_hangs 22 = .ok (.iconst 0, 1) := by decide +kernel
theorem dX7_hangs_23 : decode cX7_hangs 23 = .ok (.ireturn, 1) := by decide +kernel
set_option maxRecDepth 20000 in
theorem ggX7_order_X7_isCastle : GoodIn wsX7_order wsX7_isCastle := goodIn_r _ [8] (by decide +kernel) (by decide +kernel)
set_option maxRecDepth 20000 in
theorem gX7_order_X7_isCastle : GoodIn wsX7_order (va_wsS RX7 108 yX7_isCastle wsX7_isCastle) := goodIn_app (goodIn_of _ (by decide +kernel)) ggX7_order_X7_isCastle
set_option maxRecDepth 20000 in
theorem ggX7_order_X7_isGate : GoodIn wsX7_order wsX7_isGate := goodIn_r _ [11, 12, 13, 7, 14] (by decide +kernel) (by decide +kernel)
set_option maxRecDepth 20000 in
theorem gX7_order_X7_isGate : GoodIn wsX7_order (va_wsS RX7 142 yX7_isGate wsX7_isGate) := goodIn_app (goodIn_of _ (by decide +kernel)) ggX7_order_X7_isGate
set_option maxRecDepth 20000 in
theorem ggX7_order_X7_isLord : GoodIn wsX7_order wsX7_isLord := goodIn_r _ [17, 12, 13, 7, 14] (by decide +kernel) (by decide +kernel)
set_option maxRecDepth 20000 in
theorem gX7_order_X7_isLord : GoodIn wsX7_order (va_wsS RX7 136 yX7_isLord wsX7_isLord) := goodIn_app (goodIn_of _ (by decide +kernel)) ggX7_order_X7_isLord
set_option maxRecDepth 20000 in
theorem ggX7_order_X7_no : GoodIn wsX7_order wsX7_no := goodIn_r _ [21, 22, 68, 69, 70, 71, 72, 73, 74, 75, 76, 77, 78, 79, 80, 81, 82, 83, 84, 85, 86, 87, 88, 89, 90, 91, 92, 93, 94, 95, 96, 97, 98, 99, 100, 101, 102] (by decide +kernel) (by decide +kernel)
set_option maxRecDepth 20000 in
theorem gX7_order_X7_no : GoodIn wsX7_order (wsV RX7 118 RX7 yX7_no wsX7_no) := goodIn_app (goodIn_of _ (by decide +kernel)) ggX7_order_X7_no
set_option maxRecDepth 20000 in
theorem ggX7_order_X7_isIn : GoodIn wsX7_order wsX7_isIn := goodIn_r _ [14] (by decide +kernel) (by decide +kernel)
set_option maxRecDepth 20000 in
theorem gX7_order_X7_isIn : GoodIn wsX7_order (va_wsS RX7 104 yX7_isIn wsX7_isIn) := goodIn_app (goodIn_of _ (by decide +kernel)) ggX7_order_X7_isIn
set_option maxRecDepth 20000 in
theorem ggX7_order_X7_sums : GoodIn wsX7_order wsX7_sums := goodIn_r _ [26, 27, 2, 3, 28, 1, 4, 29, 30, 31, 32, 33, 7, 34, 35, 36, 37, 38, 68, 69, 70, 71, 72, 73, 74, 75, 76, 77, 78, 79, 80, 81, 82, 83, 84, 85, 86, 87, 88, 89, 90, 91, 92, 93, 94, 95, 96, 97, 98, 99, 100, 101, 102] (by decide +kernel) (by decide +kernel)
set_option maxRecDepth 20000 in
theorem gX7_order_X7_sums : GoodIn wsX7_order (wsV RX7 178 RX7 yX7_sums wsX7_sums) := goodIn_app (goodIn_of _ (by decide +kernel)) ggX7_order_X7_sums
set_option maxRecDepth 20000 in
theorem ggX7_order_X7_opens : GoodIn wsX7_order wsX7_opens := goodIn_r _ [42, 43, 44, 68, 69, 70, 71, 72, 73, 74, 75, 76, 77, 78, 79, 80, 81, 82, 83, 84, 85, 86, 87, 88, 89, 90, 91, 92, 93, 94, 95, 96, 97, 98, 99, 100, 101, 102] (by decide +kernel) (by decide +kernel)
set_option maxRecDepth 20000 in
theorem gX7_order_X7_opens : GoodIn wsX7_order (wsV RX7 158 RX7 yX7_opens wsX7_opens) := goodIn_app (goodIn_of _ (by decide +kernel)) ggX7_order_X7_opens
set_option maxRecDepth 20000 in
theorem ggX7_order_X7_reach : GoodIn wsX7_order wsX7_reach := goodIn_r _ [48, 49, 50, 51, 68, 69, 70, 71, 72, 73, 74, 75, 76, 77, 78, 79, 80, 81, 82, 83, 84, 85, 86, 87, 88, 89, 90, 91, 92, 93, 94, 95, 96, 97, 98, 99, 100, 101, 102] (by decide +kernel) (by decide +kernel)
set_option maxRecDepth 20000 in
theorem gX7_order_X7_reach : GoodIn wsX7_order (wsV RX7 145 RX7 yX7_reach wsX7_reach) := goodIn_app (goodIn_of _ (by decide +kernel)) ggX7_order_X7_reach
set_option maxRecDepth 20000 in
theorem ggX7_order_X7_writes : GoodIn wsX7_order wsX7_writes := goodIn_r _ [55, 4, 30, 35, 36, 38, 56, 29, 45, 46, 47, 7, 48, 49, 50, 51, 57, 58, 59, 60, 61, 62, 63, 64, 65, 66, 67, 68, 69, 70, 71, 72, 73, 74, 75, 76, 77, 78, 79, 80, 81, 82, 83, 84, 85, 86, 87, 88, 89, 90, 91, 92, 93, 94, 95, 96, 97, 98, 99, 100, 101, 102] (by decide +kernel) (by decide +kernel)
set_option maxRecDepth 20000 in
theorem gX7_order_X7_writes : GoodIn wsX7_order (wsV RX7 181 RX7 yX7_writes wsX7_writes) := goodIn_app (goodIn_of _ (by decide +kernel)) ggX7_order_X7_writes
theorem dX7_order_0 : decode cX7_order 0 = .ok (.aload_n 0, 1) := by decide +kernel
theorem dX7_order_1 : decode cX7_order 1 = .ok (.iload_n 2, 1) := by decide +kernel
theorem dX7_order_2 : decode cX7_order 2 = .ok (.invokestatic 108, 3) := by decide +kernel
theorem dX7_order_5 : decode cX7_order 5 = .ok (.ifCond .eq 21, 3) := by decide +kernel
theorem dX7_order_8 : decode cX7_order 8 = .ok (.iload_n 3, 1) := by decide +kernel
theorem dX7_order_9 : decode cX7_order 9 = .ok (.invokestatic 142, 3) := by decide +kernel
theorem dX7_order_12 : decode cX7_order 12 = .ok (.ifCond .eq 14, 3) := by decide +kernel
theorem dX7_order_15 : decode cX7_order 15 = .ok (.iload_n 1, 1) := by decide +kernel
theorem dX7_order_16 : decode cX7_order 16 = .ok (.invokestatic 136, 3) := by decide +kernel
theorem dX7_order_19 : decode cX7_order 19 = .ok (.ifCond .eq 7, 3) := by decide +kernel
theorem dX7_order_22 : decode cX7_order 22 = .ok (.iconst 1, 1) := by decide +kernel
theorem dX7_order_23 : decode cX7_order 23 = .ok (.goto 4, 3) := by decide +kernel
theorem dX7_order_26 : decode cX7_order 26 = .ok (.iconst 0, 1) := by decide +kernel
theorem dX7_order_27 : decode cX7_order 27 = .ok (.iconst 1, 1) := by decide +kernel
theorem dX7_order_28 : decode cX7_order 28 = .ok (.invokevirtual 118, 3) := by decide +kernel
theorem dX7_order_31 : decode cX7_order 31 = .ok (.ifCond .ne 20, 3) := by decide +kernel
theorem dX7_order_34 : decode cX7_order 34 = .ok (.aload_n 0, 1) := by decide +kernel
theorem dX7_order_35 : decode cX7_order 35 = .ok (.iload 5, 2) := by decide +kernel
theorem dX7_order_37 : decode cX7_order 37 = .ok (.iconst 1, 1) := by decide +kernel
theorem dX7_order_38 : decode cX7_order 38 = .ok (.sipush 999, 3) := by decide +kernel
theorem dX7_order_41 : decode cX7_order 41 = .ok (.invokestatic 104, 3) := by decide +kernel
theorem dX7_order_44 : decode cX7_order 44 = .ok (.iconst 2, 1) := by decide +kernel
theorem dX7_order_45 : decode cX7_order 45 = .ok (.invokevirtual 118, 3) := by decide +kernel
theorem dX7_order_48 : decode cX7_order 48 = .ok (.ifCond .eq 5, 3) := by decide +kernel
theorem dX7_order_51 : decode cX7_order 51 = .ok (.iconst 0, 1) := by decide +kernel
theorem dX7_order_52 : decode cX7_order 52 = .ok (.ireturn, 1) := by decide +kernel
theorem dX7_order_53 : decode cX7_order 53 = .ok (.aload_n 0, 1) := by decide +kernel
theorem dX7_order_54 : decode cX7_order 54 = .ok (.iload_n 2, 1) := by decide +kernel
theorem dX7_order_55 : decode cX7_order 55 = .ok (.invokevirtual 178, 3) := by decide +kernel
theorem dX7_order_58 : decode cX7_order 58 = .ok (.iload 4, 2) := by decide +kernel
theorem dX7_order_60 : decode cX7_order 60 = .ok (.ifCond .eq 22, 3) := by decide +kernel
theorem dX7_order_63 : decode cX7_order 63 = .ok (.aload_n 0, 1) := by decide +kernel
theorem dX7_order_64 : decode cX7_order 64 = .ok (.getfield 93, 3) := by decide +kernel
theorem dX7_order_67 : decode cX7_order 67 = .ok (.iload_n 1, 1) := by decide +kernel
theorem dX7_order_68 : decode cX7_order 68 = .ok (.iaload, 1) := by decide +kernel
theorem dX7_order_69 : decode cX7_order 69 = .ok (.iload 5, 2) := by decide +kernel
theorem dX7_order_71 : decode cX7_order 71 = .ok (.if_icmp .lt 7, 3) := by decide +kernel
theorem dX7_order_74 : decode cX7_order 74 = .ok (.iconst 1, 1) := by decide +kernel
theorem dX7_order_75 : decode cX7_order 75 = .ok (.goto 26, 3) := by decide +kernel
theorem dX7_order_78 : decode cX7_order 78 = .ok (.iconst 0, 1) := by decide +kernel
theorem dX7_order_79 : decode cX7_order 79 = .ok (.goto 22, 3) := by decide +kernel
theorem dX7_order_82 : decode cX7_order 82 = .ok (.aload_n 0, 1) := by decide +kernel
theorem dX7_order_83 : decode cX7_order 83 = .ok (.getfield 165, 3) := by decide +kernel
theorem dX7_order_86 : decode cX7_order 86 = .ok (.aload_n 0, 1) := by decide +kernel
theorem dX7_order_87 : decode cX7_order 87 = .ok (.getfield 168, 3) := by decide +kernel
theorem dX7_order_90 : decode cX7_order 90 = .ok (.isub, 1) := by decide +kernel
theorem dX7_order_91 : decode cX7_order 91 = .ok (.iload 5, 2) := by decide +kernel
theorem dX7_order_93 : decode cX7_order 93 = .ok (.if_icmp .lt 7, 3) := by decide +kernel
theorem dX7_order_96 : decode cX7_order 96 = .ok (.iconst 1, 1) := by decide +kernel
theorem dX7_order_97 : decode cX7_order 97 = .ok (.goto 4, 3) := by decide +kernel
theorem dX7_order_100 : decode cX7_order 100 = .ok (.iconst 0, 1) := by decide +kernel
theorem dX7_order_101 : decode cX7_order 101 = .ok (.istore 6, 2) := by decide +kernel
theorem dX7_order_103 : decode cX7_order 103 = .ok (.aload_n 0, 1) := by decide +kernel
theorem dX7_order_104 : decode cX7_order 104 = .ok (.aload_n 0, 1) := by decide +kernel
theorem dX7_order_105 : decode cX7_order 105 = .ok (.iload_n 2, 1) := by decide +kernel
theorem dX7_order_106 : decode cX7_order 106 = .ok (.iload_n 3, 1) := by decide +kernel
theorem dX7_order_107 : decode cX7_order 107 = .ok (.iload_n 1, 1) := by decide +kernel
theorem dX7_order_108 : decode cX7_order 108 = .ok (.invokevirtual 158, 3) := by decide +kernel
theorem dX7_order_111 : decode cX7_order 111 = .ok (.ifCond .eq 21, 3) := by decide +kernel
theorem dX7_order_114 : decode cX7_order 114 = .ok (.iload 6, 2) := by decide +kernel
theorem dX7_order_116 : decode cX7_order 116 = .ok (.ifCond .eq 16, 3) := by decide +kernel
theorem dX7_order_119 : decode cX7_order 119 = .ok (.aload_n 0, 1) := by decide +kernel
theorem dX7_order_120 : decode cX7_order 120 = .ok (.iload_n 2, 1) := by decide +kernel
theorem dX7_order_121 : decode cX7_order 121 = .ok (.iload_n 1, 1) := by decide +kernel
theorem dX7_order_122 : decode cX7_order 122 = .ok (.invokevirtual 145, 3) := by decide +kernel
theorem dX7_order_125 : decode cX7_order 125 = .ok (.ifCond .eq 7, 3) := by decide +kernel
theorem dX7_order_128 : decode cX7_order 128 = .ok (.iconst 1, 1) := by decide +kernel
theorem dX7_order_129 : decode cX7_order 129 = .ok (.goto 4, 3) := by decide +kernel
theorem dX7_order_132 : decode cX7_order 132 = .ok (.iconst 0, 1) := by decide +kernel
theorem dX7_order_133 : decode cX7_order 133 = .ok (.iconst 3, 1) := by decide +kernel
theorem dX7_order_134 : decode cX7_order 134 = .ok (.invokevirtual 118, 3) := by decide +kernel
theorem dX7_order_137 : decode cX7_order 137 = .ok (.ifCond .ne 27, 3) := by decide +kernel
theorem dX7_order_140 : decode cX7_order 140 = .ok (.aload_n 0, 1) := by decide +kernel
theorem dX7_order_141 : decode cX7_order 141 = .ok (.aload_n 0, 1) := by decide +kernel
theorem dX7_order_142 : decode cX7_order 142 = .ok (.getfield 16, 3) := by decide +kernel
theorem dX7_order_145 : decode cX7_order 145 = .ok (.iload_n 2, 1) := by decide +kernel
theorem dX7_order_146 : decode cX7_order 146 = .ok (.iaload, 1) := by decide +kernel
theorem dX7_order_147 : decode cX7_order 147 = .ok (.bipush 60, 2) := by decide +kernel
theorem dX7_order_149 : decode cX7_order 149 = .ok (.if_icmp .ge 7, 3) := by decide +kernel
theorem dX7_order_152 : decode cX7_order 152 = .ok (.iconst 1, 1) := by decide +kernel
theorem dX7_order_153 : decode cX7_order 153 = .ok (.goto 4, 3) := by decide +kernel
theorem dX7_order_156 : decode cX7_order 156 = .ok (.iconst 0, 1) := by decide +kernel
theorem dX7_order_157 : decode cX7_order 157 = .ok (.iconst 4, 1) := by decide +kernel
theorem dX7_order_158 : decode cX7_order 158 = .ok (.invokevirtual 118, 3) := by decide +kernel
theorem dX7_order_161 : decode cX7_order 161 = .ok (.ifCond .eq 5, 3) := by decide +kernel
theorem dX7_order_164 : decode cX7_order 164 = .ok (.iconst 0, 1) := by decide +kernel
theorem dX7_order_165 : decode cX7_order 165 = .ok (.ireturn, 1) := by decide +kernel
theorem dX7_order_166 : decode cX7_order 166 = .ok (.aload_n 0, 1) := by decide +kernel
theorem dX7_order_167 : decode cX7_order 167 = .ok (.iload_n 2, 1) := by decide +kernel
theorem dX7_order_168 : decode cX7_order 168 = .ok (.iload 4, 2) := by decide +kernel
theorem dX7_order_170 : decode cX7_order 170 = .ok (.ifCond .eq 8, 3) := by decide +kernel
theorem dX7_order_173 : decode cX7_order 173 = .ok (.bipush 105, 2) := by decide +kernel
theorem dX7_order_175 : decode cX7_order 175 = .ok (.goto 5, 3) := by decide +kernel
theorem dX7_order_178 : decode cX7_order 178 = .ok (.bipush 111, 2) := by decide +kernel
theorem dX7_order_180 : decode cX7_order 180 = .ok (.iload 5, 2) := by decide +kernel
theorem dX7_order_182 : decode cX7_order 182 = .ok (.iload_n 1, 1) := by decide +kernel
theorem dX7_order_183 : decode cX7_order 183 = .ok (.iconst 0, 1) := by decide +kernel
theorem dX7_order_184 : decode cX7_order 184 = .ok (.invokevirtual 181, 3) := by decide +kernel
theorem dX7_order_187 : decode cX7_order 187 = .ok (.ireturn, 1) := by decide +kernel
set_option maxRecDepth 20000 in
theorem ggX7_spread_X7_isCastle : GoodIn wsX7_spread wsX7_isCastle := goodIn_r _ [6] (by decide +kernel) (by decide +kernel)
set_option maxRecDepth 20000 in
theorem gX7_spread_X7_isCastle : GoodIn wsX7_spread (va_wsS RX7 108 yX7_isCastle wsX7_isCastle) := goodIn_app (goodIn_of _ (by decide +kernel)) ggX7_spread_X7_isCastle
set_option maxRecDepth 20000 in
theorem ggX7_spread_X7_no : GoodIn wsX7_spread wsX7_no := goodIn_r _ [10, 11, 31, 32, 33, 34, 35, 36, 37, 38, 39, 40, 41, 42, 43, 44, 45, 46, 47, 48, 49, 50, 51, 52, 53, 54, 55, 56, 57, 58, 59, 60, 61, 62, 63, 64, 65] (by decide +kernel) (by decide +kernel)
set_option maxRecDepth 20000 in
theorem gX7_spread_X7_no : GoodIn wsX7_spread (wsV RX7 118 RX7 yX7_no wsX7_no) := goodIn_app (goodIn_of _ (by decide +kernel)) ggX7_spread_X7_no
set_option maxRecDepth 20000 in
theorem ggX7_spread_X7_reach : GoodIn wsX7_spread wsX7_reach := goodIn_r _ [15, 16, 17, 18, 31, 32, 33, 34, 35, 36, 37, 38, 39, 40, 41, 42, 43, 44, 45, 46, 47, 48, 49, 50, 51, 52, 53, 54, 55, 56, 57, 58, 59, 60, 61, 62, 63, 64, 65] (by decide +kernel) (by decide +kernel)
set_option maxRecDepth 20000 in
theorem gX7_spread_X7_reach : GoodIn wsX7_spread (wsV RX7 145 RX7 yX7_reach wsX7_reach) := goodIn_app (goodIn_of _ (by decide +kernel)) ggX7_spread_X7_reach
set_option maxRecDepth 20000 in
theorem ggX7_spread_X7_ones : GoodIn wsX7_spread wsX7_ones := goodIn_r _ [21] (by decide +kernel) (by decide +kernel)
set_option maxRecDepth 20000 in
theorem gX7_spread_X7_ones : GoodIn wsX7_spread (va_wsS RX7 139 yX7_ones wsX7_ones) := goodIn_app (goodIn_of _ (by decide +kernel)) ggX7_spread_X7_ones
set_option maxRecDepth 20000 in
theorem ggX7_spread_X7_commits : GoodIn wsX7_spread wsX7_commits := goodIn_r _ [25, 1, 26, 2, 27, 28, 29, 5, 30, 16, 19, 20, 21, 31, 32, 33, 34, 35, 36, 37, 38, 39, 40, 41, 42, 43, 44, 45, 46, 47, 48, 49, 50, 51, 52, 53, 54, 55, 56, 57, 58, 59, 60, 61, 62, 63, 64, 65] (by decide +kernel) (by decide +kernel)
set_option maxRecDepth 20000 in
theorem gX7_spread_X7_commits : GoodIn wsX7_spread (wsV RX7 161 RX7 yX7_commits wsX7_commits) := goodIn_app (goodIn_of _ (by decide +kernel)) ggX7_spread_X7_commits
theorem dX7_spread_0 : decode cX7_spread 0 = .ok (.aload_n 0, 1) := by decide +kernel
theorem dX7_spread_1 : decode cX7_spread 1 = .ok (.iload_n 1, 1) := by decide +kernel
theorem dX7_spread_2 : decode cX7_spread 2 = .ok (.invokestatic 108, 3) := by decide +kernel
theorem dX7_spread_5 : decode cX7_spread 5 = .ok (.iconst 1, 1) := by decide +kernel
theorem dX7_spread_6 : decode cX7_spread 6 = .ok (.invokevirtual 118, 3) := by decide +kernel
theorem dX7_spread_9 : decode cX7_spread 9 = .ok (.ifCond .eq 5, 3) := by decide +kernel
theorem dX7_spread_12 : decode cX7_spread 12 = .ok (.iconst 0, 1) := by decide +kernel
theorem dX7_spread_13 : decode cX7_spread 13 = .ok (.ireturn, 1) := by decide +kernel
theorem dX7_spread_14 : decode cX7_spread 14 = .ok (.aload_n 0, 1) := by decide +kernel
theorem dX7_spread_15 : decode cX7_spread 15 = .ok (.iload_n 1, 1) := by decide +kernel
theorem dX7_spread_16 : decode cX7_spread 16 = .ok (.iconst (-1), 1) := by decide +kernel
theorem dX7_spread_17 : decode cX7_spread 17 = .ok (.invokevirtual 145, 3) := by decide +kernel
theorem dX7_spread_20 : decode cX7_spread 20 = .ok (.istore_n 2, 1) := by decide +kernel
theorem dX7_spread_21 : decode cX7_spread 21 = .ok (.iconst 0, 1) := by decide +kernel
theorem dX7_spread_22 : decode cX7_spread 22 = .ok (.istore_n 3, 1) := by decide +kernel
theorem dX7_spread_23 : decode cX7_spread 23 = .ok (.iconst 0, 1) := by decide +kernel
theorem dX7_spread_24 : decode cX7_spread 24 = .ok (.istore 4, 2) := by decide +kernel
theorem dX7_spread_26 : decode cX7_spread 26 = .ok (.iload 4, 2) := by decide +kernel
theorem dX7_spread_28 : decode cX7_spread 28 = .ok (.aload_n 0, 1) := by decide +kernel
theorem dX7_spread_29 : decode cX7_spread 29 = .ok (.getfield 16, 3) := by decide +kernel
theorem dX7_spread_32 : decode cX7_spread 32 = .ok (.iload_n 1, 1) := by decide +kernel
theorem dX7_spread_33 : decode cX7_spread 33 = .ok (.iaload, 1) := by decide +kernel
theorem dX7_spread_34 : decode cX7_spread 34 = .ok (.if_icmp .ge 61, 3) := by decide +kernel
theorem dX7_spread_37 : decode cX7_spread 37 = .ok (.iload_n 1, 1) := by decide +kernel
theorem dX7_spread_38 : decode cX7_spread 38 = .ok (.bipush 60, 2) := by decide +kernel
theorem dX7_spread_40 : decode cX7_spread 40 = .ok (.imul, 1) := by decide +kernel
theorem dX7_spread_41 : decode cX7_spread 41 = .ok (.iload 4, 2) := by decide +kernel
theorem dX7_spread_43 : decode cX7_spread 43 = .ok (.iadd, 1) := by decide +kernel
theorem dX7_spread_44 : decode cX7_spread 44 = .ok (.istore 5, 2) := by decide +kernel
theorem dX7_spread_46 : decode cX7_spread 46 = .ok (.aload_n 0, 1) := by decide +kernel
theorem dX7_spread_47 : decode cX7_spread 47 = .ok (.getfield 54, 3) := by decide +kernel
theorem dX7_spread_50 : decode cX7_spread 50 = .ok (.iload 5, 2) := by decide +kernel
theorem dX7_spread_52 : decode cX7_spread 52 = .ok (.iaload, 1) := by decide +kernel
theorem dX7_spread_53 : decode cX7_spread 53 = .ok (.iload_n 2, 1) := by decide +kernel
theorem dX7_spread_54 : decode cX7_spread 54 = .ok (.iand, 1) := by decide +kernel
theorem dX7_spread_55 : decode cX7_spread 55 = .ok (.ifCond .ne 6, 3) := by decide +kernel
theorem dX7_spread_58 : decode cX7_spread 58 = .ok (.goto 31, 3) := by decide +kernel
theorem dX7_spread_61 : decode cX7_spread 61 = .ok (.iload_n 3, 1) := by decide +kernel
theorem dX7_spread_62 : decode cX7_spread 62 = .ok (.iload_n 2, 1) := by decide +kernel
theorem dX7_spread_63 : decode cX7_spread 63 = .ok (.aload_n 0, 1) := by decide +kernel
theorem dX7_spread_64 : decode cX7_spread 64 = .ok (.getfield 54, 3) := by decide +kernel
theorem dX7_spread_67 : decode cX7_spread 67 = .ok (.iload 5, 2) := by decide +kernel
theorem dX7_spread_69 : decode cX7_spread 69 = .ok (.iaload, 1) := by decide +kernel
theorem dX7_spread_70 : decode cX7_spread 70 = .ok (.iconst (-1), 1) := by decide +kernel
theorem dX7_spread_71 : decode cX7_spread 71 = .ok (.ixor, 1) := by decide +kernel
theorem dX7_spread_72 : decode cX7_spread 72 = .ok (.iand, 1) := by decide +kernel
theorem dX7_spread_73 : decode cX7_spread 73 = .ok (.invokestatic 139, 3) := by decide +kernel
theorem dX7_spread_76 : decode cX7_spread 76 = .ok (.iadd, 1) := by decide +kernel
theorem dX7_spread_77 : decode cX7_spread 77 = .ok (.istore_n 3, 1) := by decide +kernel
theorem dX7_spread_78 : decode cX7_spread 78 = .ok (.aload_n 0, 1) := by decide +kernel
theorem dX7_spread_79 : decode cX7_spread 79 = .ok (.getfield 54, 3) := by decide +kernel
theorem dX7_spread_82 : decode cX7_spread 82 = .ok (.iload 5, 2) := by decide +kernel
theorem dX7_spread_84 : decode cX7_spread 84 = .ok (.dup2, 1) := by decide +kernel
theorem dX7_spread_85 : decode cX7_spread 85 = .ok (.iaload, 1) := by decide +kernel
theorem dX7_spread_86 : decode cX7_spread 86 = .ok (.iload_n 2, 1) := by decide +kernel
theorem dX7_spread_87 : decode cX7_spread 87 = .ok (.ior, 1) := by decide +kernel
theorem dX7_spread_88 : decode cX7_spread 88 = .ok (.iastore, 1) := by decide +kernel
theorem dX7_spread_89 : decode cX7_spread 89 = .ok (.iinc 4 1, 3) := by decide +kernel
theorem dX7_spread_92 : decode cX7_spread 92 = .ok (.goto (-66), 3) := by decide +kernel
theorem dX7_spread_95 : decode cX7_spread 95 = .ok (.aload_n 0, 1) := by decide +kernel
theorem dX7_spread_96 : decode cX7_spread 96 = .ok (.iload_n 1, 1) := by decide +kernel
theorem dX7_spread_97 : decode cX7_spread 97 = .ok (.invokevirtual 161, 3) := by decide +kernel
theorem dX7_spread_100 : decode cX7_spread 100 = .ok (.iload_n 3, 1) := by decide +kernel
theorem dX7_spread_101 : decode cX7_spread 101 = .ok (.ireturn, 1) := by decide +kernel
set_option maxRecDepth 20000 in
theorem ggX7_strike_X7_isCastle : GoodIn wsX7_strike wsX7_isCastle := goodIn_r _ [8] (by decide +kernel) (by decide +kernel)
set_option maxRecDepth 20000 in
theorem gX7_strike_X7_isCastle : GoodIn wsX7_strike (va_wsS RX7 108 yX7_isCastle wsX7_isCastle) := goodIn_app (goodIn_of _ (by decide +kernel)) ggX7_strike_X7_isCastle
set_option maxRecDepth 20000 in
theorem ggX7_strike_X7_no : GoodIn wsX7_strike wsX7_no := goodIn_r _ [12, 13, 31, 32, 33, 34, 35, 36, 37, 38, 39, 40, 41, 42, 43, 44, 45, 46, 47, 48, 49, 50, 51, 52, 53, 54, 55, 56, 57, 58, 59, 60, 61, 62, 63, 64, 65] (by decide +kernel) (by decide +kernel)
set_option maxRecDepth 20000 in
theorem gX7_strike_X7_no : GoodIn wsX7_strike (wsV RX7 118 RX7 yX7_no wsX7_no) := goodIn_app (goodIn_of _ (by decide +kernel)) ggX7_strike_X7_no
set_option maxRecDepth 20000 in
theorem ggX7_strike_X7_sums : GoodIn wsX7_strike wsX7_sums := goodIn_r _ [17, 18, 19, 20, 1, 21, 2, 22, 4, 23, 24, 25, 7, 26, 27, 28, 29, 30, 31, 32, 33, 34, 35, 36, 37, 38, 39, 40, 41, 42, 43, 44, 45, 46, 47, 48, 49, 50, 51, 52, 53, 54, 55, 56, 57, 58, 59, 60, 61, 62, 63, 64, 65] (by decide +kernel) (by decide +kernel)
set_option maxRecDepth 20000 in
theorem gX7_strike_X7_sums : GoodIn wsX7_strike (wsV RX7 178 RX7 yX7_sums wsX7_sums) := goodIn_app (goodIn_of _ (by decide +kernel)) ggX7_strike_X7_sums
theorem dX7_strike_0 : decode cX7_strike 0 = .ok (.aload_n 0, 1) := by decide +kernel
theorem dX7_strike_1 : decode cX7_strike 1 = .ok (.iload_n 1, 1) := by decide +kernel
theorem dX7_strike_2 : decode cX7_strike 2 = .ok (.invokestatic 108, 3) := by decide +kernel
theorem dX7_strike_5 : decode cX7_strike 5 = .ok (.iconst 1, 1) := by decide +kernel
theorem dX7_strike_6 : decode cX7_strike 6 = .ok (.invokevirtual 118, 3) := by decide +kernel
theorem dX7_strike_9 : decode cX7_strike 9 = .ok (.ifCond .eq 5, 3) := by decide +kernel
theorem dX7_strike_12 : decode cX7_strike 12 = .ok (.iconst 0, 1) := by decide +kernel
theorem dX7_strike_13 : decode cX7_strike 13 = .ok (.ireturn, 1) := by decide +kernel
theorem dX7_strike_14 : decode cX7_strike 14 = .ok (.aload_n 0, 1) := by decide +kernel
theorem dX7_strike_15 : decode cX7_strike 15 = .ok (.iload_n 1, 1) := by decide +kernel
theorem dX7_strike_16 : decode cX7_strike 16 = .ok (.invokevirtual 178, 3) := by decide +kernel
theorem dX7_strike_19 : decode cX7_strike 19 = .ok (.iconst 0, 1) := by decide +kernel
theorem dX7_strike_20 : decode cX7_strike 20 = .ok (.istore_n 2, 1) := by decide +kernel
theorem dX7_strike_21 : decode cX7_strike 21 = .ok (.aload_n 0, 1) := by decide +kernel
theorem dX7_strike_22 : decode cX7_strike 22 = .ok (.getfield 171, 3) := by decide +kernel
theorem dX7_strike_25 : decode cX7_strike 25 = .ok (.istore_n 3, 1) := by decide +kernel
theorem dX7_strike_26 : decode cX7_strike 26 = .ok (.iload_n 3, 1) := by decide +kernel
theorem dX7_strike_27 : decode cX7_strike 27 = .ok (.aload_n 0, 1) := by decide +kernel
theorem dX7_strike_28 : decode cX7_strike 28 = .ok (.getfield 16, 3) := by decide +kernel
theorem dX7_strike_31 : decode cX7_strike 31 = .ok (.iload_n 1, 1) := by decide +kernel
theorem dX7_strike_32 : decode cX7_strike 32 = .ok (.iaload, 1) := by decide +kernel
theorem dX7_strike_33 : decode cX7_strike 33 = .ok (.if_icmp .ge 91, 3) := by decide +kernel
theorem dX7_strike_36 : decode cX7_strike 36 = .ok (.aload_n 0, 1) := by decide +kernel
theorem dX7_strike_37 : decode cX7_strike 37 = .ok (.getfield 54, 3) := by decide +kernel
theorem dX7_strike_40 : decode cX7_strike 40 = .ok (.iload_n 1, 1) := by decide +kernel
theorem dX7_strike_41 : decode cX7_strike 41 = .ok (.bipush 60, 2) := by decide +kernel
theorem dX7_strike_43 : decode cX7_strike 43 = .ok (.imul, 1) := by decide +kernel
theorem dX7_strike_44 : decode cX7_strike 44 = .ok (.iload_n 3, 1) := by decide +kernel
theorem dX7_strike_45 : decode cX7_strike 45 = .ok (.iadd, 1) := by decide +kernel
theorem dX7_strike_46 : decode cX7_strike 46 = .ok (.iaload, 1) := by decide +kernel
theorem dX7_strike_47 : decode cX7_strike 47 = .ok (.ifCond .ne 23, 3) := by decide +kernel
theorem dX7_strike_50 : decode cX7_strike 50 = .ok (.aload_n 0, 1) := by decide +kernel
theorem dX7_strike_51 : decode cX7_strike 51 = .ok (.getfield 41, 3) := by decide +kernel
theorem dX7_strike_54 : decode cX7_strike 54 = .ok (.iload_n 1, 1) := by decide +kernel
theorem dX7_strike_55 : decode cX7_strike 55 = .ok (.bipush 60, 2) := by decide +kernel
theorem dX7_strike_57 : decode cX7_strike 57 = .ok (.imul, 1) := by decide +kernel
theorem dX7_strike_58 : decode cX7_strike 58 = .ok (.iload_n 3, 1) := by decide +kernel
theorem dX7_strike_59 : decode cX7_strike 59 = .ok (.iadd, 1) := by decide +kernel
theorem dX7_strike_60 : decode cX7_strike 60 = .ok (.caload, 1) := by decide +kernel
theorem dX7_strike_61 : decode cX7_strike 61 = .ok (.bipush 45, 2) := by decide +kernel
theorem dX7_strike_63 : decode cX7_strike 63 = .ok (.if_icmp .eq 7, 3) := by decide +kernel
theorem dX7_strike_66 : decode cX7_strike 66 = .ok (.iconst 1, 1) := by decide +kernel
theorem dX7_strike_67 : decode cX7_strike 67 = .ok (.goto 4, 3) := by decide +kernel
theorem dX7_strike_70 : decode cX7_strike 70 = .ok (.iconst 0, 1) := by decide +kernel
theorem dX7_strike_71 : decode cX7_strike 71 = .ok (.istore 4, 2) := by decide +kernel
theorem dX7_strike_73 : decode cX7_strike 73 = .ok (.aload_n 0, 1) := by decide +kernel
theorem dX7_strike_74 : decode cX7_strike 74 = .ok (.getfield 41, 3) := by decide +kernel
theorem dX7_strike_77 : decode cX7_strike 77 = .ok (.iload_n 1, 1) := by decide +kernel
theorem dX7_strike_78 : decode cX7_strike 78 = .ok (.bipush 60, 2) := by decide +kernel
theorem dX7_strike_80 : decode cX7_strike 80 = .ok (.imul, 1) := by decide +kernel
theorem dX7_strike_81 : decode cX7_strike 81 = .ok (.iload_n 3, 1) := by decide +kernel
theorem dX7_strike_82 : decode cX7_strike 82 = .ok (.iadd, 1) := by decide +kernel
theorem dX7_strike_83 : decode cX7_strike 83 = .ok (.iload 4, 2) := by decide +kernel
theorem dX7_strike_85 : decode cX7_strike 85 = .ok (.ifCond .eq 8, 3) := by decide +kernel
theorem dX7_strike_88 : decode cX7_strike 88 = .ok (.bipush 45, 2) := by decide +kernel
theorem dX7_strike_90 : decode cX7_strike 90 = .ok (.goto 14, 3) := by decide +kernel
theorem dX7_strike_93 : decode cX7_strike 93 = .ok (.aload_n 0, 1) := by decide +kernel
theorem dX7_strike_94 : decode cX7_strike 94 = .ok (.getfield 41, 3) := by decide +kernel
theorem dX7_strike_97 : decode cX7_strike 97 = .ok (.iload_n 1, 1) := by decide +kernel
theorem dX7_strike_98 : decode cX7_strike 98 = .ok (.bipush 60, 2) := by decide +kernel
theorem dX7_strike_100 : decode cX7_strike 100 = .ok (.imul, 1) := by decide +kernel
theorem dX7_strike_101 : decode cX7_strike 101 = .ok (.iload_n 3, 1) := by decide +kernel
theorem dX7_strike_102 : decode cX7_strike 102 = .ok (.iadd, 1) := by decide +kernel
theorem dX7_strike_103 : decode cX7_strike 103 = .ok (.caload, 1) := by decide +kernel
theorem dX7_strike_104 : decode cX7_strike 104 = .ok (.castore, 1) := by decide +kernel
theorem dX7_strike_105 : decode cX7_strike 105 = .ok (.iload_n 2, 1) := by decide +kernel
theorem dX7_strike_106 : decode cX7_strike 106 = .ok (.iload 4, 2) := by decide +kernel
theorem dX7_strike_108 : decode cX7_strike 108 = .ok (.ifCond .eq 7, 3) := by decide +kernel
theorem dX7_strike_111 : decode cX7_strike 111 = .ok (.iconst 1, 1) := by decide +kernel
theorem dX7_strike_112 : decode cX7_strike 112 = .ok (.goto 4, 3) := by decide +kernel
theorem dX7_strike_115 : decode cX7_strike 115 = .ok (.iconst 0, 1) := by decide +kernel
theorem dX7_strike_116 : decode cX7_strike 116 = .ok (.iadd, 1) := by decide +kernel
theorem dX7_strike_117 : decode cX7_strike 117 = .ok (.istore_n 2, 1) := by decide +kernel
theorem dX7_strike_118 : decode cX7_strike 118 = .ok (.iinc 3 1, 3) := by decide +kernel
theorem dX7_strike_121 : decode cX7_strike 121 = .ok (.goto (-95), 3) := by decide +kernel
theorem dX7_strike_124 : decode cX7_strike 124 = .ok (.iload_n 2, 1) := by decide +kernel
theorem dX7_strike_125 : decode cX7_strike 125 = .ok (.ireturn, 1) := by decide +kernel
set_option maxRecDepth 20000 in
theorem ggX7_entries_X7_isCastle : GoodIn wsX7_entries wsX7_isCastle := goodIn_r _ [5] (by decide +kernel) (by decide +kernel)
set_option maxRecDepth 20000 in
theorem gX7_entries_X7_isCastle : GoodIn wsX7_entries (va_wsS RX7 108 yX7_isCastle wsX7_isCastle) := goodIn_app (goodIn_of _ (by decide +kernel)) ggX7_entries_X7_isCastle
set_option maxRecDepth 20000 in
theorem ggX7_entries_X7_no : GoodIn wsX7_entries wsX7_no := goodIn_r _ [9, 10, 11, 12, 13, 14, 15, 16, 17, 18, 19, 20, 21, 22, 23, 24, 25, 26, 27, 28, 29, 30, 31, 32, 33, 34, 35, 36, 37, 38, 39, 40, 41, 42, 43, 44, 45] (by decide +kernel) (by decide +kernel)
set_option maxRecDepth 20000 in
theorem gX7_entries_X7_no : GoodIn wsX7_entries (wsV RX7 118 RX7 yX7_no wsX7_no) := goodIn_app (goodIn_of _ (by decide +kernel)) ggX7_entries_X7_no
theorem dX7_entries_0 : decode cX7_entries 0 = .ok (.aload_n 0, 1) := by decide +kernel
theorem dX7_entries_1 : decode cX7_entries 1 = .ok (.iload_n 1, 1) := by decide +kernel
theorem dX7_entries_2 : decode cX7_entries 2 = .ok (.invokestatic 108, 3) := by decide +kernel
theorem dX7_entries_5 : decode cX7_entries 5 = .ok (.iconst 1, 1) := by decide +kernel
theorem dX7_entries_6 : decode cX7_entries 6 = .ok (.invokevirtual 118, 3) := by decide +kernel
theorem dX7_entries_9 : decode cX7_entries 9 = .ok (.ifCond .eq 7, 3) := by decide +kernel
theorem dX7_entries_12 : decode cX7_entries 12 = .ok (.iconst 0, 1) := by decide +kernel
theorem dX7_entries_13 : decode cX7_entries 13 = .ok (.goto 9, 3) := by decide +kernel
theorem dX7_entries_16 : decode cX7_entries 16 = .ok (.aload_n 0, 1) := by decide +kernel
theorem dX7_entries_17 : decode cX7_entries 17 = .ok (.getfield 16, 3) := by decide +kernel
theorem dX7_entries_20 : decode cX7_entries 20 = .ok (.iload_n 1, 1) := by decide +kernel
theorem dX7_entries_21 : decode cX7_entries 21 = .ok (.iaload, 1) := by decide +kernel
theorem dX7_entries_22 : decode cX7_entries 22 = .ok (.ireturn, 1) := by decide +kernel
set_option maxRecDepth 20000 in
theorem ggX7_counting_X7_isCastle : GoodIn wsX7_counting wsX7_isCastle := goodIn_r _ [5] (by decide +kernel) (by decide +kernel)
set_option maxRecDepth 20000 in
theorem gX7_counting_X7_isCastle : GoodIn wsX7_counting (va_wsS RX7 108 yX7_isCastle wsX7_isCastle) := goodIn_app (goodIn_of _ (by decide +kernel)) ggX7_counting_X7_isCastle
set_option maxRecDepth 20000 in
theorem ggX7_counting_X7_no : GoodIn wsX7_counting wsX7_no := goodIn_r _ [9, 10, 30, 31, 32, 33, 34, 35, 36, 37, 38, 39, 40, 41, 42, 43, 44, 45, 46, 47, 48, 49, 50, 51, 52, 53, 54, 55, 56, 57, 58, 59, 60, 61, 62, 63, 64] (by decide +kernel) (by decide +kernel)
set_option maxRecDepth 20000 in
theorem gX7_counting_X7_no : GoodIn wsX7_counting (wsV RX7 118 RX7 yX7_no wsX7_no) := goodIn_app (goodIn_of _ (by decide +kernel)) ggX7_counting_X7_no
set_option maxRecDepth 20000 in
theorem ggX7_counting_X7_sums : GoodIn wsX7_counting wsX7_sums := goodIn_r _ [14, 15, 16, 17, 1, 18, 19, 20, 21, 22, 23, 24, 4, 25, 26, 27, 28, 29, 30, 31, 32, 33, 34, 35, 36, 37, 38, 39, 40, 41, 42, 43, 44, 45, 46, 47, 48, 49, 50, 51, 52, 53, 54, 55, 56, 57, 58, 59, 60, 61, 62, 63, 64] (by decide +kernel) (by decide +kernel)
set_option maxRecDepth 20000 in
theorem gX7_counting_X7_sums : GoodIn wsX7_counting (wsV RX7 178 RX7 yX7_sums wsX7_sums) := goodIn_app (goodIn_of _ (by decide +kernel)) ggX7_counting_X7_sums
theorem dX7_counting_0 : decode cX7_counting 0 = .ok (.aload_n 0, 1) := by decide +kernel
theorem dX7_counting_1 : decode cX7_counting 1 = .ok (.iload_n 1, 1) := by decide +kernel
theorem dX7_counting_2 : decode cX7_counting 2 = .ok (.invokestatic 108, 3) := by decide +kernel
theorem dX7_counting_5 : decode cX7_counting 5 = .ok (.iconst 1, 1) := by decide +kernel
theorem dX7_counting_6 : decode cX7_counting 6 = .ok (.invokevirtual 118, 3) := by decide +kernel
theorem dX7_counting_9 : decode cX7_counting 9 = .ok (.ifCond .eq 5, 3) := by decide +kernel
theorem dX7_counting_12 : decode cX7_counting 12 = .ok (.iconst 0, 1) := by decide +kernel
theorem dX7_counting_13 : decode cX7_counting 13 = .ok (.ireturn, 1) := by decide +kernel
theorem dX7_counting_14 : decode cX7_counting 14 = .ok (.aload_n 0, 1) := by decide +kernel
theorem dX7_counting_15 : decode cX7_counting 15 = .ok (.iload_n 1, 1) := by decide +kernel
theorem dX7_counting_16 : decode cX7_counting 16 = .ok (.invokevirtual 178, 3) := by decide +kernel
theorem dX7_counting_19 : decode cX7_counting 19 = .ok (.aload_n 0, 1) := by decide +kernel
theorem dX7_counting_20 : decode cX7_counting 20 = .ok (.getfield 171, 3) := by decide +kernel
theorem dX7_counting_23 : decode cX7_counting 23 = .ok (.ireturn, 1) := by decide +kernel
set_option maxRecDepth 20000 in
theorem ggX7_entryOf_X7_isEntry : GoodIn wsX7_entryOf wsX7_isEntry := goodIn_r _ [6, 7, 8, 9, 5, 10, 11, 12, 13, 19, 20, 21, 22, 23, 24, 25, 26, 27, 28, 29, 30, 31, 32, 33, 34, 35, 36, 37, 38, 39, 40, 41, 42, 43, 44, 45, 46, 47, 48, 49, 50, 51, 52, 53] (by decide +kernel) (by decide +kernel)
set_option maxRecDepth 20000 in
theorem gX7_entryOf_X7_isEntry : GoodIn wsX7_entryOf (wsV RX7 185 RX7 yX7_isEntry wsX7_isEntry) := goodIn_app (goodIn_of _ (by decide +kernel)) ggX7_entryOf_X7_isEntry
set_option maxRecDepth 20000 in
theorem ggX7_entryOf_X7_no : GoodIn wsX7_entryOf wsX7_no := goodIn_r _ [17, 18, 19, 20, 21, 22, 23, 24, 25, 26, 27, 28, 29, 30, 31, 32, 33, 34, 35, 36, 37, 38, 39, 40, 41, 42, 43, 44, 45, 46, 47, 48, 49, 50, 51, 52, 53] (by decide +kernel) (by decide +kernel)
set_option maxRecDepth 20000 in
theorem gX7_entryOf_X7_no : GoodIn wsX7_entryOf (wsV RX7 118 RX7 yX7_no wsX7_no) := goodIn_app (goodIn_of _ (by decide +kernel)) ggX7_entryOf_X7_no
theorem dX7_entryOf_0 : decode cX7_entryOf 0 = .ok (.aload_n 0, 1) := by decide +kernel
theorem dX7_entryOf_1 : decode cX7_entryOf 1 = .ok (.aload_n 0, 1) := by decide +kernel
theorem dX7_entryOf_2 : decode cX7_entryOf 2 = .ok (.iload_n 1, 1) := by decide +kernel
theorem dX7_entryOf_3 : decode cX7_entryOf 3 = .ok (.iload_n 2, 1) := by decide +kernel
theorem dX7_entryOf_4 : decode cX7_entryOf 4 = .ok (.invokevirtual 185, 3) := by decide +kernel
theorem dX7_entryOf_7 : decode cX7_entryOf 7 = .ok (.iconst 1, 1) := by decide +kernel
theorem dX7_entryOf_8 : decode cX7_entryOf 8 = .ok (.invokevirtual 118, 3) := by decide +kernel
theorem dX7_entryOf_11 : decode cX7_entryOf 11 = .ok (.ifCond .eq 8, 3) := by decide +kernel
theorem dX7_entryOf_14 : decode cX7_entryOf 14 = .ok (.bipush 63, 2) := by decide +kernel
theorem dX7_entryOf_16 : decode cX7_entryOf 16 = .ok (.goto 14, 3) := by decide +kernel
theorem dX7_entryOf_19 : decode cX7_entryOf 19 = .ok (.aload_n 0, 1) := by decide +kernel
theorem dX7_entryOf_20 : decode cX7_entryOf 20 = .ok (.getfield 41, 3) := by decide +kernel
theorem dX7_entryOf_23 : decode cX7_entryOf 23 = .ok (.iload_n 1, 1) := by decide +kernel
theorem dX7_entryOf_24 : decode cX7_entryOf 24 = .ok (.bipush 60, 2) := by decide +kernel
theorem dX7_entryOf_26 : decode cX7_entryOf 26 = .ok (.imul, 1) := by decide +kernel
theorem dX7_entryOf_27 : decode cX7_entryOf 27 = .ok (.iload_n 2, 1) := by decide +kernel
theorem dX7_entryOf_28 : decode cX7_entryOf 28 = .ok (.iadd, 1) := by decide +kernel
theorem dX7_entryOf_29 : decode cX7_entryOf 29 = .ok (.caload, 1) := by decide +kernel
theorem dX7_entryOf_30 : decode cX7_entryOf 30 = .ok (.ireturn, 1) := by decide +kernel
set_option maxRecDepth 20000 in
theorem ggX7_amountOf_X7_isEntry : GoodIn wsX7_amountOf wsX7_isEntry := goodIn_r _ [6, 7, 8, 9, 5, 10, 11, 12, 13, 19, 20, 21, 22, 23, 24, 25, 26, 27, 28, 29, 30, 31, 32, 33, 34, 35, 36, 37, 38, 39, 40, 41, 42, 43, 44, 45, 46, 47, 48, 49, 50, 51, 52, 53] (by decide +kernel) (by decide +kernel)
set_option maxRecDepth 20000 in
theorem gX7_amountOf_X7_isEntry : GoodIn wsX7_amountOf (wsV RX7 185 RX7 yX7_isEntry wsX7_isEntry) := goodIn_app (goodIn_of _ (by decide +kernel)) ggX7_amountOf_X7_isEntry
set_option maxRecDepth 20000 in
theorem ggX7_amountOf_X7_no : GoodIn wsX7_amountOf wsX7_no := goodIn_r _ [17, 18, 19, 20, 21, 22, 23, 24, 25, 26, 27, 28, 29, 30, 31, 32, 33, 34, 35, 36, 37, 38, 39, 40, 41, 42, 43, 44, 45, 46, 47, 48, 49, 50, 51, 52, 53] (by decide +kernel) (by decide +kernel)
set_option maxRecDepth 20000 in
theorem gX7_amountOf_X7_no : GoodIn wsX7_amountOf (wsV RX7 118 RX7 yX7_no wsX7_no) := goodIn_app (goodIn_of _ (by decide +kernel)) ggX7_amountOf_X7_no
theorem dX7_amountOf_0 : decode cX7_amountOf 0 = .ok (.aload_n 0, 1) := by decide +kernel
theorem dX7_amountOf_1 : decode cX7_amountOf 1 = .ok (.aload_n 0, 1) := by decide +kernel
theorem dX7_amountOf_2 : decode cX7_amountOf 2 = .ok (.iload_n 1, 1) := by decide +kernel
theorem dX7_amountOf_3 : decode cX7_amountOf 3 = .ok (.iload_n 2, 1) := by decide +kernel
theorem dX7_amountOf_4 : decode cX7_amountOf 4 = .ok (.invokevirtual 185, 3) := by decide +kernel
theorem dX7_amountOf_7 : decode cX7_amountOf 7 = .ok (.iconst 1, 1) := by decide +kernel
theorem dX7_amountOf_8 : decode cX7_amountOf 8 = .ok (.invokevirtual 118, 3) := by decide +kernel
theorem dX7_amountOf_11 : decode cX7_amountOf 11 = .ok (.ifCond .eq 7, 3) := by decide +kernel
theorem dX7_amountOf_14 : decode cX7_amountOf 14 = .ok (.iconst 0, 1) := by decide +kernel
theorem dX7_amountOf_15 : decode cX7_amountOf 15 = .ok (.goto 14, 3) := by decide +kernel
theorem dX7_amountOf_18 : decode cX7_amountOf 18 = .ok (.aload_n 0, 1) := by decide +kernel
theorem dX7_amountOf_19 : decode cX7_amountOf 19 = .ok (.getfield 45, 3) := by decide +kernel
theorem dX7_amountOf_22 : decode cX7_amountOf 22 = .ok (.iload_n 1, 1) := by decide +kernel
theorem dX7_amountOf_23 : decode cX7_amountOf 23 = .ok (.bipush 60, 2) := by decide +kernel
theorem dX7_amountOf_25 : decode cX7_amountOf 25 = .ok (.imul, 1) := by decide +kernel
theorem dX7_amountOf_26 : decode cX7_amountOf 26 = .ok (.iload_n 2, 1) := by decide +kernel
theorem dX7_amountOf_27 : decode cX7_amountOf 27 = .ok (.iadd, 1) := by decide +kernel
theorem dX7_amountOf_28 : decode cX7_amountOf 28 = .ok (.iaload, 1) := by decide +kernel
theorem dX7_amountOf_29 : decode cX7_amountOf 29 = .ok (.ireturn, 1) := by decide +kernel
set_option maxRecDepth 20000 in
theorem ggX7_isCommitted_X7_isEntry : GoodIn wsX7_isCommitted wsX7_isEntry := goodIn_r _ [6, 7, 8, 9, 5, 10, 11, 12, 13, 19, 20, 21, 22, 23, 24, 25, 26, 27, 28, 29, 30, 31, 32, 33, 34, 35, 36, 37, 38, 39, 40, 41, 42, 43, 44, 45, 46, 47, 48, 49, 50, 51, 52, 53] (by decide +kernel) (by decide +kernel)
set_option maxRecDepth 20000 in
theorem gX7_isCommitted_X7_isEntry : GoodIn wsX7_isCommitted (wsV RX7 185 RX7 yX7_isEntry wsX7_isEntry) := goodIn_app (goodIn_of _ (by decide +kernel)) ggX7_isCommitted_X7_isEntry
set_option maxRecDepth 20000 in
theorem ggX7_isCommitted_X7_no : GoodIn wsX7_isCommitted wsX7_no := goodIn_r _ [17, 18, 19, 20, 21, 22, 23, 24, 25, 26, 27, 28, 29, 30, 31, 32, 33, 34, 35, 36, 37, 38, 39, 40, 41, 42, 43, 44, 45, 46, 47, 48, 49, 50, 51, 52, 53] (by decide +kernel) (by decide +kernel)
set_option maxRecDepth 20000 in
theorem gX7_isCommitted_X7_no : GoodIn wsX7_isCommitted (wsV RX7 118 RX7 yX7_no wsX7_no) := goodIn_app (goodIn_of _ (by decide +kernel)) ggX7_isCommitted_X7_no
theorem dX7_isCommitted_0 : decode cX7_isCommitted 0 = .ok (.aload_n 0, 1) := by decide +kernel
theorem dX7_isCommitted_1 : decode cX7_isCommitted 1 = .ok (.aload_n 0, 1) := by decide +kernel
theorem dX7_isCommitted_2 : decode cX7_isCommitted 2 = .ok (.iload_n 1, 1) := by decide +kernel
theorem dX7_isCommitted_3 : decode cX7_isCommitted 3 = .ok (.iload_n 2, 1) := by decide +kernel
theorem dX7_isCommitted_4 : decode cX7_isCommitted 4 = .ok (.invokevirtual 185, 3) := by decide +kernel
theorem dX7_isCommitted_7 : decode cX7_isCommitted 7 = .ok (.iconst 1, 1) := by decide +kernel
theorem dX7_isCommitted_8 : decode cX7_isCommitted 8 = .ok (.invokevirtual 118, 3) := by decide +kernel
theorem dX7_isCommitted_11 : decode cX7_isCommitted 11 = .ok (.ifCond .ne 21, 3) := by decide +kernel
theorem dX7_isCommitted_14 : decode cX7_isCommitted 14 = .ok (.aload_n 0, 1) := by decide +kernel
theorem dX7_isCommitted_15 : decode cX7_isCommitted 15 = .ok (.getfield 57, 3) := by decide +kernel
theorem dX7_isCommitted_18 : decode cX7_isCommitted 18 = .ok (.iload_n 1, 1) := by decide +kernel
theorem dX7_isCommitted_19 : decode cX7_isCommitted 19 = .ok (.bipush 60, 2) := by decide +kernel
theorem dX7_isCommitted_21 : decode cX7_isCommitted 21 = .ok (.imul, 1) := by decide +kernel
theorem dX7_isCommitted_22 : decode cX7_isCommitted 22 = .ok (.iload_n 2, 1) := by decide +kernel
theorem dX7_isCommitted_23 : decode cX7_isCommitted 23 = .ok (.iadd, 1) := by decide +kernel
theorem dX7_isCommitted_24 : decode cX7_isCommitted 24 = .ok (.baload, 1) := by decide +kernel
theorem dX7_isCommitted_25 : decode cX7_isCommitted 25 = .ok (.ifCond .eq 7, 3) := by decide +kernel
theorem dX7_isCommitted_28 : decode cX7_isCommitted 28 = .ok (.iconst 1, 1) := by decide +kernel
theorem dX7_isCommitted_29 : decode cX7_isCommitted 29 = .ok (.goto 4, 3) := by decide +kernel
theorem dX7_isCommitted_32 : decode cX7_isCommitted 32 = .ok (.iconst 0, 1) := by decide +kernel
theorem dX7_isCommitted_33 : decode cX7_isCommitted 33 = .ok (.ireturn, 1) := by decide +kernel
set_option maxRecDepth 20000 in
theorem ggX7_has_X7_isTower : GoodIn wsX7_has wsX7_isTower := goodIn_r _ [6, 7, 8, 9, 5, 10, 11, 12, 13, 24, 25, 26, 27, 28, 29, 30, 31, 32, 33, 34, 35, 36, 37, 38, 39, 40, 41, 42, 43, 44, 45, 46, 47, 48, 49, 50, 51, 52, 53, 54, 55, 56, 57, 58] (by decide +kernel) (by decide +kernel)
set_option maxRecDepth 20000 in
theorem gX7_has_X7_isTower : GoodIn wsX7_has (wsV RX7 129 RX7 yX7_isTower wsX7_isTower) := goodIn_app (goodIn_of _ (by decide +kernel)) ggX7_has_X7_isTower
set_option maxRecDepth 20000 in
theorem ggX7_has_X7_isEntry : GoodIn wsX7_has wsX7_isEntry := goodIn_r _ [17, 18, 8, 9, 5, 10, 11, 12, 13, 24, 25, 26, 27, 28, 29, 30, 31, 32, 33, 34, 35, 36, 37, 38, 39, 40, 41, 42, 43, 44, 45, 46, 47, 48, 49, 50, 51, 52, 53, 54, 55, 56, 57, 58] (by decide +kernel) (by decide +kernel)
set_option maxRecDepth 20000 in
theorem gX7_has_X7_isEntry : GoodIn wsX7_has (wsV RX7 185 RX7 yX7_isEntry wsX7_isEntry) := goodIn_app (goodIn_of _ (by decide +kernel)) ggX7_has_X7_isEntry
set_option maxRecDepth 20000 in
theorem ggX7_has_X7_no : GoodIn wsX7_has wsX7_no := goodIn_r _ [22, 23, 24, 25, 26, 27, 28, 29, 30, 31, 32, 33, 34, 35, 36, 37, 38, 39, 40, 41, 42, 43, 44, 45, 46, 47, 48, 49, 50, 51, 52, 53, 54, 55, 56, 57, 58] (by decide +kernel) (by decide +kernel)
set_option maxRecDepth 20000 in
theorem gX7_has_X7_no : GoodIn wsX7_has (wsV RX7 118 RX7 yX7_no wsX7_no) := goodIn_app (goodIn_of _ (by decide +kernel)) ggX7_has_X7_no
theorem dX7_has_0 : decode cX7_has 0 = .ok (.aload_n 0, 1) := by decide +kernel
theorem dX7_has_1 : decode cX7_has 1 = .ok (.aload_n 0, 1) := by decide +kernel
theorem dX7_has_2 : decode cX7_has 2 = .ok (.iload_n 1, 1) := by decide +kernel
theorem dX7_has_3 : decode cX7_has 3 = .ok (.iload_n 2, 1) := by decide +kernel
theorem dX7_has_4 : decode cX7_has 4 = .ok (.invokevirtual 129, 3) := by decide +kernel
theorem dX7_has_7 : decode cX7_has 7 = .ok (.ifCond .eq 16, 3) := by decide +kernel
theorem dX7_has_10 : decode cX7_has 10 = .ok (.aload_n 0, 1) := by decide +kernel
theorem dX7_has_11 : decode cX7_has 11 = .ok (.iload_n 1, 1) := by decide +kernel
theorem dX7_has_12 : decode cX7_has 12 = .ok (.iload_n 3, 1) := by decide +kernel
theorem dX7_has_13 : decode cX7_has 13 = .ok (.invokevirtual 185, 3) := by decide +kernel
theorem dX7_has_16 : decode cX7_has 16 = .ok (.ifCond .eq 7, 3) := by decide +kernel
theorem dX7_has_19 : decode cX7_has 19 = .ok (.iconst 1, 1) := by decide +kernel
theorem dX7_has_20 : decode cX7_has 20 = .ok (.goto 4, 3) := by decide +kernel
theorem dX7_has_23 : decode cX7_has 23 = .ok (.iconst 0, 1) := by decide +kernel
theorem dX7_has_24 : decode cX7_has 24 = .ok (.iconst 1, 1) := by decide +kernel
theorem dX7_has_25 : decode cX7_has 25 = .ok (.invokevirtual 118, 3) := by decide +kernel
theorem dX7_has_28 : decode cX7_has 28 = .ok (.ifCond .ne 26, 3) := by decide +kernel
theorem dX7_has_31 : decode cX7_has 31 = .ok (.aload_n 0, 1) := by decide +kernel
theorem dX7_has_32 : decode cX7_has 32 = .ok (.getfield 54, 3) := by decide +kernel
theorem dX7_has_35 : decode cX7_has 35 = .ok (.iload_n 1, 1) := by decide +kernel
theorem dX7_has_36 : decode cX7_has 36 = .ok (.bipush 60, 2) := by decide +kernel
theorem dX7_has_38 : decode cX7_has 38 = .ok (.imul, 1) := by decide +kernel
theorem dX7_has_39 : decode cX7_has 39 = .ok (.iload_n 3, 1) := by decide +kernel
theorem dX7_has_40 : decode cX7_has 40 = .ok (.iadd, 1) := by decide +kernel
theorem dX7_has_41 : decode cX7_has 41 = .ok (.iaload, 1) := by decide +kernel
theorem dX7_has_42 : decode cX7_has 42 = .ok (.iload_n 2, 1) := by decide +kernel
theorem dX7_has_43 : decode cX7_has 43 = .ok (.ishr, 1) := by decide +kernel
theorem dX7_has_44 : decode cX7_has 44 = .ok (.iconst 1, 1) := by decide +kernel
theorem dX7_has_45 : decode cX7_has 45 = .ok (.iand, 1) := by decide +kernel
theorem dX7_has_46 : decode cX7_has 46 = .ok (.iconst 1, 1) := by decide +kernel
theorem dX7_has_47 : decode cX7_has 47 = .ok (.if_icmp .ne 7, 3) := by decide +kernel
theorem dX7_has_50 : decode cX7_has 50 = .ok (.iconst 1, 1) := by decide +kernel
theorem dX7_has_51 : decode cX7_has 51 = .ok (.goto 4, 3) := by decide +kernel
theorem dX7_has_54 : decode cX7_has 54 = .ok (.iconst 0, 1) := by decide +kernel
theorem dX7_has_55 : decode cX7_has 55 = .ok (.ireturn, 1) := by decide +kernel
set_option maxRecDepth 20000 in
theorem ggX7_gold_X7_isCastle : GoodIn wsX7_gold wsX7_isCastle := goodIn_r _ [6] (by decide +kernel) (by decide +kernel)
set_option maxRecDepth 20000 in
theorem gX7_gold_X7_isCastle : GoodIn wsX7_gold (va_wsS RX7 108 yX7_isCastle wsX7_isCastle) := goodIn_app (goodIn_of _ (by decide +kernel)) ggX7_gold_X7_isCastle
set_option maxRecDepth 20000 in
theorem ggX7_gold_X7_no : GoodIn wsX7_gold wsX7_no := goodIn_r _ [10, 11, 30, 31, 32, 33, 34, 35, 36, 37, 38, 39, 40, 41, 42, 43, 44, 45, 46, 47, 48, 49, 50, 51, 52, 53, 54, 55, 56, 57, 58, 59, 60, 61, 62, 63, 64] (by decide +kernel) (by decide +kernel)
set_option maxRecDepth 20000 in
theorem gX7_gold_X7_no : GoodIn wsX7_gold (wsV RX7 118 RX7 yX7_no wsX7_no) := goodIn_app (goodIn_of _ (by decide +kernel)) ggX7_gold_X7_no
set_option maxRecDepth 20000 in
theorem ggX7_gold_X7_sums : GoodIn wsX7_gold wsX7_sums := goodIn_r _ [15, 16, 2, 1, 17, 18, 19, 20, 21, 22, 23, 24, 5, 25, 26, 27, 28, 29, 30, 31, 32, 33, 34, 35, 36, 37, 38, 39, 40, 41, 42, 43, 44, 45, 46, 47, 48, 49, 50, 51, 52, 53, 54, 55, 56, 57, 58, 59, 60, 61, 62, 63, 64] (by decide +kernel) (by decide +kernel)
set_option maxRecDepth 20000 in
theorem gX7_gold_X7_sums : GoodIn wsX7_gold (wsV RX7 178 RX7 yX7_sums wsX7_sums) := goodIn_app (goodIn_of _ (by decide +kernel)) ggX7_gold_X7_sums
theorem dX7_gold_0 : decode cX7_gold 0 = .ok (.aload_n 0, 1) := by decide +kernel
theorem dX7_gold_1 : decode cX7_gold 1 = .ok (.iload_n 1, 1) := by decide +kernel
theorem dX7_gold_2 : decode cX7_gold 2 = .ok (.invokestatic 108, 3) := by decide +kernel
theorem dX7_gold_5 : decode cX7_gold 5 = .ok (.iconst 1, 1) := by decide +kernel
theorem dX7_gold_6 : decode cX7_gold 6 = .ok (.invokevirtual 118, 3) := by decide +kernel
theorem dX7_gold_9 : decode cX7_gold 9 = .ok (.ifCond .eq 5, 3) := by decide +kernel
theorem dX7_gold_12 : decode cX7_gold 12 = .ok (.iconst 0, 1) := by decide +kernel
theorem dX7_gold_13 : decode cX7_gold 13 = .ok (.ireturn, 1) := by decide +kernel
theorem dX7_gold_14 : decode cX7_gold 14 = .ok (.aload_n 0, 1) := by decide +kernel
theorem dX7_gold_15 : decode cX7_gold 15 = .ok (.iload_n 1, 1) := by decide +kernel
theorem dX7_gold_16 : decode cX7_gold 16 = .ok (.invokevirtual 178, 3) := by decide +kernel
theorem dX7_gold_19 : decode cX7_gold 19 = .ok (.iload_n 2, 1) := by decide +kernel
theorem dX7_gold_20 : decode cX7_gold 20 = .ok (.ifCond .eq 10, 3) := by decide +kernel
theorem dX7_gold_23 : decode cX7_gold 23 = .ok (.aload_n 0, 1) := by decide +kernel
theorem dX7_gold_24 : decode cX7_gold 24 = .ok (.getfield 168, 3) := by decide +kernel
theorem dX7_gold_27 : decode cX7_gold 27 = .ok (.goto 7, 3) := by decide +kernel
theorem dX7_gold_30 : decode cX7_gold 30 = .ok (.aload_n 0, 1) := by decide +kernel
theorem dX7_gold_31 : decode cX7_gold 31 = .ok (.getfield 165, 3) := by decide +kernel
theorem dX7_gold_34 : decode cX7_gold 34 = .ok (.ireturn, 1) := by decide +kernel
set_option maxRecDepth 20000 in
theorem ggX7_purse_X7_isCastle : GoodIn wsX7_purse wsX7_isCastle := goodIn_r _ [5] (by decide +kernel) (by decide +kernel)
set_option maxRecDepth 20000 in
theorem gX7_purse_X7_isCastle : GoodIn wsX7_purse (va_wsS RX7 108 yX7_isCastle wsX7_isCastle) := goodIn_app (goodIn_of _ (by decide +kernel)) ggX7_purse_X7_isCastle
set_option maxRecDepth 20000 in
theorem ggX7_purse_X7_isLord : GoodIn wsX7_purse wsX7_isLord := goodIn_r _ [8, 9, 10, 4, 11] (by decide +kernel) (by decide +kernel)
set_option maxRecDepth 20000 in
theorem gX7_purse_X7_isLord : GoodIn wsX7_purse (va_wsS RX7 136 yX7_isLord wsX7_isLord) := goodIn_app (goodIn_of _ (by decide +kernel)) ggX7_purse_X7_isLord
set_option maxRecDepth 20000 in
theorem ggX7_purse_X7_no : GoodIn wsX7_purse wsX7_no := goodIn_r _ [15, 16, 36, 37, 38, 39, 40, 41, 42, 43, 44, 45, 46, 47, 48, 49, 50, 51, 52, 53, 54, 55, 56, 57, 58, 59, 60, 61, 62, 63, 64, 65, 66, 67, 68, 69, 70] (by decide +kernel) (by decide +kernel)
set_option maxRecDepth 20000 in
theorem gX7_purse_X7_no : GoodIn wsX7_purse (wsV RX7 118 RX7 yX7_no wsX7_no) := goodIn_app (goodIn_of _ (by decide +kernel)) ggX7_purse_X7_no
set_option maxRecDepth 20000 in
theorem ggX7_purse_X7_sums : GoodIn wsX7_purse wsX7_sums := goodIn_r _ [20, 21, 22, 23, 24, 1, 25, 26, 27, 28, 29, 30, 4, 31, 32, 33, 34, 35, 36, 37, 38, 39, 40, 41, 42, 43, 44, 45, 46, 47, 48, 49, 50, 51, 52, 53, 54, 55, 56, 57, 58, 59, 60, 61, 62, 63, 64, 65, 66, 67, 68, 69, 70] (by decide +kernel) (by decide +kernel)
set_option maxRecDepth 20000 in
theorem gX7_purse_X7_sums : GoodIn wsX7_purse (wsV RX7 178 RX7 yX7_sums wsX7_sums) := goodIn_app (goodIn_of _ (by decide +kernel)) ggX7_purse_X7_sums
theorem dX7_purse_0 : decode cX7_purse 0 = .ok (.aload_n 0, 1) := by decide +kernel
theorem dX7_purse_1 : decode cX7_purse 1 = .ok (.iload_n 2, 1) := by decide +kernel
theorem dX7_purse_2 : decode cX7_purse 2 = .ok (.invokestatic 108, 3) := by decide +kernel
theorem dX7_purse_5 : decode cX7_purse 5 = .ok (.ifCond .eq 14, 3) := by decide +kernel
theorem dX7_purse_8 : decode cX7_purse 8 = .ok (.iload_n 1, 1) := by decide +kernel
theorem dX7_purse_9 : decode cX7_purse 9 = .ok (.invokestatic 136, 3) := by decide +kernel
theorem dX7_purse_12 : decode cX7_purse 12 = .ok (.ifCond .eq 7, 3) := by decide +kernel
theorem dX7_purse_15 : decode cX7_purse 15 = .ok (.iconst 1, 1) := by decide +kernel
theorem dX7_purse_16 : decode cX7_purse 16 = .ok (.goto 4, 3) := by decide +kernel
theorem dX7_purse_19 : decode cX7_purse 19 = .ok (.iconst 0, 1) := by decide +kernel
theorem dX7_purse_20 : decode cX7_purse 20 = .ok (.iconst 1, 1) := by decide +kernel
theorem dX7_purse_21 : decode cX7_purse 21 = .ok (.invokevirtual 118, 3) := by decide +kernel
theorem dX7_purse_24 : decode cX7_purse 24 = .ok (.ifCond .eq 5, 3) := by decide +kernel
theorem dX7_purse_27 : decode cX7_purse 27 = .ok (.iconst 0, 1) := by decide +kernel
theorem dX7_purse_28 : decode cX7_purse 28 = .ok (.ireturn, 1) := by decide +kernel
theorem dX7_purse_29 : decode cX7_purse 29 = .ok (.aload_n 0, 1) := by decide +kernel
theorem dX7_purse_30 : decode cX7_purse 30 = .ok (.iload_n 2, 1) := by decide +kernel
theorem dX7_purse_31 : decode cX7_purse 31 = .ok (.invokevirtual 178, 3) := by decide +kernel
theorem dX7_purse_34 : decode cX7_purse 34 = .ok (.aload_n 0, 1) := by decide +kernel
theorem dX7_purse_35 : decode cX7_purse 35 = .ok (.getfield 93, 3) := by decide +kernel
theorem dX7_purse_38 : decode cX7_purse 38 = .ok (.iload_n 1, 1) := by decide +kernel
theorem dX7_purse_39 : decode cX7_purse 39 = .ok (.iaload, 1) := by decide +kernel
theorem dX7_purse_40 : decode cX7_purse 40 = .ok (.ireturn, 1) := by decide +kernel
set_option maxRecDepth 20000 in
theorem ggX7_scout_X7_isCastle : GoodIn wsX7_scout wsX7_isCastle := goodIn_r _ [15] (by decide +kernel) (by decide +kernel)
set_option maxRecDepth 20000 in
theorem gX7_scout_X7_isCastle : GoodIn wsX7_scout (va_wsS RX7 108 yX7_isCastle wsX7_isCastle) := goodIn_app (goodIn_of _ (by decide +kernel)) ggX7_scout_X7_isCastle
set_option maxRecDepth 20000 in
theorem ggX7_scout_X7_isLord : GoodIn wsX7_scout wsX7_isLord := goodIn_r _ [18, 19, 20, 14, 21] (by decide +kernel) (by decide +kernel)
set_option maxRecDepth 20000 in
theorem gX7_scout_X7_isLord : GoodIn wsX7_scout (va_wsS RX7 136 yX7_isLord wsX7_isLord) := goodIn_app (goodIn_of _ (by decide +kernel)) ggX7_scout_X7_isLord
set_option maxRecDepth 20000 in
theorem ggX7_scout_X7_no : GoodIn wsX7_scout wsX7_no := goodIn_r _ [25, 26, 58, 59, 60, 61, 62, 63, 64, 65, 66, 67, 68, 69, 70, 71, 72, 73, 74, 75, 76, 77, 78, 79, 80, 81, 82, 83, 84, 85, 86, 87, 88, 89, 90, 91, 92] (by decide +kernel) (by decide +kernel)
set_option maxRecDepth 20000 in
theorem gX7_scout_X7_no : GoodIn wsX7_scout (wsV RX7 118 RX7 yX7_no wsX7_no) := goodIn_app (goodIn_of _ (by decide +kernel)) ggX7_scout_X7_no
set_option maxRecDepth 20000 in
theorem ggX7_scout_X7_reach : GoodIn wsX7_scout wsX7_reach := goodIn_r _ [30, 31, 32, 33, 58, 59, 60, 61, 62, 63, 64, 65, 66, 67, 68, 69, 70, 71, 72, 73, 74, 75, 76, 77, 78, 79, 80, 81, 82, 83, 84, 85, 86, 87, 88, 89, 90, 91, 92] (by decide +kernel) (by decide +kernel)
set_option maxRecDepth 20000 in
theorem gX7_scout_X7_reach : GoodIn wsX7_scout (wsV RX7 145 RX7 yX7_reach wsX7_reach) := goodIn_app (goodIn_of _ (by decide +kernel)) ggX7_scout_X7_reach
set_option maxRecDepth 20000 in
theorem ggX7_scout_X7_quorum : GoodIn wsX7_scout wsX7_quorum := goodIn_r _ [37, 31, 38, 39, 14, 40, 58, 59, 60, 61, 62, 63, 64, 65, 66, 67, 68, 69, 70, 71, 72, 73, 74, 75, 76, 77, 78, 79, 80, 81, 82, 83, 84, 85, 86, 87, 88, 89, 90, 91, 92] (by decide +kernel) (by decide +kernel)
set_option maxRecDepth 20000 in
theorem gX7_scout_X7_quorum : GoodIn wsX7_scout (wsV RX7 155 RX7 yX7_quorum wsX7_quorum) := goodIn_app (goodIn_of _ (by decide +kernel)) ggX7_scout_X7_quorum
set_option maxRecDepth 20000 in
theorem ggX7_scout_X7_sums : GoodIn wsX7_scout wsX7_sums := goodIn_r _ [44, 45, 9, 10, 7, 46, 47, 48, 49, 50, 51, 52, 14, 53, 54, 55, 56, 57, 58, 59, 60, 61, 62, 63, 64, 65, 66, 67, 68, 69, 70, 71, 72, 73, 74, 75, 76, 77, 78, 79, 80, 81, 82, 83, 84, 85, 86, 87, 88, 89, 90, 91, 92] (by decide +kernel) (by decide +kernel)
set_option maxRecDepth 20000 in
theorem gX7_scout_X7_sums : GoodIn wsX7_scout (wsV RX7 178 RX7 yX7_sums wsX7_sums) := goodIn_app (goodIn_of _ (by decide +kernel)) ggX7_scout_X7_sums
theorem dX7_scout_0 : decode cX7_scout 0 = .ok (.aload_n 0, 1) := by decide +kernel
theorem dX7_scout_1 : decode cX7_scout 1 = .ok (.iload_n 2, 1) := by decide +kernel
theorem dX7_scout_2 : decode cX7_scout 2 = .ok (.invokestatic 108, 3) := by decide +kernel
theorem dX7_scout_5 : decode cX7_scout 5 = .ok (.ifCond .eq 14, 3) := by decide +kernel
theorem dX7_scout_8 : decode cX7_scout 8 = .ok (.iload_n 1, 1) := by decide +kernel
theorem dX7_scout_9 : decode cX7_scout 9 = .ok (.invokestatic 136, 3) := by decide +kernel
theorem dX7_scout_12 : decode cX7_scout 12 = .ok (.ifCond .eq 7, 3) := by decide +kernel
theorem dX7_scout_15 : decode cX7_scout 15 = .ok (.iconst 1, 1) := by decide +kernel
theorem dX7_scout_16 : decode cX7_scout 16 = .ok (.goto 4, 3) := by decide +kernel
theorem dX7_scout_19 : decode cX7_scout 19 = .ok (.iconst 0, 1) := by decide +kernel
theorem dX7_scout_20 : decode cX7_scout 20 = .ok (.iconst 1, 1) := by decide +kernel
theorem dX7_scout_21 : decode cX7_scout 21 = .ok (.invokevirtual 118, 3) := by decide +kernel
theorem dX7_scout_24 : decode cX7_scout 24 = .ok (.ifCond .ne 44, 3) := by decide +kernel
theorem dX7_scout_27 : decode cX7_scout 27 = .ok (.aload_n 0, 1) := by decide +kernel
theorem dX7_scout_28 : decode cX7_scout 28 = .ok (.aload_n 0, 1) := by decide +kernel
theorem dX7_scout_29 : decode cX7_scout 29 = .ok (.iload_n 2, 1) := by decide +kernel
theorem dX7_scout_30 : decode cX7_scout 30 = .ok (.aload_n 0, 1) := by decide +kernel
theorem dX7_scout_31 : decode cX7_scout 31 = .ok (.iload_n 2, 1) := by decide +kernel
theorem dX7_scout_32 : decode cX7_scout 32 = .ok (.iload_n 1, 1) := by decide +kernel
theorem dX7_scout_33 : decode cX7_scout 33 = .ok (.invokevirtual 145, 3) := by decide +kernel
theorem dX7_scout_36 : decode cX7_scout 36 = .ok (.invokevirtual 155, 3) := by decide +kernel
theorem dX7_scout_39 : decode cX7_scout 39 = .ok (.iconst 2, 1) := by decide +kernel
theorem dX7_scout_40 : decode cX7_scout 40 = .ok (.invokevirtual 118, 3) := by decide +kernel
theorem dX7_scout_43 : decode cX7_scout 43 = .ok (.ifCond .ne 25, 3) := by decide +kernel
theorem dX7_scout_46 : decode cX7_scout 46 = .ok (.aload_n 0, 1) := by decide +kernel
theorem dX7_scout_47 : decode cX7_scout 47 = .ok (.aload_n 0, 1) := by decide +kernel
theorem dX7_scout_48 : decode cX7_scout 48 = .ok (.getfield 112, 3) := by decide +kernel
theorem dX7_scout_51 : decode cX7_scout 51 = .ok (.bipush 20, 2) := by decide +kernel
theorem dX7_scout_53 : decode cX7_scout 53 = .ok (.if_icmp .ge 7, 3) := by decide +kernel
theorem dX7_scout_56 : decode cX7_scout 56 = .ok (.iconst 1, 1) := by decide +kernel
theorem dX7_scout_57 : decode cX7_scout 57 = .ok (.goto 4, 3) := by decide +kernel
theorem dX7_scout_60 : decode cX7_scout 60 = .ok (.iconst 0, 1) := by decide +kernel
theorem dX7_scout_61 : decode cX7_scout 61 = .ok (.iconst 3, 1) := by decide +kernel
theorem dX7_scout_62 : decode cX7_scout 62 = .ok (.invokevirtual 118, 3) := by decide +kernel
theorem dX7_scout_65 : decode cX7_scout 65 = .ok (.ifCond .eq 5, 3) := by decide +kernel
theorem dX7_scout_68 : decode cX7_scout 68 = .ok (.iconst 0, 1) := by decide +kernel
theorem dX7_scout_69 : decode cX7_scout 69 = .ok (.ireturn, 1) := by decide +kernel
theorem dX7_scout_70 : decode cX7_scout 70 = .ok (.aload_n 0, 1) := by decide +kernel
theorem dX7_scout_71 : decode cX7_scout 71 = .ok (.iload_n 2, 1) := by decide +kernel
theorem dX7_scout_72 : decode cX7_scout 72 = .ok (.invokevirtual 178, 3) := by decide +kernel
theorem dX7_scout_75 : decode cX7_scout 75 = .ok (.aload_n 0, 1) := by decide +kernel
theorem dX7_scout_76 : decode cX7_scout 76 = .ok (.getfield 60, 3) := by decide +kernel
theorem dX7_scout_79 : decode cX7_scout 79 = .ok (.aload_n 0, 1) := by decide +kernel
theorem dX7_scout_80 : decode cX7_scout 80 = .ok (.getfield 112, 3) := by decide +kernel
theorem dX7_scout_83 : decode cX7_scout 83 = .ok (.iload_n 1, 1) := by decide +kernel
theorem dX7_scout_84 : decode cX7_scout 84 = .ok (.iastore, 1) := by decide +kernel
theorem dX7_scout_85 : decode cX7_scout 85 = .ok (.aload_n 0, 1) := by decide +kernel
theorem dX7_scout_86 : decode cX7_scout 86 = .ok (.getfield 63, 3) := by decide +kernel
theorem dX7_scout_89 : decode cX7_scout 89 = .ok (.aload_n 0, 1) := by decide +kernel
theorem dX7_scout_90 : decode cX7_scout 90 = .ok (.getfield 112, 3) := by decide +kernel
theorem dX7_scout_93 : decode cX7_scout 93 = .ok (.iload_n 2, 1) := by decide +kernel
theorem dX7_scout_94 : decode cX7_scout 94 = .ok (.iastore, 1) := by decide +kernel
theorem dX7_scout_95 : decode cX7_scout 95 = .ok (.aload_n 0, 1) := by decide +kernel
theorem dX7_scout_96 : decode cX7_scout 96 = .ok (.getfield 66, 3) := by decide +kernel
theorem dX7_scout_99 : decode cX7_scout 99 = .ok (.aload_n 0, 1) := by decide +kernel
theorem dX7_scout_100 : decode cX7_scout 100 = .ok (.getfield 112, 3) := by decide +kernel
theorem dX7_scout_103 : decode cX7_scout 103 = .ok (.aload_n 0, 1) := by decide +kernel
theorem dX7_scout_104 : decode cX7_scout 104 = .ok (.getfield 126, 3) := by decide +kernel
theorem dX7_scout_107 : decode cX7_scout 107 = .ok (.iastore, 1) := by decide +kernel
theorem dX7_scout_108 : decode cX7_scout 108 = .ok (.aload_n 0, 1) := by decide +kernel
theorem dX7_scout_109 : decode cX7_scout 109 = .ok (.getfield 69, 3) := by decide +kernel
theorem dX7_scout_112 : decode cX7_scout 112 = .ok (.aload_n 0, 1) := by decide +kernel
theorem dX7_scout_113 : decode cX7_scout 113 = .ok (.getfield 112, 3) := by decide +kernel
theorem dX7_scout_116 : decode cX7_scout 116 = .ok (.aload_n 0, 1) := by decide +kernel
theorem dX7_scout_117 : decode cX7_scout 117 = .ok (.getfield 171, 3) := by decide +kernel
theorem dX7_scout_120 : decode cX7_scout 120 = .ok (.iastore, 1) := by decide +kernel
theorem dX7_scout_121 : decode cX7_scout 121 = .ok (.aload_n 0, 1) := by decide +kernel
theorem dX7_scout_122 : decode cX7_scout 122 = .ok (.getfield 72, 3) := by decide +kernel
theorem dX7_scout_125 : decode cX7_scout 125 = .ok (.aload_n 0, 1) := by decide +kernel
theorem dX7_scout_126 : decode cX7_scout 126 = .ok (.getfield 112, 3) := by decide +kernel
theorem dX7_scout_129 : decode cX7_scout 129 = .ok (.aload_n 0, 1) := by decide +kernel
theorem dX7_scout_130 : decode cX7_scout 130 = .ok (.getfield 165, 3) := by decide +kernel
theorem dX7_scout_133 : decode cX7_scout 133 = .ok (.aload_n 0, 1) := by decide +kernel
theorem dX7_scout_134 : decode cX7_scout 134 = .ok (.getfield 168, 3) := by decide +kernel
theorem dX7_scout_137 : decode cX7_scout 137 = .ok (.isub, 1) := by decide +kernel
theorem dX7_scout_138 : decode cX7_scout 138 = .ok (.iastore, 1) := by decide +kernel
theorem dX7_scout_139 : decode cX7_scout 139 = .ok (.aload_n 0, 1) := by decide +kernel
theorem dX7_scout_140 : decode cX7_scout 140 = .ok (.getfield 75, 3) := by decide +kernel
theorem dX7_scout_143 : decode cX7_scout 143 = .ok (.aload_n 0, 1) := by decide +kernel
theorem dX7_scout_144 : decode cX7_scout 144 = .ok (.getfield 112, 3) := by decide +kernel
theorem dX7_scout_147 : decode cX7_scout 147 = .ok (.iconst 0, 1) := by decide +kernel
theorem dX7_scout_148 : decode cX7_scout 148 = .ok (.bastore, 1) := by decide +kernel
theorem dX7_scout_149 : decode cX7_scout 149 = .ok (.aload_n 0, 1) := by decide +kernel
theorem dX7_scout_150 : decode cX7_scout 150 = .ok (.dup, 1) := by decide +kernel
theorem dX7_scout_151 : decode cX7_scout 151 = .ok (.getfield 112, 3) := by decide +kernel
theorem dX7_scout_154 : decode cX7_scout 154 = .ok (.iconst 1, 1) := by decide +kernel
theorem dX7_scout_155 : decode cX7_scout 155 = .ok (.iadd, 1) := by decide +kernel
theorem dX7_scout_156 : decode cX7_scout 156 = .ok (.putfield 112, 3) := by decide +kernel
theorem dX7_scout_159 : decode cX7_scout 159 = .ok (.aload_n 0, 1) := by decide +kernel
theorem dX7_scout_160 : decode cX7_scout 160 = .ok (.getfield 112, 3) := by decide +kernel
theorem dX7_scout_163 : decode cX7_scout 163 = .ok (.iconst 1, 1) := by decide +kernel
theorem dX7_scout_164 : decode cX7_scout 164 = .ok (.isub, 1) := by decide +kernel
theorem dX7_scout_165 : decode cX7_scout 165 = .ok (.ireturn, 1) := by decide +kernel
theorem dX7_isOld_0 : decode cX7_isOld 0 = .ok (.aload_n 0, 1) := by decide +kernel
theorem dX7_isOld_1 : decode cX7_isOld 1 = .ok (.getfield 75, 3) := by decide +kernel
theorem dX7_isOld_4 : decode cX7_isOld 4 = .ok (.iload_n 1, 1) := by decide +kernel
theorem dX7_isOld_5 : decode cX7_isOld 5 = .ok (.baload, 1) := by decide +kernel
theorem dX7_isOld_6 : decode cX7_isOld 6 = .ok (.ifCond .ne 19, 3) := by decide +kernel
theorem dX7_isOld_9 : decode cX7_isOld 9 = .ok (.aload_n 0, 1) := by decide +kernel
theorem dX7_isOld_10 : decode cX7_isOld 10 = .ok (.getfield 126, 3) := by decide +kernel
theorem dX7_isOld_13 : decode cX7_isOld 13 = .ok (.aload_n 0, 1) := by decide +kernel
theorem dX7_isOld_14 : decode cX7_isOld 14 = .ok (.getfield 66, 3) := by decide +kernel
theorem dX7_isOld_17 : decode cX7_isOld 17 = .ok (.iload_n 1, 1) := by decide +kernel
theorem dX7_isOld_18 : decode cX7_isOld 18 = .ok (.iaload, 1) := by decide +kernel
theorem dX7_isOld_19 : decode cX7_isOld 19 = .ok (.bipush 10, 2) := by decide +kernel
theorem dX7_isOld_21 : decode cX7_isOld 21 = .ok (.iadd, 1) := by decide +kernel
theorem dX7_isOld_22 : decode cX7_isOld 22 = .ok (.if_icmp .lt 7, 3) := by decide +kernel
theorem dX7_isOld_25 : decode cX7_isOld 25 = .ok (.iconst 1, 1) := by decide +kernel
theorem dX7_isOld_26 : decode cX7_isOld 26 = .ok (.goto 4, 3) := by decide +kernel
theorem dX7_isOld_29 : decode cX7_isOld 29 = .ok (.iconst 0, 1) := by decide +kernel
theorem dX7_isOld_30 : decode cX7_isOld 30 = .ok (.ireturn, 1) := by decide +kernel
set_option maxRecDepth 20000 in
theorem ggX7_read_X7_isIn : GoodIn wsX7_read wsX7_isIn := goodIn_r _ [7] (by decide +kernel) (by decide +kernel)
set_option maxRecDepth 20000 in
theorem gX7_read_X7_isIn : GoodIn wsX7_read (va_wsS RX7 104 yX7_isIn wsX7_isIn) := goodIn_app (goodIn_of _ (by decide +kernel)) ggX7_read_X7_isIn
set_option maxRecDepth 20000 in
theorem ggX7_read_X7_no : GoodIn wsX7_read wsX7_no := goodIn_r _ [11, 12, 20, 21, 22, 23, 24, 25, 26, 27, 28, 29, 30, 31, 32, 33, 34, 35, 36, 37, 38, 39, 40, 41, 42, 43, 44, 45, 46, 47, 48, 49, 50, 51, 52, 53, 54] (by decide +kernel) (by decide +kernel)
set_option maxRecDepth 20000 in
theorem gX7_read_X7_no : GoodIn wsX7_read (wsV RX7 118 RX7 yX7_no wsX7_no) := goodIn_app (goodIn_of _ (by decide +kernel)) ggX7_read_X7_no
set_option maxRecDepth 20000 in
theorem ggX7_read_X7_isOld : GoodIn wsX7_read wsX7_isOld := goodIn_r _ [16, 17, 18, 19, 20, 21, 22, 23, 24, 25, 26, 27, 28, 29, 30, 31, 32, 33, 34, 35, 36, 37, 38, 39, 40, 41, 42, 43, 44, 45, 46, 47, 48, 49, 50, 51, 52, 53, 54] (by decide +kernel) (by decide +kernel)
set_option maxRecDepth 20000 in
theorem gX7_read_X7_isOld : GoodIn wsX7_read (wsV RX7 188 RX7 yX7_isOld wsX7_isOld) := goodIn_app (goodIn_of _ (by decide +kernel)) ggX7_read_X7_isOld
theorem dX7_read_0 : decode cX7_read 0 = .ok (.aload_n 0, 1) := by decide +kernel
theorem dX7_read_1 : decode cX7_read 1 = .ok (.iload_n 1, 1) := by decide +kernel
theorem dX7_read_2 : decode cX7_read 2 = .ok (.iconst 0, 1) := by decide +kernel
theorem dX7_read_3 : decode cX7_read 3 = .ok (.aload_n 0, 1) := by decide +kernel
theorem dX7_read_4 : decode cX7_read 4 = .ok (.getfield 112, 3) := by decide +kernel
theorem dX7_read_7 : decode cX7_read 7 = .ok (.iconst 1, 1) := by decide +kernel
theorem dX7_read_8 : decode cX7_read 8 = .ok (.isub, 1) := by decide +kernel
theorem dX7_read_9 : decode cX7_read 9 = .ok (.invokestatic 104, 3) := by decide +kernel
theorem dX7_read_12 : decode cX7_read 12 = .ok (.iconst 1, 1) := by decide +kernel
theorem dX7_read_13 : decode cX7_read 13 = .ok (.invokevirtual 118, 3) := by decide +kernel
theorem dX7_read_16 : decode cX7_read 16 = .ok (.ifCond .ne 24, 3) := by decide +kernel
theorem dX7_read_19 : decode cX7_read 19 = .ok (.aload_n 0, 1) := by decide +kernel
theorem dX7_read_20 : decode cX7_read 20 = .ok (.aload_n 0, 1) := by decide +kernel
theorem dX7_read_21 : decode cX7_read 21 = .ok (.iload_n 1, 1) := by decide +kernel
theorem dX7_read_22 : decode cX7_read 22 = .ok (.invokevirtual 188, 3) := by decide +kernel
theorem dX7_read_25 : decode cX7_read 25 = .ok (.ifCond .ne 7, 3) := by decide +kernel
theorem dX7_read_28 : decode cX7_read 28 = .ok (.iconst 1, 1) := by decide +kernel
theorem dX7_read_29 : decode cX7_read 29 = .ok (.goto 4, 3) := by decide +kernel
theorem dX7_read_32 : decode cX7_read 32 = .ok (.iconst 0, 1) := by decide +kernel
theorem dX7_read_33 : decode cX7_read 33 = .ok (.iconst 2, 1) := by decide +kernel
theorem dX7_read_34 : decode cX7_read 34 = .ok (.invokevirtual 118, 3) := by decide +kernel
theorem dX7_read_37 : decode cX7_read 37 = .ok (.ifCond .eq 5, 3) := by decide +kernel
theorem dX7_read_40 : decode cX7_read 40 = .ok (.iconst 0, 1) := by decide +kernel
theorem dX7_read_41 : decode cX7_read 41 = .ok (.ireturn, 1) := by decide +kernel
theorem dX7_read_42 : decode cX7_read 42 = .ok (.iload_n 2, 1) := by decide +kernel
theorem dX7_read_43 : decode cX7_read 43 = .ok (.ifCond .eq 12, 3) := by decide +kernel
theorem dX7_read_46 : decode cX7_read 46 = .ok (.aload_n 0, 1) := by decide +kernel
theorem dX7_read_47 : decode cX7_read 47 = .ok (.getfield 69, 3) := by decide +kernel
theorem dX7_read_50 : decode cX7_read 50 = .ok (.iload_n 1, 1) := by decide +kernel
theorem dX7_read_51 : decode cX7_read 51 = .ok (.iaload, 1) := by decide +kernel
theorem dX7_read_52 : decode cX7_read 52 = .ok (.goto 9, 3) := by decide +kernel
theorem dX7_read_55 : decode cX7_read 55 = .ok (.aload_n 0, 1) := by decide +kernel
theorem dX7_read_56 : decode cX7_read 56 = .ok (.getfield 72, 3) := by decide +kernel
theorem dX7_read_59 : decode cX7_read 59 = .ok (.iload_n 1, 1) := by decide +kernel
theorem dX7_read_60 : decode cX7_read 60 = .ok (.iaload, 1) := by decide +kernel
theorem dX7_read_61 : decode cX7_read 61 = .ok (.ireturn, 1) := by decide +kernel
set_option maxRecDepth 20000 in
theorem ggX7_raid_X7_isIn : GoodIn wsX7_raid wsX7_isIn := goodIn_r _ [12] (by decide +kernel) (by decide +kernel)
set_option maxRecDepth 20000 in
theorem gX7_raid_X7_isIn : GoodIn wsX7_raid (va_wsS RX7 104 yX7_isIn wsX7_isIn) := goodIn_app (goodIn_of _ (by decide +kernel)) ggX7_raid_X7_isIn
set_option maxRecDepth 20000 in
theorem ggX7_raid_X7_isGate : GoodIn wsX7_raid wsX7_isGate := goodIn_r _ [15, 9, 10, 11, 12] (by decide +kernel) (by decide +kernel)
set_option maxRecDepth 20000 in
theorem gX7_raid_X7_isGate : GoodIn wsX7_raid (va_wsS RX7 142 yX7_isGate wsX7_isGate) := goodIn_app (goodIn_of _ (by decide +kernel)) ggX7_raid_X7_isGate
set_option maxRecDepth 20000 in
theorem ggX7_raid_X7_no : GoodIn wsX7_raid wsX7_no := goodIn_r _ [19, 20, 78, 79, 80, 81, 82, 83, 84, 85, 86, 87, 88, 89, 90, 91, 92, 93, 94, 95, 96, 97, 98, 99, 100, 101, 102, 103, 104, 105, 106, 107, 108, 109, 110, 111, 112] (by decide +kernel) (by decide +kernel)
set_option maxRecDepth 20000 in
theorem gX7_raid_X7_no : GoodIn wsX7_raid (wsV RX7 118 RX7 yX7_no wsX7_no) := goodIn_app (goodIn_of _ (by decide +kernel)) ggX7_raid_X7_no
set_option maxRecDepth 20000 in
theorem ggX7_raid_X7_isOld : GoodIn wsX7_raid wsX7_isOld := goodIn_r _ [24, 25, 26, 27, 78, 79, 80, 81, 82, 83, 84, 85, 86, 87, 88, 89, 90, 91, 92, 93, 94, 95, 96, 97, 98, 99, 100, 101, 102, 103, 104, 105, 106, 107, 108, 109, 110, 111, 112] (by decide +kernel) (by decide +kernel)
set_option maxRecDepth 20000 in
theorem gX7_raid_X7_isOld : GoodIn wsX7_raid (wsV RX7 188 RX7 yX7_isOld wsX7_isOld) := goodIn_app (goodIn_of _ (by decide +kernel)) ggX7_raid_X7_isOld
set_option maxRecDepth 20000 in
theorem ggX7_raid_X7_opens : GoodIn wsX7_raid wsX7_opens := goodIn_r _ [31, 32, 26, 78, 79, 80, 81, 82, 83, 84, 85, 86, 87, 88, 89, 90, 91, 92, 93, 94, 95, 96, 97, 98, 99, 100, 101, 102, 103, 104, 105, 106, 107, 108, 109, 110, 111, 112] (by decide +kernel) (by decide +kernel)
set_option maxRecDepth 20000 in
theorem gX7_raid_X7_opens : GoodIn wsX7_raid (wsV RX7 158 RX7 yX7_opens wsX7_opens) := goodIn_app (goodIn_of _ (by decide +kernel)) ggX7_raid_X7_opens
set_option maxRecDepth 20000 in
theorem ggX7_raid_X7_reach : GoodIn wsX7_raid wsX7_reach := goodIn_r _ [36, 37, 38, 39, 78, 79, 80, 81, 82, 83, 84, 85, 86, 87, 88, 89, 90, 91, 92, 93, 94, 95, 96, 97, 98, 99, 100, 101, 102, 103, 104, 105, 106, 107, 108, 109, 110, 111, 112] (by decide +kernel) (by decide +kernel)
set_option maxRecDepth 20000 in
theorem gX7_raid_X7_reach : GoodIn wsX7_raid (wsV RX7 145 RX7 yX7_reach wsX7_reach) := goodIn_app (goodIn_of _ (by decide +kernel)) ggX7_raid_X7_reach
set_option maxRecDepth 20000 in
theorem ggX7_raid_X7_quorum : GoodIn wsX7_raid wsX7_quorum := goodIn_r _ [43, 37, 44, 45, 11, 46, 78, 79, 80, 81, 82, 83, 84, 85, 86, 87, 88, 89, 90, 91, 92, 93, 94, 95, 96, 97, 98, 99, 100, 101, 102, 103, 104, 105, 106, 107, 108, 109, 110, 111, 112] (by decide +kernel) (by decide +kernel)
set_option maxRecDepth 20000 in
theorem gX7_raid_X7_quorum : GoodIn wsX7_raid (wsV RX7 155 RX7 yX7_quorum wsX7_quorum) := goodIn_app (goodIn_of _ (by decide +kernel)) ggX7_raid_X7_quorum
set_option maxRecDepth 20000 in
theorem ggX7_raid_X7_hangs : GoodIn wsX7_raid wsX7_hangs := goodIn_r _ [50, 5, 4, 51, 52, 53, 11, 54, 55, 56, 57, 58, 59, 60, 61, 62, 63, 64, 65, 66, 67, 68, 78, 79, 80, 81, 82, 83, 84, 85, 86, 87, 88, 89, 90, 91, 92, 93, 94, 95, 96, 97, 98, 99, 100, 101, 102, 103, 104, 105, 106, 107, 108, 109, 110, 111, 112] (by decide +kernel) (by decide +kernel)
set_option maxRecDepth 20000 in
theorem gX7_raid_X7_hangs : GoodIn wsX7_raid (wsV RX7 191 RX7 yX7_hangs wsX7_hangs) := goodIn_app (goodIn_of _ (by decide +kernel)) ggX7_raid_X7_hangs
set_option maxRecDepth 20000 in
theorem ggX7_raid_X7_writes : GoodIn wsX7_raid wsX7_writes := goodIn_r _ [72, 4, 60, 65, 66, 68, 73, 59, 33, 34, 35, 11, 36, 37, 38, 39, 74, 75, 76, 77, 40, 41, 42, 43, 44, 45, 46, 78, 79, 80, 81, 82, 83, 84, 85, 86, 87, 88, 89, 90, 91, 92, 93, 94, 95, 96, 97, 98, 99, 100, 101, 102, 103, 104, 105, 106, 107, 108, 109, 110, 111, 112] (by decide +kernel) (by decide +kernel)
set_option maxRecDepth 20000 in
theorem gX7_raid_X7_writes : GoodIn wsX7_raid (wsV RX7 181 RX7 yX7_writes wsX7_writes) := goodIn_app (goodIn_of _ (by decide +kernel)) ggX7_raid_X7_writes
theorem dX7_raid_0 : decode cX7_raid 0 = .ok (.aload_n 0, 1) := by decide +kernel
theorem dX7_raid_1 : decode cX7_raid 1 = .ok (.iload_n 1, 1) := by decide +kernel
theorem dX7_raid_2 : decode cX7_raid 2 = .ok (.iconst 0, 1) := by decide +kernel
theorem dX7_raid_3 : decode cX7_raid 3 = .ok (.aload_n 0, 1) := by decide +kernel
theorem dX7_raid_4 : decode cX7_raid 4 = .ok (.getfield 112, 3) := by decide +kernel
theorem dX7_raid_7 : decode cX7_raid 7 = .ok (.iconst 1, 1) := by decide +kernel
theorem dX7_raid_8 : decode cX7_raid 8 = .ok (.isub, 1) := by decide +kernel
theorem dX7_raid_9 : decode cX7_raid 9 = .ok (.invokestatic 104, 3) := by decide +kernel
theorem dX7_raid_12 : decode cX7_raid 12 = .ok (.ifCond .eq 14, 3) := by decide +kernel
theorem dX7_raid_15 : decode cX7_raid 15 = .ok (.iload_n 2, 1) := by decide +kernel
theorem dX7_raid_16 : decode cX7_raid 16 = .ok (.invokestatic 142, 3) := by decide +kernel
theorem dX7_raid_19 : decode cX7_raid 19 = .ok (.ifCond .eq 7, 3) := by decide +kernel
theorem dX7_raid_22 : decode cX7_raid 22 = .ok (.iconst 1, 1) := by decide +kernel
theorem dX7_raid_23 : decode cX7_raid 23 = .ok (.goto 4, 3) := by decide +kernel
theorem dX7_raid_26 : decode cX7_raid 26 = .ok (.iconst 0, 1) := by decide +kernel
theorem dX7_raid_27 : decode cX7_raid 27 = .ok (.iconst 1, 1) := by decide +kernel
theorem dX7_raid_28 : decode cX7_raid 28 = .ok (.invokevirtual 118, 3) := by decide +kernel
theorem dX7_raid_31 : decode cX7_raid 31 = .ok (.ifCond .eq 6, 3) := by decide +kernel
theorem dX7_raid_34 : decode cX7_raid 34 = .ok (.bipush 45, 2) := by decide +kernel
theorem dX7_raid_36 : decode cX7_raid 36 = .ok (.ireturn, 1) := by decide +kernel
theorem dX7_raid_37 : decode cX7_raid 37 = .ok (.aload_n 0, 1) := by decide +kernel
theorem dX7_raid_38 : decode cX7_raid 38 = .ok (.getfield 63, 3) := by decide +kernel
theorem dX7_raid_41 : decode cX7_raid 41 = .ok (.iload_n 1, 1) := by decide +kernel
theorem dX7_raid_42 : decode cX7_raid 42 = .ok (.iaload, 1) := by decide +kernel
theorem dX7_raid_43 : decode cX7_raid 43 = .ok (.istore_n 3, 1) := by decide +kernel
theorem dX7_raid_44 : decode cX7_raid 44 = .ok (.aload_n 0, 1) := by decide +kernel
theorem dX7_raid_45 : decode cX7_raid 45 = .ok (.getfield 60, 3) := by decide +kernel
theorem dX7_raid_48 : decode cX7_raid 48 = .ok (.iload_n 1, 1) := by decide +kernel
theorem dX7_raid_49 : decode cX7_raid 49 = .ok (.iaload, 1) := by decide +kernel
theorem dX7_raid_50 : decode cX7_raid 50 = .ok (.istore 4, 2) := by decide +kernel
theorem dX7_raid_52 : decode cX7_raid 52 = .ok (.aload_n 0, 1) := by decide +kernel
theorem dX7_raid_53 : decode cX7_raid 53 = .ok (.aload_n 0, 1) := by decide +kernel
theorem dX7_raid_54 : decode cX7_raid 54 = .ok (.getfield 16, 3) := by decide +kernel
theorem dX7_raid_57 : decode cX7_raid 57 = .ok (.iload_n 3, 1) := by decide +kernel
theorem dX7_raid_58 : decode cX7_raid 58 = .ok (.iaload, 1) := by decide +kernel
theorem dX7_raid_59 : decode cX7_raid 59 = .ok (.bipush 60, 2) := by decide +kernel
theorem dX7_raid_61 : decode cX7_raid 61 = .ok (.if_icmp .ge 7, 3) := by decide +kernel
theorem dX7_raid_64 : decode cX7_raid 64 = .ok (.iconst 1, 1) := by decide +kernel
theorem dX7_raid_65 : decode cX7_raid 65 = .ok (.goto 4, 3) := by decide +kernel
theorem dX7_raid_68 : decode cX7_raid 68 = .ok (.iconst 0, 1) := by decide +kernel
theorem dX7_raid_69 : decode cX7_raid 69 = .ok (.iconst 2, 1) := by decide +kernel
theorem dX7_raid_70 : decode cX7_raid 70 = .ok (.invokevirtual 118, 3) := by decide +kernel
theorem dX7_raid_73 : decode cX7_raid 73 = .ok (.ifCond .eq 6, 3) := by decide +kernel
theorem dX7_raid_76 : decode cX7_raid 76 = .ok (.bipush 45, 2) := by decide +kernel
theorem dX7_raid_78 : decode cX7_raid 78 = .ok (.ireturn, 1) := by decide +kernel
theorem dX7_raid_79 : decode cX7_raid 79 = .ok (.aload_n 0, 1) := by decide +kernel
theorem dX7_raid_80 : decode cX7_raid 80 = .ok (.iload_n 1, 1) := by decide +kernel
theorem dX7_raid_81 : decode cX7_raid 81 = .ok (.invokevirtual 188, 3) := by decide +kernel
theorem dX7_raid_84 : decode cX7_raid 84 = .ok (.ifCond .eq 6, 3) := by decide +kernel
theorem dX7_raid_87 : decode cX7_raid 87 = .ok (.bipush 111, 2) := by decide +kernel
theorem dX7_raid_89 : decode cX7_raid 89 = .ok (.ireturn, 1) := by decide +kernel
theorem dX7_raid_90 : decode cX7_raid 90 = .ok (.aload_n 0, 1) := by decide +kernel
theorem dX7_raid_91 : decode cX7_raid 91 = .ok (.iload_n 3, 1) := by decide +kernel
theorem dX7_raid_92 : decode cX7_raid 92 = .ok (.iload_n 2, 1) := by decide +kernel
theorem dX7_raid_93 : decode cX7_raid 93 = .ok (.iload 4, 2) := by decide +kernel
theorem dX7_raid_95 : decode cX7_raid 95 = .ok (.invokevirtual 158, 3) := by decide +kernel
theorem dX7_raid_98 : decode cX7_raid 98 = .ok (.ifCond .ne 6, 3) := by decide +kernel
theorem dX7_raid_101 : decode cX7_raid 101 = .ok (.bipush 103, 2) := by decide +kernel
theorem dX7_raid_103 : decode cX7_raid 103 = .ok (.ireturn, 1) := by decide +kernel
theorem dX7_raid_104 : decode cX7_raid 104 = .ok (.aload_n 0, 1) := by decide +kernel
theorem dX7_raid_105 : decode cX7_raid 105 = .ok (.iload_n 3, 1) := by decide +kernel
theorem dX7_raid_106 : decode cX7_raid 106 = .ok (.aload_n 0, 1) := by decide +kernel
theorem dX7_raid_107 : decode cX7_raid 107 = .ok (.iload_n 3, 1) := by decide +kernel
theorem dX7_raid_108 : decode cX7_raid 108 = .ok (.iload 4, 2) := by decide +kernel
theorem dX7_raid_110 : decode cX7_raid 110 = .ok (.invokevirtual 145, 3) := by decide +kernel
theorem dX7_raid_113 : decode cX7_raid 113 = .ok (.invokevirtual 155, 3) := by decide +kernel
theorem dX7_raid_116 : decode cX7_raid 116 = .ok (.ifCond .ne 6, 3) := by decide +kernel
theorem dX7_raid_119 : decode cX7_raid 119 = .ok (.bipush 113, 2) := by decide +kernel
theorem dX7_raid_121 : decode cX7_raid 121 = .ok (.ireturn, 1) := by decide +kernel
theorem dX7_raid_122 : decode cX7_raid 122 = .ok (.aload_n 0, 1) := by decide +kernel
theorem dX7_raid_123 : decode cX7_raid 123 = .ok (.iload_n 3, 1) := by decide +kernel
theorem dX7_raid_124 : decode cX7_raid 124 = .ok (.invokevirtual 191, 3) := by decide +kernel
theorem dX7_raid_127 : decode cX7_raid 127 = .ok (.ifCond .ne 16, 3) := by decide +kernel
theorem dX7_raid_130 : decode cX7_raid 130 = .ok (.aload_n 0, 1) := by decide +kernel
theorem dX7_raid_131 : decode cX7_raid 131 = .ok (.getfield 171, 3) := by decide +kernel
theorem dX7_raid_134 : decode cX7_raid 134 = .ok (.aload_n 0, 1) := by decide +kernel
theorem dX7_raid_135 : decode cX7_raid 135 = .ok (.getfield 69, 3) := by decide +kernel
theorem dX7_raid_138 : decode cX7_raid 138 = .ok (.iload_n 1, 1) := by decide +kernel
theorem dX7_raid_139 : decode cX7_raid 139 = .ok (.iaload, 1) := by decide +kernel
theorem dX7_raid_140 : decode cX7_raid 140 = .ok (.if_icmp .eq 6, 3) := by decide +kernel
theorem dX7_raid_143 : decode cX7_raid 143 = .ok (.bipush 115, 2) := by decide +kernel
theorem dX7_raid_145 : decode cX7_raid 145 = .ok (.ireturn, 1) := by decide +kernel
theorem dX7_raid_146 : decode cX7_raid 146 = .ok (.aload_n 0, 1) := by decide +kernel
theorem dX7_raid_147 : decode cX7_raid 147 = .ok (.iload_n 3, 1) := by decide +kernel
theorem dX7_raid_148 : decode cX7_raid 148 = .ok (.bipush 114, 2) := by decide +kernel
theorem dX7_raid_150 : decode cX7_raid 150 = .ok (.aload_n 0, 1) := by decide +kernel
theorem dX7_raid_151 : decode cX7_raid 151 = .ok (.getfield 72, 3) := by decide +kernel
theorem dX7_raid_154 : decode cX7_raid 154 = .ok (.iload_n 1, 1) := by decide +kernel
theorem dX7_raid_155 : decode cX7_raid 155 = .ok (.iaload, 1) := by decide +kernel
theorem dX7_raid_156 : decode cX7_raid 156 = .ok (.iconst 2, 1) := by decide +kernel
theorem dX7_raid_157 : decode cX7_raid 157 = .ok (.idiv, 1) := by decide +kernel
theorem dX7_raid_158 : decode cX7_raid 158 = .ok (.iload 4, 2) := by decide +kernel
theorem dX7_raid_160 : decode cX7_raid 160 = .ok (.iconst 0, 1) := by decide +kernel
theorem dX7_raid_161 : decode cX7_raid 161 = .ok (.invokevirtual 181, 3) := by decide +kernel
theorem dX7_raid_164 : decode cX7_raid 164 = .ok (.istore 5, 2) := by decide +kernel
theorem dX7_raid_166 : decode cX7_raid 166 = .ok (.aload_n 0, 1) := by decide +kernel
theorem dX7_raid_167 : decode cX7_raid 167 = .ok (.getfield 90, 3) := by decide +kernel
theorem dX7_raid_170 : decode cX7_raid 170 = .ok (.iload 4, 2) := by decide +kernel
theorem dX7_raid_172 : decode cX7_raid 172 = .ok (.dup2, 1) := by decide +kernel
theorem dX7_raid_173 : decode cX7_raid 173 = .ok (.iaload, 1) := by decide +kernel
theorem dX7_raid_174 : decode cX7_raid 174 = .ok (.iconst 1, 1) := by decide +kernel
theorem dX7_raid_175 : decode cX7_raid 175 = .ok (.iadd, 1) := by decide +kernel
theorem dX7_raid_176 : decode cX7_raid 176 = .ok (.iastore, 1) := by decide +kernel
theorem dX7_raid_177 : decode cX7_raid 177 = .ok (.bipush 119, 2) := by decide +kernel
theorem dX7_raid_179 : decode cX7_raid 179 = .ok (.ireturn, 1) := by decide +kernel
set_option maxRecDepth 20000 in
theorem ggX7_won_X7_isLord : GoodIn wsX7_won wsX7_isLord := goodIn_r _ [5, 6, 7, 4, 8] (by decide +kernel) (by decide +kernel)
set_option maxRecDepth 20000 in
theorem gX7_won_X7_isLord : GoodIn wsX7_won (va_wsS RX7 136 yX7_isLord wsX7_isLord) := goodIn_app (goodIn_of _ (by decide +kernel)) ggX7_won_X7_isLord
set_option maxRecDepth 20000 in
theorem ggX7_won_X7_no : GoodIn wsX7_won wsX7_no := goodIn_r _ [12, 13, 14, 15, 16, 17, 18, 19, 20, 21, 22, 23, 24, 25, 26, 27, 28, 29, 30, 31, 32, 33, 34, 35, 36, 37, 38, 39, 40, 41, 42, 43, 44, 45, 46, 47, 48] (by decide +kernel) (by decide +kernel)
set_option maxRecDepth 20000 in
theorem gX7_won_X7_no : GoodIn wsX7_won (wsV RX7 118 RX7 yX7_no wsX7_no) := goodIn_app (goodIn_of _ (by decide +kernel)) ggX7_won_X7_no
theorem dX7_won_0 : decode cX7_won 0 = .ok (.aload_n 0, 1) := by decide +kernel
theorem dX7_won_1 : decode cX7_won 1 = .ok (.iload_n 1, 1) := by decide +kernel
theorem dX7_won_2 : decode cX7_won 2 = .ok (.invokestatic 136, 3) := by decide +kernel
theorem dX7_won_5 : decode cX7_won 5 = .ok (.iconst 1, 1) := by decide +kernel
theorem dX7_won_6 : decode cX7_won 6 = .ok (.invokevirtual 118, 3) := by decide +kernel
theorem dX7_won_9 : decode cX7_won 9 = .ok (.ifCond .eq 7, 3) := by decide +kernel
theorem dX7_won_12 : decode cX7_won 12 = .ok (.iconst 0, 1) := by decide +kernel
theorem dX7_won_13 : decode cX7_won 13 = .ok (.goto 9, 3) := by decide +kernel
theorem dX7_won_16 : decode cX7_won 16 = .ok (.aload_n 0, 1) := by decide +kernel
theorem dX7_won_17 : decode cX7_won 17 = .ok (.getfield 90, 3) := by decide +kernel
theorem dX7_won_20 : decode cX7_won 20 = .ok (.iload_n 1, 1) := by decide +kernel
theorem dX7_won_21 : decode cX7_won 21 = .ok (.iaload, 1) := by decide +kernel
theorem dX7_won_22 : decode cX7_won 22 = .ok (.ireturn, 1) := by decide +kernel
set_option maxRecDepth 20000 in
theorem ggX7_truce_X7_isCastle : GoodIn wsX7_truce wsX7_isCastle := goodIn_r _ [9] (by decide +kernel) (by decide +kernel)
set_option maxRecDepth 20000 in
theorem gX7_truce_X7_isCastle : GoodIn wsX7_truce (va_wsS RX7 108 yX7_isCastle wsX7_isCastle) := goodIn_app (goodIn_of _ (by decide +kernel)) ggX7_truce_X7_isCastle
set_option maxRecDepth 20000 in
theorem ggX7_truce_X7_no : GoodIn wsX7_truce wsX7_no := goodIn_r _ [13, 14, 18, 19, 20, 21, 22, 23, 24, 25, 26, 27, 28, 29, 30, 31, 32, 33, 34, 35, 36, 37, 38, 39, 40, 41, 42, 43, 44, 45, 46, 47, 48, 49, 50, 51, 52] (by decide +kernel) (by decide +kernel)
set_option maxRecDepth 20000 in
theorem gX7_truce_X7_no : GoodIn wsX7_truce (wsV RX7 118 RX7 yX7_no wsX7_no) := goodIn_app (goodIn_of _ (by decide +kernel)) ggX7_truce_X7_no
set_option maxRecDepth 20000 in
theorem ggX7_truce_X7_isIn : GoodIn wsX7_truce wsX7_isIn := goodIn_r _ [17] (by decide +kernel) (by decide +kernel)
set_option maxRecDepth 20000 in
theorem gX7_truce_X7_isIn : GoodIn wsX7_truce (va_wsS RX7 104 yX7_isIn wsX7_isIn) := goodIn_app (goodIn_of _ (by decide +kernel)) ggX7_truce_X7_isIn
theorem dX7_truce_0 : decode cX7_truce 0 = .ok (.aload_n 0, 1) := by decide +kernel
theorem dX7_truce_1 : decode cX7_truce 1 = .ok (.iload_n 1, 1) := by decide +kernel
theorem dX7_truce_2 : decode cX7_truce 2 = .ok (.invokestatic 108, 3) := by decide +kernel
theorem dX7_truce_5 : decode cX7_truce 5 = .ok (.iconst 1, 1) := by decide +kernel
theorem dX7_truce_6 : decode cX7_truce 6 = .ok (.invokevirtual 118, 3) := by decide +kernel
theorem dX7_truce_9 : decode cX7_truce 9 = .ok (.ifCond .ne 41, 3) := by decide +kernel
theorem dX7_truce_12 : decode cX7_truce 12 = .ok (.aload_n 0, 1) := by decide +kernel
theorem dX7_truce_13 : decode cX7_truce 13 = .ok (.iload_n 2, 1) := by decide +kernel
theorem dX7_truce_14 : decode cX7_truce 14 = .ok (.iconst 1, 1) := by decide +kernel
theorem dX7_truce_15 : decode cX7_truce 15 = .ok (.sipush 999, 3) := by decide +kernel
theorem dX7_truce_18 : decode cX7_truce 18 = .ok (.invokestatic 104, 3) := by decide +kernel
theorem dX7_truce_21 : decode cX7_truce 21 = .ok (.iconst 2, 1) := by decide +kernel
theorem dX7_truce_22 : decode cX7_truce 22 = .ok (.invokevirtual 118, 3) := by decide +kernel
theorem dX7_truce_25 : decode cX7_truce 25 = .ok (.ifCond .ne 25, 3) := by decide +kernel
theorem dX7_truce_28 : decode cX7_truce 28 = .ok (.aload_n 0, 1) := by decide +kernel
theorem dX7_truce_29 : decode cX7_truce 29 = .ok (.aload_n 0, 1) := by decide +kernel
theorem dX7_truce_30 : decode cX7_truce 30 = .ok (.getfield 115, 3) := by decide +kernel
theorem dX7_truce_33 : decode cX7_truce 33 = .ok (.bipush 8, 2) := by decide +kernel
theorem dX7_truce_35 : decode cX7_truce 35 = .ok (.if_icmp .ge 7, 3) := by decide +kernel
theorem dX7_truce_38 : decode cX7_truce 38 = .ok (.iconst 1, 1) := by decide +kernel
theorem dX7_truce_39 : decode cX7_truce 39 = .ok (.goto 4, 3) := by decide +kernel
theorem dX7_truce_42 : decode cX7_truce 42 = .ok (.iconst 0, 1) := by decide +kernel
theorem dX7_truce_43 : decode cX7_truce 43 = .ok (.iconst 3, 1) := by decide +kernel
theorem dX7_truce_44 : decode cX7_truce 44 = .ok (.invokevirtual 118, 3) := by decide +kernel
theorem dX7_truce_47 : decode cX7_truce 47 = .ok (.ifCond .eq 5, 3) := by decide +kernel
theorem dX7_truce_50 : decode cX7_truce 50 = .ok (.iconst 0, 1) := by decide +kernel
theorem dX7_truce_51 : decode cX7_truce 51 = .ok (.ireturn, 1) := by decide +kernel
theorem dX7_truce_52 : decode cX7_truce 52 = .ok (.aload_n 0, 1) := by decide +kernel
theorem dX7_truce_53 : decode cX7_truce 53 = .ok (.getfield 78, 3) := by decide +kernel
theorem dX7_truce_56 : decode cX7_truce 56 = .ok (.aload_n 0, 1) := by decide +kernel
theorem dX7_truce_57 : decode cX7_truce 57 = .ok (.getfield 115, 3) := by decide +kernel
theorem dX7_truce_60 : decode cX7_truce 60 = .ok (.iload_n 1, 1) := by decide +kernel
theorem dX7_truce_61 : decode cX7_truce 61 = .ok (.iastore, 1) := by decide +kernel
theorem dX7_truce_62 : decode cX7_truce 62 = .ok (.aload_n 0, 1) := by decide +kernel
theorem dX7_truce_63 : decode cX7_truce 63 = .ok (.getfield 81, 3) := by decide +kernel
theorem dX7_truce_66 : decode cX7_truce 66 = .ok (.aload_n 0, 1) := by decide +kernel
theorem dX7_truce_67 : decode cX7_truce 67 = .ok (.getfield 115, 3) := by decide +kernel
theorem dX7_truce_70 : decode cX7_truce 70 = .ok (.iload_n 2, 1) := by decide +kernel
theorem dX7_truce_71 : decode cX7_truce 71 = .ok (.iastore, 1) := by decide +kernel
theorem dX7_truce_72 : decode cX7_truce 72 = .ok (.aload_n 0, 1) := by decide +kernel
theorem dX7_truce_73 : decode cX7_truce 73 = .ok (.getfield 84, 3) := by decide +kernel
theorem dX7_truce_76 : decode cX7_truce 76 = .ok (.aload_n 0, 1) := by decide +kernel
theorem dX7_truce_77 : decode cX7_truce 77 = .ok (.getfield 115, 3) := by decide +kernel
theorem dX7_truce_80 : decode cX7_truce 80 = .ok (.bipush 45, 2) := by decide +kernel
theorem dX7_truce_82 : decode cX7_truce 82 = .ok (.castore, 1) := by decide +kernel
theorem dX7_truce_83 : decode cX7_truce 83 = .ok (.aload_n 0, 1) := by decide +kernel
theorem dX7_truce_84 : decode cX7_truce 84 = .ok (.getfield 87, 3) := by decide +kernel
theorem dX7_truce_87 : decode cX7_truce 87 = .ok (.iconst 2, 1) := by decide +kernel
theorem dX7_truce_88 : decode cX7_truce 88 = .ok (.aload_n 0, 1) := by decide +kernel
theorem dX7_truce_89 : decode cX7_truce 89 = .ok (.getfield 115, 3) := by decide +kernel
theorem dX7_truce_92 : decode cX7_truce 92 = .ok (.imul, 1) := by decide +kernel
theorem dX7_truce_93 : decode cX7_truce 93 = .ok (.bipush 45, 2) := by decide +kernel
theorem dX7_truce_95 : decode cX7_truce 95 = .ok (.castore, 1) := by decide +kernel
theorem dX7_truce_96 : decode cX7_truce 96 = .ok (.aload_n 0, 1) := by decide +kernel
theorem dX7_truce_97 : decode cX7_truce 97 = .ok (.getfield 87, 3) := by decide +kernel
theorem dX7_truce_100 : decode cX7_truce 100 = .ok (.iconst 2, 1) := by decide +kernel
theorem dX7_truce_101 : decode cX7_truce 101 = .ok (.aload_n 0, 1) := by decide +kernel
theorem dX7_truce_102 : decode cX7_truce 102 = .ok (.getfield 115, 3) := by decide +kernel
theorem dX7_truce_105 : decode cX7_truce 105 = .ok (.imul, 1) := by decide +kernel
theorem dX7_truce_106 : decode cX7_truce 106 = .ok (.iconst 1, 1) := by decide +kernel
theorem dX7_truce_107 : decode cX7_truce 107 = .ok (.iadd, 1) := by decide +kernel
theorem dX7_truce_108 : decode cX7_truce 108 = .ok (.bipush 45, 2) := by decide +kernel
theorem dX7_truce_110 : decode cX7_truce 110 = .ok (.castore, 1) := by decide +kernel
theorem dX7_truce_111 : decode cX7_truce 111 = .ok (.aload_n 0, 1) := by decide +kernel
theorem dX7_truce_112 : decode cX7_truce 112 = .ok (.dup, 1) := by decide +kernel
theorem dX7_truce_113 : decode cX7_truce 113 = .ok (.getfield 115, 3) := by decide +kernel
theorem dX7_truce_116 : decode cX7_truce 116 = .ok (.iconst 1, 1) := by decide +kernel
theorem dX7_truce_117 : decode cX7_truce 117 = .ok (.iadd, 1) := by decide +kernel
theorem dX7_truce_118 : decode cX7_truce 118 = .ok (.putfield 115, 3) := by decide +kernel
theorem dX7_truce_121 : decode cX7_truce 121 = .ok (.aload_n 0, 1) := by decide +kernel
theorem dX7_truce_122 : decode cX7_truce 122 = .ok (.getfield 115, 3) := by decide +kernel
theorem dX7_truce_125 : decode cX7_truce 125 = .ok (.iconst 1, 1) := by decide +kernel
theorem dX7_truce_126 : decode cX7_truce 126 = .ok (.isub, 1) := by decide +kernel
theorem dX7_truce_127 : decode cX7_truce 127 = .ok (.ireturn, 1) := by decide +kernel
set_option maxRecDepth 20000 in
theorem ggX7_isTruce_X7_isIn : GoodIn wsX7_isTruce wsX7_isIn := goodIn_r _ [5] (by decide +kernel) (by decide +kernel)
set_option maxRecDepth 20000 in
theorem gX7_isTruce_X7_isIn : GoodIn wsX7_isTruce (va_wsS RX7 104 yX7_isIn wsX7_isIn) := goodIn_app (goodIn_of _ (by decide +kernel)) ggX7_isTruce_X7_isIn
theorem dX7_isTruce_0 : decode cX7_isTruce 0 = .ok (.iload_n 1, 1) := by decide +kernel
theorem dX7_isTruce_1 : decode cX7_isTruce 1 = .ok (.iconst 0, 1) := by decide +kernel
theorem dX7_isTruce_2 : decode cX7_isTruce 2 = .ok (.aload_n 0, 1) := by decide +kernel
theorem dX7_isTruce_3 : decode cX7_isTruce 3 = .ok (.getfield 115, 3) := by decide +kernel
theorem dX7_isTruce_6 : decode cX7_isTruce 6 = .ok (.iconst 1, 1) := by decide +kernel
theorem dX7_isTruce_7 : decode cX7_isTruce 7 = .ok (.isub, 1) := by decide +kernel
theorem dX7_isTruce_8 : decode cX7_isTruce 8 = .ok (.invokestatic 104, 3) := by decide +kernel
theorem dX7_isTruce_11 : decode cX7_isTruce 11 = .ok (.ireturn, 1) := by decide +kernel
set_option maxRecDepth 20000 in
theorem ggX7_prepare_X7_isTruce : GoodIn wsX7_prepare wsX7_isTruce := goodIn_r _ [12, 13, 14, 15, 11, 16, 75, 76, 77, 78, 79, 80, 81, 82, 83, 84, 85, 86, 87, 88, 89, 90, 91, 92, 93, 94, 95, 96, 97, 98, 99, 100, 101, 102, 103, 104, 105, 106, 107, 108, 109] (by decide +kernel) (by decide +kernel)
set_option maxRecDepth 20000 in
theorem gX7_prepare_X7_isTruce : GoodIn wsX7_prepare (wsV RX7 194 RX7 yX7_isTruce wsX7_isTruce) := goodIn_app (goodIn_of _ (by decide +kernel)) ggX7_prepare_X7_isTruce
set_option maxRecDepth 20000 in
theorem ggX7_prepare_X7_isCastle : GoodIn wsX7_prepare wsX7_isCastle := goodIn_r _ [19] (by decide +kernel) (by decide +kernel)
set_option maxRecDepth 20000 in
theorem gX7_prepare_X7_isCastle : GoodIn wsX7_prepare (va_wsS RX7 108 yX7_isCastle wsX7_isCastle) := goodIn_app (goodIn_of _ (by decide +kernel)) ggX7_prepare_X7_isCastle
set_option maxRecDepth 20000 in
theorem ggX7_prepare_X7_isLord : GoodIn wsX7_prepare wsX7_isLord := goodIn_r _ [22, 14, 15, 11, 16] (by decide +kernel) (by decide +kernel)
set_option maxRecDepth 20000 in
theorem gX7_prepare_X7_isLord : GoodIn wsX7_prepare (va_wsS RX7 136 yX7_isLord wsX7_isLord) := goodIn_app (goodIn_of _ (by decide +kernel)) ggX7_prepare_X7_isLord
set_option maxRecDepth 20000 in
theorem ggX7_prepare_X7_no : GoodIn wsX7_prepare wsX7_no := goodIn_r _ [26, 27, 75, 76, 77, 78, 79, 80, 81, 82, 83, 84, 85, 86, 87, 88, 89, 90, 91, 92, 93, 94, 95, 96, 97, 98, 99, 100, 101, 102, 103, 104, 105, 106, 107, 108, 109] (by decide +kernel) (by decide +kernel)
set_option maxRecDepth 20000 in
theorem gX7_prepare_X7_no : GoodIn wsX7_prepare (wsV RX7 118 RX7 yX7_no wsX7_no) := goodIn_app (goodIn_of _ (by decide +kernel)) ggX7_prepare_X7_no
set_option maxRecDepth 20000 in
theorem ggX7_prepare_X7_hangs : GoodIn wsX7_prepare wsX7_hangs := goodIn_r _ [31, 32, 7, 33, 34, 35, 11, 36, 37, 4, 5, 38, 39, 40, 41, 42, 43, 44, 45, 46, 3, 47, 75, 76, 77, 78, 79, 80, 81, 82, 83, 84, 85, 86, 87, 88, 89, 90, 91, 92, 93, 94, 95, 96, 97, 98, 99, 100, 101, 102, 103, 104, 105, 106, 107, 108, 109] (by decide +kernel) (by decide +kernel)
set_option maxRecDepth 20000 in
theorem gX7_prepare_X7_hangs : GoodIn wsX7_prepare (wsV RX7 191 RX7 yX7_hangs wsX7_hangs) := goodIn_app (goodIn_of _ (by decide +kernel)) ggX7_prepare_X7_hangs
set_option maxRecDepth 20000 in
theorem ggX7_prepare_X7_prepared : GoodIn wsX7_prepare wsX7_prepared := goodIn_r _ [51, 13, 1, 75, 76, 77, 78, 79, 80, 81, 82, 83, 84, 85, 86, 87, 88, 89, 90, 91, 92, 93, 94, 95, 96, 97, 98, 99, 100, 101, 102, 103, 104, 105, 106, 107, 108, 109] (by decide +kernel) (by decide +kernel)
set_option maxRecDepth 20000 in
theorem gX7_prepare_X7_prepared : GoodIn wsX7_prepare (wsV RX7 122 RX7 yX7_prepared wsX7_prepared) := goodIn_app (goodIn_of _ (by decide +kernel)) ggX7_prepare_X7_prepared
set_option maxRecDepth 20000 in
theorem ggX7_prepare_X7_reach : GoodIn wsX7_prepare wsX7_reach := goodIn_r _ [55, 56, 57, 58, 75, 76, 77, 78, 79, 80, 81, 82, 83, 84, 85, 86, 87, 88, 89, 90, 91, 92, 93, 94, 95, 96, 97, 98, 99, 100, 101, 102, 103, 104, 105, 106, 107, 108, 109] (by decide +kernel) (by decide +kernel)
set_option maxRecDepth 20000 in
theorem gX7_prepare_X7_reach : GoodIn wsX7_prepare (wsV RX7 145 RX7 yX7_reach wsX7_reach) := goodIn_app (goodIn_of _ (by decide +kernel)) ggX7_prepare_X7_reach
set_option maxRecDepth 20000 in
theorem ggX7_prepare_X7_quorum : GoodIn wsX7_prepare wsX7_quorum := goodIn_r _ [62, 56, 63, 64, 11, 65, 75, 76, 77, 78, 79, 80, 81, 82, 83, 84, 85, 86, 87, 88, 89, 90, 91, 92, 93, 94, 95, 96, 97, 98, 99, 100, 101, 102, 103, 104, 105, 106, 107, 108, 109] (by decide +kernel) (by decide +kernel)
set_option maxRecDepth 20000 in
theorem gX7_prepare_X7_quorum : GoodIn wsX7_prepare (wsV RX7 155 RX7 yX7_quorum wsX7_quorum) := goodIn_app (goodIn_of _ (by decide +kernel)) ggX7_prepare_X7_quorum
set_option maxRecDepth 20000 in
theorem ggX7_prepare_X7_writes : GoodIn wsX7_prepare wsX7_writes := goodIn_r _ [69, 7, 40, 45, 46, 47, 70, 39, 52, 53, 54, 11, 55, 56, 57, 58, 71, 72, 73, 74, 59, 60, 61, 62, 63, 64, 65, 75, 76, 77, 78, 79, 80, 81, 82, 83, 84, 85, 86, 87, 88, 89, 90, 91, 92, 93, 94, 95, 96, 97, 98, 99, 100, 101, 102, 103, 104, 105, 106, 107, 108, 109] (by decide +kernel) (by decide +kernel)
set_option maxRecDepth 20000 in
theorem gX7_prepare_X7_writes : GoodIn wsX7_prepare (wsV RX7 181 RX7 yX7_writes wsX7_writes) := goodIn_app (goodIn_of _ (by decide +kernel)) ggX7_prepare_X7_writes
theorem dX7_prepare_0 : decode cX7_prepare 0 = .ok (.aload_n 0, 1) := by decide +kernel
theorem dX7_prepare_1 : decode cX7_prepare 1 = .ok (.aload_n 0, 1) := by decide +kernel
theorem dX7_prepare_2 : decode cX7_prepare 2 = .ok (.iload_n 1, 1) := by decide +kernel
theorem dX7_prepare_3 : decode cX7_prepare 3 = .ok (.invokevirtual 194, 3) := by decide +kernel
theorem dX7_prepare_6 : decode cX7_prepare 6 = .ok (.ifCond .eq 21, 3) := by decide +kernel
theorem dX7_prepare_9 : decode cX7_prepare 9 = .ok (.iload_n 2, 1) := by decide +kernel
theorem dX7_prepare_10 : decode cX7_prepare 10 = .ok (.invokestatic 108, 3) := by decide +kernel
theorem dX7_prepare_13 : decode cX7_prepare 13 = .ok (.ifCond .eq 14, 3) := by decide +kernel
theorem dX7_prepare_16 : decode cX7_prepare 16 = .ok (.iload_n 3, 1) := by decide +kernel
theorem dX7_prepare_17 : decode cX7_prepare 17 = .ok (.invokestatic 136, 3) := by decide +kernel
theorem dX7_prepare_20 : decode cX7_prepare 20 = .ok (.ifCond .eq 7, 3) := by decide +kernel
theorem dX7_prepare_23 : decode cX7_prepare 23 = .ok (.iconst 1, 1) := by decide +kernel
theorem dX7_prepare_24 : decode cX7_prepare 24 = .ok (.goto 4, 3) := by decide +kernel
theorem dX7_prepare_27 : decode cX7_prepare 27 = .ok (.iconst 0, 1) := by decide +kernel
theorem dX7_prepare_28 : decode cX7_prepare 28 = .ok (.iconst 1, 1) := by decide +kernel
theorem dX7_prepare_29 : decode cX7_prepare 29 = .ok (.invokevirtual 118, 3) := by decide +kernel
theorem dX7_prepare_32 : decode cX7_prepare 32 = .ok (.ifCond .eq 5, 3) := by decide +kernel
theorem dX7_prepare_35 : decode cX7_prepare 35 = .ok (.iconst 0, 1) := by decide +kernel
theorem dX7_prepare_36 : decode cX7_prepare 36 = .ok (.ireturn, 1) := by decide +kernel
theorem dX7_prepare_37 : decode cX7_prepare 37 = .ok (.aload_n 0, 1) := by decide +kernel
theorem dX7_prepare_38 : decode cX7_prepare 38 = .ok (.iload_n 2, 1) := by decide +kernel
theorem dX7_prepare_39 : decode cX7_prepare 39 = .ok (.invokevirtual 191, 3) := by decide +kernel
theorem dX7_prepare_42 : decode cX7_prepare 42 = .ok (.ifCond .ne 41, 3) := by decide +kernel
theorem dX7_prepare_45 : decode cX7_prepare 45 = .ok (.aload_n 0, 1) := by decide +kernel
theorem dX7_prepare_46 : decode cX7_prepare 46 = .ok (.iload_n 2, 1) := by decide +kernel
theorem dX7_prepare_47 : decode cX7_prepare 47 = .ok (.invokevirtual 122, 3) := by decide +kernel
theorem dX7_prepare_50 : decode cX7_prepare 50 = .ok (.ifCond .ge 33, 3) := by decide +kernel
theorem dX7_prepare_53 : decode cX7_prepare 53 = .ok (.aload_n 0, 1) := by decide +kernel
theorem dX7_prepare_54 : decode cX7_prepare 54 = .ok (.getfield 87, 3) := by decide +kernel
theorem dX7_prepare_57 : decode cX7_prepare 57 = .ok (.iconst 2, 1) := by decide +kernel
theorem dX7_prepare_58 : decode cX7_prepare 58 = .ok (.iload_n 1, 1) := by decide +kernel
theorem dX7_prepare_59 : decode cX7_prepare 59 = .ok (.imul, 1) := by decide +kernel
theorem dX7_prepare_60 : decode cX7_prepare 60 = .ok (.iload_n 2, 1) := by decide +kernel
theorem dX7_prepare_61 : decode cX7_prepare 61 = .ok (.iadd, 1) := by decide +kernel
theorem dX7_prepare_62 : decode cX7_prepare 62 = .ok (.caload, 1) := by decide +kernel
theorem dX7_prepare_63 : decode cX7_prepare 63 = .ok (.bipush 45, 2) := by decide +kernel
theorem dX7_prepare_65 : decode cX7_prepare 65 = .ok (.if_icmp .ne 18, 3) := by decide +kernel
theorem dX7_prepare_68 : decode cX7_prepare 68 = .ok (.aload_n 0, 1) := by decide +kernel
theorem dX7_prepare_69 : decode cX7_prepare 69 = .ok (.getfield 84, 3) := by decide +kernel
theorem dX7_prepare_72 : decode cX7_prepare 72 = .ok (.iload_n 1, 1) := by decide +kernel
theorem dX7_prepare_73 : decode cX7_prepare 73 = .ok (.caload, 1) := by decide +kernel
theorem dX7_prepare_74 : decode cX7_prepare 74 = .ok (.bipush 45, 2) := by decide +kernel
theorem dX7_prepare_76 : decode cX7_prepare 76 = .ok (.if_icmp .ne 7, 3) := by decide +kernel
theorem dX7_prepare_79 : decode cX7_prepare 79 = .ok (.iconst 1, 1) := by decide +kernel
theorem dX7_prepare_80 : decode cX7_prepare 80 = .ok (.goto 4, 3) := by decide +kernel
theorem dX7_prepare_83 : decode cX7_prepare 83 = .ok (.iconst 0, 1) := by decide +kernel
theorem dX7_prepare_84 : decode cX7_prepare 84 = .ok (.istore 4, 2) := by decide +kernel
theorem dX7_prepare_86 : decode cX7_prepare 86 = .ok (.aload_n 0, 1) := by decide +kernel
theorem dX7_prepare_87 : decode cX7_prepare 87 = .ok (.getfield 78, 3) := by decide +kernel
theorem dX7_prepare_90 : decode cX7_prepare 90 = .ok (.iload_n 1, 1) := by decide +kernel
theorem dX7_prepare_91 : decode cX7_prepare 91 = .ok (.iaload, 1) := by decide +kernel
theorem dX7_prepare_92 : decode cX7_prepare 92 = .ok (.iload_n 2, 1) := by decide +kernel
theorem dX7_prepare_93 : decode cX7_prepare 93 = .ok (.if_icmp .ne 21, 3) := by decide +kernel
theorem dX7_prepare_96 : decode cX7_prepare 96 = .ok (.aload_n 0, 1) := by decide +kernel
theorem dX7_prepare_97 : decode cX7_prepare 97 = .ok (.getfield 165, 3) := by decide +kernel
theorem dX7_prepare_100 : decode cX7_prepare 100 = .ok (.aload_n 0, 1) := by decide +kernel
theorem dX7_prepare_101 : decode cX7_prepare 101 = .ok (.getfield 168, 3) := by decide +kernel
theorem dX7_prepare_104 : decode cX7_prepare 104 = .ok (.isub, 1) := by decide +kernel
theorem dX7_prepare_105 : decode cX7_prepare 105 = .ok (.aload_n 0, 1) := by decide +kernel
theorem dX7_prepare_106 : decode cX7_prepare 106 = .ok (.getfield 81, 3) := by decide +kernel
theorem dX7_prepare_109 : decode cX7_prepare 109 = .ok (.iload_n 1, 1) := by decide +kernel
theorem dX7_prepare_110 : decode cX7_prepare 110 = .ok (.iaload, 1) := by decide +kernel
theorem dX7_prepare_111 : decode cX7_prepare 111 = .ok (.if_icmp .lt 7, 3) := by decide +kernel
theorem dX7_prepare_114 : decode cX7_prepare 114 = .ok (.iconst 1, 1) := by decide +kernel
theorem dX7_prepare_115 : decode cX7_prepare 115 = .ok (.goto 4, 3) := by decide +kernel
theorem dX7_prepare_118 : decode cX7_prepare 118 = .ok (.iconst 0, 1) := by decide +kernel
theorem dX7_prepare_119 : decode cX7_prepare 119 = .ok (.istore 5, 2) := by decide +kernel
theorem dX7_prepare_121 : decode cX7_prepare 121 = .ok (.aload_n 0, 1) := by decide +kernel
theorem dX7_prepare_122 : decode cX7_prepare 122 = .ok (.iload 4, 2) := by decide +kernel
theorem dX7_prepare_124 : decode cX7_prepare 124 = .ok (.ifCond .eq 26, 3) := by decide +kernel
theorem dX7_prepare_127 : decode cX7_prepare 127 = .ok (.iload 5, 2) := by decide +kernel
theorem dX7_prepare_129 : decode cX7_prepare 129 = .ok (.ifCond .eq 21, 3) := by decide +kernel
theorem dX7_prepare_132 : decode cX7_prepare 132 = .ok (.aload_n 0, 1) := by decide +kernel
theorem dX7_prepare_133 : decode cX7_prepare 133 = .ok (.iload_n 2, 1) := by decide +kernel
theorem dX7_prepare_134 : decode cX7_prepare 134 = .ok (.aload_n 0, 1) := by decide +kernel
theorem dX7_prepare_135 : decode cX7_prepare 135 = .ok (.iload_n 2, 1) := by decide +kernel
theorem dX7_prepare_136 : decode cX7_prepare 136 = .ok (.iload_n 3, 1) := by decide +kernel
theorem dX7_prepare_137 : decode cX7_prepare 137 = .ok (.invokevirtual 145, 3) := by decide +kernel
theorem dX7_prepare_140 : decode cX7_prepare 140 = .ok (.invokevirtual 155, 3) := by decide +kernel
theorem dX7_prepare_143 : decode cX7_prepare 143 = .ok (.ifCond .eq 7, 3) := by decide +kernel
theorem dX7_prepare_146 : decode cX7_prepare 146 = .ok (.iconst 1, 1) := by decide +kernel
theorem dX7_prepare_147 : decode cX7_prepare 147 = .ok (.goto 4, 3) := by decide +kernel
theorem dX7_prepare_150 : decode cX7_prepare 150 = .ok (.iconst 0, 1) := by decide +kernel
theorem dX7_prepare_151 : decode cX7_prepare 151 = .ok (.iconst 2, 1) := by decide +kernel
theorem dX7_prepare_152 : decode cX7_prepare 152 = .ok (.invokevirtual 118, 3) := by decide +kernel
theorem dX7_prepare_155 : decode cX7_prepare 155 = .ok (.ifCond .ne 27, 3) := by decide +kernel
theorem dX7_prepare_158 : decode cX7_prepare 158 = .ok (.aload_n 0, 1) := by decide +kernel
theorem dX7_prepare_159 : decode cX7_prepare 159 = .ok (.aload_n 0, 1) := by decide +kernel
theorem dX7_prepare_160 : decode cX7_prepare 160 = .ok (.getfield 16, 3) := by decide +kernel
theorem dX7_prepare_163 : decode cX7_prepare 163 = .ok (.iload_n 2, 1) := by decide +kernel
theorem dX7_prepare_164 : decode cX7_prepare 164 = .ok (.iaload, 1) := by decide +kernel
theorem dX7_prepare_165 : decode cX7_prepare 165 = .ok (.bipush 60, 2) := by decide +kernel
theorem dX7_prepare_167 : decode cX7_prepare 167 = .ok (.if_icmp .ge 7, 3) := by decide +kernel
theorem dX7_prepare_170 : decode cX7_prepare 170 = .ok (.iconst 1, 1) := by decide +kernel
theorem dX7_prepare_171 : decode cX7_prepare 171 = .ok (.goto 4, 3) := by decide +kernel
theorem dX7_prepare_174 : decode cX7_prepare 174 = .ok (.iconst 0, 1) := by decide +kernel
theorem dX7_prepare_175 : decode cX7_prepare 175 = .ok (.iconst 3, 1) := by decide +kernel
theorem dX7_prepare_176 : decode cX7_prepare 176 = .ok (.invokevirtual 118, 3) := by decide +kernel
theorem dX7_prepare_179 : decode cX7_prepare 179 = .ok (.ifCond .eq 5, 3) := by decide +kernel
theorem dX7_prepare_182 : decode cX7_prepare 182 = .ok (.iconst 0, 1) := by decide +kernel
theorem dX7_prepare_183 : decode cX7_prepare 183 = .ok (.ireturn, 1) := by decide +kernel
theorem dX7_prepare_184 : decode cX7_prepare 184 = .ok (.aload_n 0, 1) := by decide +kernel
theorem dX7_prepare_185 : decode cX7_prepare 185 = .ok (.getfield 87, 3) := by decide +kernel
theorem dX7_prepare_188 : decode cX7_prepare 188 = .ok (.iconst 2, 1) := by decide +kernel
theorem dX7_prepare_189 : decode cX7_prepare 189 = .ok (.iload_n 1, 1) := by decide +kernel
theorem dX7_prepare_190 : decode cX7_prepare 190 = .ok (.imul, 1) := by decide +kernel
theorem dX7_prepare_191 : decode cX7_prepare 191 = .ok (.iload_n 2, 1) := by decide +kernel
theorem dX7_prepare_192 : decode cX7_prepare 192 = .ok (.iadd, 1) := by decide +kernel
theorem dX7_prepare_193 : decode cX7_prepare 193 = .ok (.bipush 112, 2) := by decide +kernel
theorem dX7_prepare_195 : decode cX7_prepare 195 = .ok (.castore, 1) := by decide +kernel
theorem dX7_prepare_196 : decode cX7_prepare 196 = .ok (.aload_n 0, 1) := by decide +kernel
theorem dX7_prepare_197 : decode cX7_prepare 197 = .ok (.iload_n 2, 1) := by decide +kernel
theorem dX7_prepare_198 : decode cX7_prepare 198 = .ok (.bipush 112, 2) := by decide +kernel
theorem dX7_prepare_200 : decode cX7_prepare 200 = .ok (.aload_n 0, 1) := by decide +kernel
theorem dX7_prepare_201 : decode cX7_prepare 201 = .ok (.getfield 81, 3) := by decide +kernel
theorem dX7_prepare_204 : decode cX7_prepare 204 = .ok (.iload_n 1, 1) := by decide +kernel
theorem dX7_prepare_205 : decode cX7_prepare 205 = .ok (.iaload, 1) := by decide +kernel
theorem dX7_prepare_206 : decode cX7_prepare 206 = .ok (.iload_n 3, 1) := by decide +kernel
theorem dX7_prepare_207 : decode cX7_prepare 207 = .ok (.iload_n 1, 1) := by decide +kernel
theorem dX7_prepare_208 : decode cX7_prepare 208 = .ok (.invokevirtual 181, 3) := by decide +kernel
theorem dX7_prepare_211 : decode cX7_prepare 211 = .ok (.ireturn, 1) := by decide +kernel
set_option maxRecDepth 20000 in
theorem ggX7_decide_X7_isTruce : GoodIn wsX7_decide wsX7_isTruce := goodIn_r _ [7, 8, 9, 10, 6, 11, 17, 18, 19, 20, 21, 22, 23, 24, 25, 26, 27, 28, 29, 30, 31, 32, 33, 34, 35, 36, 37, 38, 39, 40, 41, 42, 43, 44, 45, 46, 47, 48, 49, 50, 51] (by decide +kernel) (by decide +kernel)
set_option maxRecDepth 20000 in
theorem gX7_decide_X7_isTruce : GoodIn wsX7_decide (wsV RX7 194 RX7 yX7_isTruce wsX7_isTruce) := goodIn_app (goodIn_of _ (by decide +kernel)) ggX7_decide_X7_isTruce
set_option maxRecDepth 20000 in
theorem ggX7_decide_X7_no : GoodIn wsX7_decide wsX7_no := goodIn_r _ [15, 16, 17, 18, 19, 20, 21, 22, 23, 24, 25, 26, 27, 28, 29, 30, 31, 32, 33, 34, 35, 36, 37, 38, 39, 40, 41, 42, 43, 44, 45, 46, 47, 48, 49, 50, 51] (by decide +kernel) (by decide +kernel)
set_option maxRecDepth 20000 in
theorem gX7_decide_X7_no : GoodIn wsX7_decide (wsV RX7 118 RX7 yX7_no wsX7_no) := goodIn_app (goodIn_of _ (by decide +kernel)) ggX7_decide_X7_no
theorem dX7_decide_0 : decode cX7_decide 0 = .ok (.aload_n 0, 1) := by decide +kernel
theorem dX7_decide_1 : decode cX7_decide 1 = .ok (.aload_n 0, 1) := by decide +kernel
theorem dX7_decide_2 : decode cX7_decide 2 = .ok (.iload_n 1, 1) := by decide +kernel
theorem dX7_decide_3 : decode cX7_decide 3 = .ok (.invokevirtual 194, 3) := by decide +kernel
theorem dX7_decide_6 : decode cX7_decide 6 = .ok (.iconst 1, 1) := by decide +kernel
theorem dX7_decide_7 : decode cX7_decide 7 = .ok (.invokevirtual 118, 3) := by decide +kernel
theorem dX7_decide_10 : decode cX7_decide 10 = .ok (.ifCond .eq 5, 3) := by decide +kernel
theorem dX7_decide_13 : decode cX7_decide 13 = .ok (.iconst 0, 1) := by decide +kernel
theorem dX7_decide_14 : decode cX7_decide 14 = .ok (.ireturn, 1) := by decide +kernel
theorem dX7_decide_15 : decode cX7_decide 15 = .ok (.aload_n 0, 1) := by decide +kernel
theorem dX7_decide_16 : decode cX7_decide 16 = .ok (.getfield 87, 3) := by decide +kernel
theorem dX7_decide_19 : decode cX7_decide 19 = .ok (.iconst 2, 1) := by decide +kernel
theorem dX7_decide_20 : decode cX7_decide 20 = .ok (.iload_n 1, 1) := by decide +kernel
theorem dX7_decide_21 : decode cX7_decide 21 = .ok (.imul, 1) := by decide +kernel
theorem dX7_decide_22 : decode cX7_decide 22 = .ok (.caload, 1) := by decide +kernel
theorem dX7_decide_23 : decode cX7_decide 23 = .ok (.bipush 112, 2) := by decide +kernel
theorem dX7_decide_25 : decode cX7_decide 25 = .ok (.if_icmp .ne 7, 3) := by decide +kernel
theorem dX7_decide_28 : decode cX7_decide 28 = .ok (.iconst 1, 1) := by decide +kernel
theorem dX7_decide_29 : decode cX7_decide 29 = .ok (.goto 4, 3) := by decide +kernel
theorem dX7_decide_32 : decode cX7_decide 32 = .ok (.iconst 0, 1) := by decide +kernel
theorem dX7_decide_33 : decode cX7_decide 33 = .ok (.aload_n 0, 1) := by decide +kernel
theorem dX7_decide_34 : decode cX7_decide 34 = .ok (.getfield 87, 3) := by decide +kernel
theorem dX7_decide_37 : decode cX7_decide 37 = .ok (.iconst 2, 1) := by decide +kernel
theorem dX7_decide_38 : decode cX7_decide 38 = .ok (.iload_n 1, 1) := by decide +kernel
theorem dX7_decide_39 : decode cX7_decide 39 = .ok (.imul, 1) := by decide +kernel
theorem dX7_decide_40 : decode cX7_decide 40 = .ok (.iconst 1, 1) := by decide +kernel
theorem dX7_decide_41 : decode cX7_decide 41 = .ok (.iadd, 1) := by decide +kernel
theorem dX7_decide_42 : decode cX7_decide 42 = .ok (.caload, 1) := by decide +kernel
theorem dX7_decide_43 : decode cX7_decide 43 = .ok (.bipush 112, 2) := by decide +kernel
theorem dX7_decide_45 : decode cX7_decide 45 = .ok (.if_icmp .ne 7, 3) := by decide +kernel
theorem dX7_decide_48 : decode cX7_decide 48 = .ok (.iconst 1, 1) := by decide +kernel
theorem dX7_decide_49 : decode cX7_decide 49 = .ok (.goto 4, 3) := by decide +kernel
theorem dX7_decide_52 : decode cX7_decide 52 = .ok (.iconst 0, 1) := by decide +kernel
theorem dX7_decide_53 : decode cX7_decide 53 = .ok (.iadd, 1) := by decide +kernel
theorem dX7_decide_54 : decode cX7_decide 54 = .ok (.istore_n 3, 1) := by decide +kernel
theorem dX7_decide_55 : decode cX7_decide 55 = .ok (.aload_n 0, 1) := by decide +kernel
theorem dX7_decide_56 : decode cX7_decide 56 = .ok (.aload_n 0, 1) := by decide +kernel
theorem dX7_decide_57 : decode cX7_decide 57 = .ok (.getfield 84, 3) := by decide +kernel
theorem dX7_decide_60 : decode cX7_decide 60 = .ok (.iload_n 1, 1) := by decide +kernel
theorem dX7_decide_61 : decode cX7_decide 61 = .ok (.caload, 1) := by decide +kernel
theorem dX7_decide_62 : decode cX7_decide 62 = .ok (.bipush 45, 2) := by decide +kernel
theorem dX7_decide_64 : decode cX7_decide 64 = .ok (.if_icmp .ne 16, 3) := by decide +kernel
theorem dX7_decide_67 : decode cX7_decide 67 = .ok (.iload_n 2, 1) := by decide +kernel
theorem dX7_decide_68 : decode cX7_decide 68 = .ok (.ifCond .eq 8, 3) := by decide +kernel
theorem dX7_decide_71 : decode cX7_decide 71 = .ok (.iload_n 3, 1) := by decide +kernel
theorem dX7_decide_72 : decode cX7_decide 72 = .ok (.iconst 2, 1) := by decide +kernel
theorem dX7_decide_73 : decode cX7_decide 73 = .ok (.if_icmp .ne 7, 3) := by decide +kernel
theorem dX7_decide_76 : decode cX7_decide 76 = .ok (.iconst 1, 1) := by decide +kernel
theorem dX7_decide_77 : decode cX7_decide 77 = .ok (.goto 4, 3) := by decide +kernel
theorem dX7_decide_80 : decode cX7_decide 80 = .ok (.iconst 0, 1) := by decide +kernel
theorem dX7_decide_81 : decode cX7_decide 81 = .ok (.iconst 2, 1) := by decide +kernel
theorem dX7_decide_82 : decode cX7_decide 82 = .ok (.invokevirtual 118, 3) := by decide +kernel
theorem dX7_decide_85 : decode cX7_decide 85 = .ok (.ifCond .eq 5, 3) := by decide +kernel
theorem dX7_decide_88 : decode cX7_decide 88 = .ok (.iconst 0, 1) := by decide +kernel
theorem dX7_decide_89 : decode cX7_decide 89 = .ok (.ireturn, 1) := by decide +kernel
theorem dX7_decide_90 : decode cX7_decide 90 = .ok (.aload_n 0, 1) := by decide +kernel
theorem dX7_decide_91 : decode cX7_decide 91 = .ok (.getfield 84, 3) := by decide +kernel
theorem dX7_decide_94 : decode cX7_decide 94 = .ok (.iload_n 1, 1) := by decide +kernel
theorem dX7_decide_95 : decode cX7_decide 95 = .ok (.iload_n 2, 1) := by decide +kernel
theorem dX7_decide_96 : decode cX7_decide 96 = .ok (.ifCond .eq 8, 3) := by decide +kernel
theorem dX7_decide_99 : decode cX7_decide 99 = .ok (.bipush 100, 2) := by decide +kernel
theorem dX7_decide_101 : decode cX7_decide 101 = .ok (.goto 5, 3) := by decide +kernel
theorem dX7_decide_104 : decode cX7_decide 104 = .ok (.bipush 97, 2) := by decide +kernel
theorem dX7_decide_106 : decode cX7_decide 106 = .ok (.castore, 1) := by decide +kernel
theorem dX7_decide_107 : decode cX7_decide 107 = .ok (.iload_n 3, 1) := by decide +kernel
theorem dX7_decide_108 : decode cX7_decide 108 = .ok (.ireturn, 1) := by decide +kernel
set_option maxRecDepth 20000 in
theorem ggX7_settle_X7_isCastle : GoodIn wsX7_settle wsX7_isCastle := goodIn_r _ [8] (by decide +kernel) (by decide +kernel)
set_option maxRecDepth 20000 in
theorem gX7_settle_X7_isCastle : GoodIn wsX7_settle (va_wsS RX7 108 yX7_isCastle wsX7_isCastle) := goodIn_app (goodIn_of _ (by decide +kernel)) ggX7_settle_X7_isCastle
set_option maxRecDepth 20000 in
theorem ggX7_settle_X7_no : GoodIn wsX7_settle wsX7_no := goodIn_r _ [12, 13, 65, 66, 67, 68, 69, 70, 71, 72, 73, 74, 75, 76, 77, 78, 79, 80, 81, 82, 83, 84, 85, 86, 87, 88, 89, 90, 91, 92, 93, 94, 95, 96, 97, 98, 99] (by decide +kernel) (by decide +kernel)
set_option maxRecDepth 20000 in
theorem gX7_settle_X7_no : GoodIn wsX7_settle (wsV RX7 118 RX7 yX7_no wsX7_no) := goodIn_app (goodIn_of _ (by decide +kernel)) ggX7_settle_X7_no
set_option maxRecDepth 20000 in
theorem ggX7_settle_X7_prepared : GoodIn wsX7_settle wsX7_prepared := goodIn_r _ [17, 18, 3, 65, 66, 67, 68, 69, 70, 71, 72, 73, 74, 75, 76, 77, 78, 79, 80, 81, 82, 83, 84, 85, 86, 87, 88, 89, 90, 91, 92, 93, 94, 95, 96, 97, 98, 99] (by decide +kernel) (by decide +kernel)
set_option maxRecDepth 20000 in
theorem gX7_settle_X7_prepared : GoodIn wsX7_settle (wsV RX7 122 RX7 yX7_prepared wsX7_prepared) := goodIn_app (goodIn_of _ (by decide +kernel)) ggX7_settle_X7_prepared
set_option maxRecDepth 20000 in
theorem ggX7_settle_X7_hangs : GoodIn wsX7_settle wsX7_hangs := goodIn_r _ [22, 23, 2, 24, 25, 26, 7, 27, 28, 29, 30, 31, 32, 33, 34, 35, 36, 37, 38, 39, 40, 41, 65, 66, 67, 68, 69, 70, 71, 72, 73, 74, 75, 76, 77, 78, 79, 80, 81, 82, 83, 84, 85, 86, 87, 88, 89, 90, 91, 92, 93, 94, 95, 96, 97, 98, 99] (by decide +kernel) (by decide +kernel)
set_option maxRecDepth 20000 in
theorem gX7_settle_X7_hangs : GoodIn wsX7_settle (wsV RX7 191 RX7 yX7_hangs wsX7_hangs) := goodIn_app (goodIn_of _ (by decide +kernel)) ggX7_settle_X7_hangs
set_option maxRecDepth 20000 in
theorem ggX7_settle_X7_reach : GoodIn wsX7_settle wsX7_reach := goodIn_r _ [45, 46, 47, 48, 65, 66, 67, 68, 69, 70, 71, 72, 73, 74, 75, 76, 77, 78, 79, 80, 81, 82, 83, 84, 85, 86, 87, 88, 89, 90, 91, 92, 93, 94, 95, 96, 97, 98, 99] (by decide +kernel) (by decide +kernel)
set_option maxRecDepth 20000 in
theorem gX7_settle_X7_reach : GoodIn wsX7_settle (wsV RX7 145 RX7 yX7_reach wsX7_reach) := goodIn_app (goodIn_of _ (by decide +kernel)) ggX7_settle_X7_reach
set_option maxRecDepth 20000 in
theorem ggX7_settle_X7_quorum : GoodIn wsX7_settle wsX7_quorum := goodIn_r _ [52, 46, 53, 54, 7, 55, 65, 66, 67, 68, 69, 70, 71, 72, 73, 74, 75, 76, 77, 78, 79, 80, 81, 82, 83, 84, 85, 86, 87, 88, 89, 90, 91, 92, 93, 94, 95, 96, 97, 98, 99] (by decide +kernel) (by decide +kernel)
set_option maxRecDepth 20000 in
theorem gX7_settle_X7_quorum : GoodIn wsX7_settle (wsV RX7 155 RX7 yX7_quorum wsX7_quorum) := goodIn_app (goodIn_of _ (by decide +kernel)) ggX7_settle_X7_quorum
set_option maxRecDepth 20000 in
theorem ggX7_settle_X7_writes : GoodIn wsX7_settle wsX7_writes := goodIn_r _ [59, 2, 33, 38, 39, 41, 60, 32, 42, 43, 44, 7, 45, 46, 47, 48, 61, 62, 63, 64, 49, 50, 51, 52, 53, 54, 55, 65, 66, 67, 68, 69, 70, 71, 72, 73, 74, 75, 76, 77, 78, 79, 80, 81, 82, 83, 84, 85, 86, 87, 88, 89, 90, 91, 92, 93, 94, 95, 96, 97, 98, 99] (by decide +kernel) (by decide +kernel)
set_option maxRecDepth 20000 in
theorem gX7_settle_X7_writes : GoodIn wsX7_settle (wsV RX7 181 RX7 yX7_writes wsX7_writes) := goodIn_app (goodIn_of _ (by decide +kernel)) ggX7_settle_X7_writes
theorem dX7_settle_0 : decode cX7_settle 0 = .ok (.aload_n 0, 1) := by decide +kernel
theorem dX7_settle_1 : decode cX7_settle 1 = .ok (.iload_n 1, 1) := by decide +kernel
theorem dX7_settle_2 : decode cX7_settle 2 = .ok (.invokestatic 108, 3) := by decide +kernel
theorem dX7_settle_5 : decode cX7_settle 5 = .ok (.iconst 1, 1) := by decide +kernel
theorem dX7_settle_6 : decode cX7_settle 6 = .ok (.invokevirtual 118, 3) := by decide +kernel
theorem dX7_settle_9 : decode cX7_settle 9 = .ok (.ifCond .eq 5, 3) := by decide +kernel
theorem dX7_settle_12 : decode cX7_settle 12 = .ok (.iconst 0, 1) := by decide +kernel
theorem dX7_settle_13 : decode cX7_settle 13 = .ok (.ireturn, 1) := by decide +kernel
theorem dX7_settle_14 : decode cX7_settle 14 = .ok (.aload_n 0, 1) := by decide +kernel
theorem dX7_settle_15 : decode cX7_settle 15 = .ok (.iload_n 1, 1) := by decide +kernel
theorem dX7_settle_16 : decode cX7_settle 16 = .ok (.invokevirtual 122, 3) := by decide +kernel
theorem dX7_settle_19 : decode cX7_settle 19 = .ok (.istore_n 2, 1) := by decide +kernel
theorem dX7_settle_20 : decode cX7_settle 20 = .ok (.iload_n 2, 1) := by decide +kernel
theorem dX7_settle_21 : decode cX7_settle 21 = .ok (.ifCond .lt 29, 3) := by decide +kernel
theorem dX7_settle_24 : decode cX7_settle 24 = .ok (.aload_n 0, 1) := by decide +kernel
theorem dX7_settle_25 : decode cX7_settle 25 = .ok (.iload_n 1, 1) := by decide +kernel
theorem dX7_settle_26 : decode cX7_settle 26 = .ok (.invokevirtual 191, 3) := by decide +kernel
theorem dX7_settle_29 : decode cX7_settle 29 = .ok (.ifCond .ne 21, 3) := by decide +kernel
theorem dX7_settle_32 : decode cX7_settle 32 = .ok (.aload_n 0, 1) := by decide +kernel
theorem dX7_settle_33 : decode cX7_settle 33 = .ok (.iload_n 1, 1) := by decide +kernel
theorem dX7_settle_34 : decode cX7_settle 34 = .ok (.aload_n 0, 1) := by decide +kernel
theorem dX7_settle_35 : decode cX7_settle 35 = .ok (.iload_n 1, 1) := by decide +kernel
theorem dX7_settle_36 : decode cX7_settle 36 = .ok (.iconst (-1), 1) := by decide +kernel
theorem dX7_settle_37 : decode cX7_settle 37 = .ok (.invokevirtual 145, 3) := by decide +kernel
theorem dX7_settle_40 : decode cX7_settle 40 = .ok (.invokevirtual 155, 3) := by decide +kernel
theorem dX7_settle_43 : decode cX7_settle 43 = .ok (.ifCond .eq 7, 3) := by decide +kernel
theorem dX7_settle_46 : decode cX7_settle 46 = .ok (.iconst 1, 1) := by decide +kernel
theorem dX7_settle_47 : decode cX7_settle 47 = .ok (.goto 4, 3) := by decide +kernel
theorem dX7_settle_50 : decode cX7_settle 50 = .ok (.iconst 0, 1) := by decide +kernel
theorem dX7_settle_51 : decode cX7_settle 51 = .ok (.istore_n 3, 1) := by decide +kernel
theorem dX7_settle_52 : decode cX7_settle 52 = .ok (.aload_n 0, 1) := by decide +kernel
theorem dX7_settle_53 : decode cX7_settle 53 = .ok (.iload_n 3, 1) := by decide +kernel
theorem dX7_settle_54 : decode cX7_settle 54 = .ok (.ifCond .eq 18, 3) := by decide +kernel
theorem dX7_settle_57 : decode cX7_settle 57 = .ok (.aload_n 0, 1) := by decide +kernel
theorem dX7_settle_58 : decode cX7_settle 58 = .ok (.getfield 84, 3) := by decide +kernel
theorem dX7_settle_61 : decode cX7_settle 61 = .ok (.iload_n 2, 1) := by decide +kernel
theorem dX7_settle_62 : decode cX7_settle 62 = .ok (.caload, 1) := by decide +kernel
theorem dX7_settle_63 : decode cX7_settle 63 = .ok (.bipush 45, 2) := by decide +kernel
theorem dX7_settle_65 : decode cX7_settle 65 = .ok (.if_icmp .eq 7, 3) := by decide +kernel
theorem dX7_settle_68 : decode cX7_settle 68 = .ok (.iconst 1, 1) := by decide +kernel
theorem dX7_settle_69 : decode cX7_settle 69 = .ok (.goto 4, 3) := by decide +kernel
theorem dX7_settle_72 : decode cX7_settle 72 = .ok (.iconst 0, 1) := by decide +kernel
theorem dX7_settle_73 : decode cX7_settle 73 = .ok (.iconst 2, 1) := by decide +kernel
theorem dX7_settle_74 : decode cX7_settle 74 = .ok (.invokevirtual 118, 3) := by decide +kernel
theorem dX7_settle_77 : decode cX7_settle 77 = .ok (.ifCond .ne 27, 3) := by decide +kernel
theorem dX7_settle_80 : decode cX7_settle 80 = .ok (.aload_n 0, 1) := by decide +kernel
theorem dX7_settle_81 : decode cX7_settle 81 = .ok (.aload_n 0, 1) := by decide +kernel
theorem dX7_settle_82 : decode cX7_settle 82 = .ok (.getfield 16, 3) := by decide +kernel
theorem dX7_settle_85 : decode cX7_settle 85 = .ok (.iload_n 1, 1) := by decide +kernel
theorem dX7_settle_86 : decode cX7_settle 86 = .ok (.iaload, 1) := by decide +kernel
theorem dX7_settle_87 : decode cX7_settle 87 = .ok (.bipush 60, 2) := by decide +kernel
theorem dX7_settle_89 : decode cX7_settle 89 = .ok (.if_icmp .ge 7, 3) := by decide +kernel
theorem dX7_settle_92 : decode cX7_settle 92 = .ok (.iconst 1, 1) := by decide +kernel
theorem dX7_settle_93 : decode cX7_settle 93 = .ok (.goto 4, 3) := by decide +kernel
theorem dX7_settle_96 : decode cX7_settle 96 = .ok (.iconst 0, 1) := by decide +kernel
theorem dX7_settle_97 : decode cX7_settle 97 = .ok (.iconst 3, 1) := by decide +kernel
theorem dX7_settle_98 : decode cX7_settle 98 = .ok (.invokevirtual 118, 3) := by decide +kernel
theorem dX7_settle_101 : decode cX7_settle 101 = .ok (.ifCond .eq 5, 3) := by decide +kernel
theorem dX7_settle_104 : decode cX7_settle 104 = .ok (.iconst 0, 1) := by decide +kernel
theorem dX7_settle_105 : decode cX7_settle 105 = .ok (.ireturn, 1) := by decide +kernel
theorem dX7_settle_106 : decode cX7_settle 106 = .ok (.aload_n 0, 1) := by decide +kernel
theorem dX7_settle_107 : decode cX7_settle 107 = .ok (.getfield 87, 3) := by decide +kernel
theorem dX7_settle_110 : decode cX7_settle 110 = .ok (.iconst 2, 1) := by decide +kernel
theorem dX7_settle_111 : decode cX7_settle 111 = .ok (.iload_n 2, 1) := by decide +kernel
theorem dX7_settle_112 : decode cX7_settle 112 = .ok (.imul, 1) := by decide +kernel
theorem dX7_settle_113 : decode cX7_settle 113 = .ok (.iload_n 1, 1) := by decide +kernel
theorem dX7_settle_114 : decode cX7_settle 114 = .ok (.iadd, 1) := by decide +kernel
theorem dX7_settle_115 : decode cX7_settle 115 = .ok (.aload_n 0, 1) := by decide +kernel
theorem dX7_settle_116 : decode cX7_settle 116 = .ok (.getfield 84, 3) := by decide +kernel
theorem dX7_settle_119 : decode cX7_settle 119 = .ok (.iload_n 2, 1) := by decide +kernel
theorem dX7_settle_120 : decode cX7_settle 120 = .ok (.caload, 1) := by decide +kernel
theorem dX7_settle_121 : decode cX7_settle 121 = .ok (.castore, 1) := by decide +kernel
theorem dX7_settle_122 : decode cX7_settle 122 = .ok (.aload_n 0, 1) := by decide +kernel
theorem dX7_settle_123 : decode cX7_settle 123 = .ok (.iload_n 1, 1) := by decide +kernel
theorem dX7_settle_124 : decode cX7_settle 124 = .ok (.aload_n 0, 1) := by decide +kernel
theorem dX7_settle_125 : decode cX7_settle 125 = .ok (.getfield 84, 3) := by decide +kernel
theorem dX7_settle_128 : decode cX7_settle 128 = .ok (.iload_n 2, 1) := by decide +kernel
theorem dX7_settle_129 : decode cX7_settle 129 = .ok (.caload, 1) := by decide +kernel
theorem dX7_settle_130 : decode cX7_settle 130 = .ok (.aload_n 0, 1) := by decide +kernel
theorem dX7_settle_131 : decode cX7_settle 131 = .ok (.getfield 81, 3) := by decide +kernel
theorem dX7_settle_134 : decode cX7_settle 134 = .ok (.iload_n 2, 1) := by decide +kernel
theorem dX7_settle_135 : decode cX7_settle 135 = .ok (.iaload, 1) := by decide +kernel
theorem dX7_settle_136 : decode cX7_settle 136 = .ok (.iconst (-1), 1) := by decide +kernel
theorem dX7_settle_137 : decode cX7_settle 137 = .ok (.iload_n 2, 1) := by decide +kernel
theorem dX7_settle_138 : decode cX7_settle 138 = .ok (.invokevirtual 181, 3) := by decide +kernel
theorem dX7_settle_141 : decode cX7_settle 141 = .ok (.istore 4, 2) := by decide +kernel
theorem dX7_settle_143 : decode cX7_settle 143 = .ok (.iload_n 2, 1) := by decide +kernel
theorem dX7_settle_144 : decode cX7_settle 144 = .ok (.ireturn, 1) := by decide +kernel
set_option maxRecDepth 20000 in
theorem ggX7_truceOf_X7_isTruce : GoodIn wsX7_truceOf wsX7_isTruce := goodIn_r _ [6, 7, 8, 9, 5, 10, 19, 20, 21, 22, 23, 24, 25, 26, 27, 28, 29, 30, 31, 32, 33, 34, 35, 36, 37, 38, 39, 40, 41, 42, 43, 44, 45, 46, 47, 48, 49, 50, 51, 52, 53] (by decide +kernel) (by decide +kernel)
set_option maxRecDepth 20000 in
theorem gX7_truceOf_X7_isTruce : GoodIn wsX7_truceOf (wsV RX7 194 RX7 yX7_isTruce wsX7_isTruce) := goodIn_app (goodIn_of _ (by decide +kernel)) ggX7_truceOf_X7_isTruce
set_option maxRecDepth 20000 in
theorem ggX7_truceOf_X7_isCastle : GoodIn wsX7_truceOf wsX7_isCastle := goodIn_r _ [13] (by decide +kernel) (by decide +kernel)
set_option maxRecDepth 20000 in
theorem gX7_truceOf_X7_isCastle : GoodIn wsX7_truceOf (va_wsS RX7 108 yX7_isCastle wsX7_isCastle) := goodIn_app (goodIn_of _ (by decide +kernel)) ggX7_truceOf_X7_isCastle
set_option maxRecDepth 20000 in
theorem ggX7_truceOf_X7_no : GoodIn wsX7_truceOf wsX7_no := goodIn_r _ [17, 18, 19, 20, 21, 22, 23, 24, 25, 26, 27, 28, 29, 30, 31, 32, 33, 34, 35, 36, 37, 38, 39, 40, 41, 42, 43, 44, 45, 46, 47, 48, 49, 50, 51, 52, 53] (by decide +kernel) (by decide +kernel)
set_option maxRecDepth 20000 in
theorem gX7_truceOf_X7_no : GoodIn wsX7_truceOf (wsV RX7 118 RX7 yX7_no wsX7_no) := goodIn_app (goodIn_of _ (by decide +kernel)) ggX7_truceOf_X7_no
theorem dX7_truceOf_0 : decode cX7_truceOf 0 = .ok (.aload_n 0, 1) := by decide +kernel
theorem dX7_truceOf_1 : decode cX7_truceOf 1 = .ok (.aload_n 0, 1) := by decide +kernel
theorem dX7_truceOf_2 : decode cX7_truceOf 2 = .ok (.iload_n 1, 1) := by decide +kernel
theorem dX7_truceOf_3 : decode cX7_truceOf 3 = .ok (.invokevirtual 194, 3) := by decide +kernel
theorem dX7_truceOf_6 : decode cX7_truceOf 6 = .ok (.ifCond .eq 14, 3) := by decide +kernel
theorem dX7_truceOf_9 : decode cX7_truceOf 9 = .ok (.iload_n 2, 1) := by decide +kernel
theorem dX7_truceOf_10 : decode cX7_truceOf 10 = .ok (.invokestatic 108, 3) := by decide +kernel
theorem dX7_truceOf_13 : decode cX7_truceOf 13 = .ok (.ifCond .eq 7, 3) := by decide +kernel
theorem dX7_truceOf_16 : decode cX7_truceOf 16 = .ok (.iconst 1, 1) := by decide +kernel
theorem dX7_truceOf_17 : decode cX7_truceOf 17 = .ok (.goto 4, 3) := by decide +kernel
theorem dX7_truceOf_20 : decode cX7_truceOf 20 = .ok (.iconst 0, 1) := by decide +kernel
theorem dX7_truceOf_21 : decode cX7_truceOf 21 = .ok (.iconst 1, 1) := by decide +kernel
theorem dX7_truceOf_22 : decode cX7_truceOf 22 = .ok (.invokevirtual 118, 3) := by decide +kernel
theorem dX7_truceOf_25 : decode cX7_truceOf 25 = .ok (.ifCond .eq 8, 3) := by decide +kernel
theorem dX7_truceOf_28 : decode cX7_truceOf 28 = .ok (.bipush 63, 2) := by decide +kernel
theorem dX7_truceOf_30 : decode cX7_truceOf 30 = .ok (.goto 13, 3) := by decide +kernel
theorem dX7_truceOf_33 : decode cX7_truceOf 33 = .ok (.aload_n 0, 1) := by decide +kernel
theorem dX7_truceOf_34 : decode cX7_truceOf 34 = .ok (.getfield 87, 3) := by decide +kernel
theorem dX7_truceOf_37 : decode cX7_truceOf 37 = .ok (.iconst 2, 1) := by decide +kernel
theorem dX7_truceOf_38 : decode cX7_truceOf 38 = .ok (.iload_n 1, 1) := by decide +kernel
theorem dX7_truceOf_39 : decode cX7_truceOf 39 = .ok (.imul, 1) := by decide +kernel
theorem dX7_truceOf_40 : decode cX7_truceOf 40 = .ok (.iload_n 2, 1) := by decide +kernel
theorem dX7_truceOf_41 : decode cX7_truceOf 41 = .ok (.iadd, 1) := by decide +kernel
theorem dX7_truceOf_42 : decode cX7_truceOf 42 = .ok (.caload, 1) := by decide +kernel
theorem dX7_truceOf_43 : decode cX7_truceOf 43 = .ok (.ireturn, 1) := by decide +kernel
theorem dX7_time_0 : decode cX7_time 0 = .ok (.aload_n 0, 1) := by decide +kernel
theorem dX7_time_1 : decode cX7_time 1 = .ok (.getfield 126, 3) := by decide +kernel
theorem dX7_time_4 : decode cX7_time 4 = .ok (.ireturn, 1) := by decide +kernel
set_option maxRecDepth 20000 in
theorem ggX7_checksum_X7_sums : GoodIn wsX7_checksum wsX7_sums := goodIn_r _ [9, 10, 3, 11, 12, 4, 13, 14, 15, 16, 17, 18, 8, 19, 20, 21, 22, 23, 24, 25, 26, 27, 28, 29, 30, 31, 32, 33, 34, 35, 36, 37, 38, 39, 40, 41, 42, 43, 44, 45, 46, 47, 48, 49, 50, 51, 52, 53, 54, 55, 56, 57, 58] (by decide +kernel) (by decide +kernel)
set_option maxRecDepth 20000 in
theorem gX7_checksum_X7_sums : GoodIn wsX7_checksum (wsV RX7 178 RX7 yX7_sums wsX7_sums) := goodIn_app (goodIn_of _ (by decide +kernel)) ggX7_checksum_X7_sums
theorem dX7_checksum_0 : decode cX7_checksum 0 = .ok (.ldc2_w 197, 3) := by decide +kernel
theorem dX7_checksum_3 : decode cX7_checksum 3 = .ok (.lstore_n 1, 1) := by decide +kernel
theorem dX7_checksum_4 : decode cX7_checksum 4 = .ok (.iconst 0, 1) := by decide +kernel
theorem dX7_checksum_5 : decode cX7_checksum 5 = .ok (.istore_n 3, 1) := by decide +kernel
theorem dX7_checksum_6 : decode cX7_checksum 6 = .ok (.iload_n 3, 1) := by decide +kernel
theorem dX7_checksum_7 : decode cX7_checksum 7 = .ok (.iconst 2, 1) := by decide +kernel
theorem dX7_checksum_8 : decode cX7_checksum 8 = .ok (.if_icmp .ge 56, 3) := by decide +kernel
theorem dX7_checksum_11 : decode cX7_checksum 11 = .ok (.aload_n 0, 1) := by decide +kernel
theorem dX7_checksum_12 : decode cX7_checksum 12 = .ok (.iload_n 3, 1) := by decide +kernel
theorem dX7_checksum_13 : decode cX7_checksum 13 = .ok (.invokevirtual 178, 3) := by decide +kernel
theorem dX7_checksum_16 : decode cX7_checksum 16 = .ok (.ldc2_w 199, 3) := by decide +kernel
theorem dX7_checksum_19 : decode cX7_checksum 19 = .ok (.lload_n 1, 1) := by decide +kernel
theorem dX7_checksum_20 : decode cX7_checksum 20 = .ok (.lmul, 1) := by decide +kernel
theorem dX7_checksum_21 : decode cX7_checksum 21 = .ok (.aload_n 0, 1) := by decide +kernel
theorem dX7_checksum_22 : decode cX7_checksum 22 = .ok (.getfield 165, 3) := by decide +kernel
theorem dX7_checksum_25 : decode cX7_checksum 25 = .ok (.i2l, 1) := by decide +kernel
theorem dX7_checksum_26 : decode cX7_checksum 26 = .ok (.ladd, 1) := by decide +kernel
theorem dX7_checksum_27 : decode cX7_checksum 27 = .ok (.lstore_n 1, 1) := by decide +kernel
theorem dX7_checksum_28 : decode cX7_checksum 28 = .ok (.iconst 0, 1) := by decide +kernel
theorem dX7_checksum_29 : decode cX7_checksum 29 = .ok (.istore 4, 2) := by decide +kernel
theorem dX7_checksum_31 : decode cX7_checksum 31 = .ok (.iload 4, 2) := by decide +kernel
theorem dX7_checksum_33 : decode cX7_checksum 33 = .ok (.iconst 4, 1) := by decide +kernel
theorem dX7_checksum_34 : decode cX7_checksum 34 = .ok (.if_icmp .ge 24, 3) := by decide +kernel
theorem dX7_checksum_37 : decode cX7_checksum 37 = .ok (.ldc2_w 199, 3) := by decide +kernel
theorem dX7_checksum_40 : decode cX7_checksum 40 = .ok (.lload_n 1, 1) := by decide +kernel
theorem dX7_checksum_41 : decode cX7_checksum 41 = .ok (.lmul, 1) := by decide +kernel
theorem dX7_checksum_42 : decode cX7_checksum 42 = .ok (.aload_n 0, 1) := by decide +kernel
theorem dX7_checksum_43 : decode cX7_checksum 43 = .ok (.getfield 93, 3) := by decide +kernel
theorem dX7_checksum_46 : decode cX7_checksum 46 = .ok (.iload 4, 2) := by decide +kernel
theorem dX7_checksum_48 : decode cX7_checksum 48 = .ok (.iaload, 1) := by decide +kernel
theorem dX7_checksum_49 : decode cX7_checksum 49 = .ok (.i2l, 1) := by decide +kernel
theorem dX7_checksum_50 : decode cX7_checksum 50 = .ok (.ladd, 1) := by decide +kernel
theorem dX7_checksum_51 : decode cX7_checksum 51 = .ok (.lstore_n 1, 1) := by decide +kernel
theorem dX7_checksum_52 : decode cX7_checksum 52 = .ok (.iinc 4 1, 3) := by decide +kernel
theorem dX7_checksum_55 : decode cX7_checksum 55 = .ok (.goto (-24), 3) := by decide +kernel
theorem dX7_checksum_58 : decode cX7_checksum 58 = .ok (.iinc 3 1, 3) := by decide +kernel
theorem dX7_checksum_61 : decode cX7_checksum 61 = .ok (.goto (-55), 3) := by decide +kernel
theorem dX7_checksum_64 : decode cX7_checksum 64 = .ok (.lload_n 1, 1) := by decide +kernel
theorem dX7_checksum_65 : decode cX7_checksum 65 = .ok (.lreturn, 1) := by decide +kernel
set_option maxRecDepth 20000 in
theorem ggX7_upShare_X7_isCastle : GoodIn wsX7_upShare wsX7_isCastle := goodIn_r _ [5] (by decide +kernel) (by decide +kernel)
set_option maxRecDepth 20000 in
theorem gX7_upShare_X7_isCastle : GoodIn wsX7_upShare (va_wsS RX7 108 yX7_isCastle wsX7_isCastle) := goodIn_app (goodIn_of _ (by decide +kernel)) ggX7_upShare_X7_isCastle
set_option maxRecDepth 20000 in
theorem ggX7_upShare_X7_no : GoodIn wsX7_upShare wsX7_no := goodIn_r _ [9, 10, 20, 21, 22, 23, 24, 25, 26, 27, 28, 29, 30, 31, 32, 33, 34, 35, 36, 37, 38, 39, 40, 41, 42, 43, 44, 45, 46, 47, 48, 49, 50, 51, 52, 53, 54] (by decide +kernel) (by decide +kernel)
set_option maxRecDepth 20000 in
theorem gX7_upShare_X7_no : GoodIn wsX7_upShare (wsV RX7 118 RX7 yX7_no wsX7_no) := goodIn_app (goodIn_of _ (by decide +kernel)) ggX7_upShare_X7_no
set_option maxRecDepth 20000 in
theorem ggX7_upShare_X7_reach : GoodIn wsX7_upShare wsX7_reach := goodIn_r _ [14, 1, 15, 16, 20, 21, 22, 23, 24, 25, 26, 27, 28, 29, 30, 31, 32, 33, 34, 35, 36, 37, 38, 39, 40, 41, 42, 43, 44, 45, 46, 47, 48, 49, 50, 51, 52, 53, 54] (by decide +kernel) (by decide +kernel)
set_option maxRecDepth 20000 in
theorem gX7_upShare_X7_reach : GoodIn wsX7_upShare (wsV RX7 145 RX7 yX7_reach wsX7_reach) := goodIn_app (goodIn_of _ (by decide +kernel)) ggX7_upShare_X7_reach
set_option maxRecDepth 20000 in
theorem ggX7_upShare_X7_ones : GoodIn wsX7_upShare wsX7_ones := goodIn_r _ [19] (by decide +kernel) (by decide +kernel)
set_option maxRecDepth 20000 in
theorem gX7_upShare_X7_ones : GoodIn wsX7_upShare (va_wsS RX7 139 yX7_ones wsX7_ones) := goodIn_app (goodIn_of _ (by decide +kernel)) ggX7_upShare_X7_ones
theorem dX7_upShare_0 : decode cX7_upShare 0 = .ok (.aload_n 0, 1) := by decide +kernel
theorem dX7_upShare_1 : decode cX7_upShare 1 = .ok (.iload_n 1, 1) := by decide +kernel
theorem dX7_upShare_2 : decode cX7_upShare 2 = .ok (.invokestatic 108, 3) := by decide +kernel
theorem dX7_upShare_5 : decode cX7_upShare 5 = .ok (.iconst 1, 1) := by decide +kernel
theorem dX7_upShare_6 : decode cX7_upShare 6 = .ok (.invokevirtual 118, 3) := by decide +kernel
theorem dX7_upShare_9 : decode cX7_upShare 9 = .ok (.ifCond .eq 7, 3) := by decide +kernel
theorem dX7_upShare_12 : decode cX7_upShare 12 = .ok (.fconst 0, 1) := by decide +kernel
theorem dX7_upShare_13 : decode cX7_upShare 13 = .ok (.goto 21, 3) := by decide +kernel
theorem dX7_upShare_16 : decode cX7_upShare 16 = .ok (.aload_n 0, 1) := by decide +kernel
theorem dX7_upShare_17 : decode cX7_upShare 17 = .ok (.iload_n 1, 1) := by decide +kernel
theorem dX7_upShare_18 : decode cX7_upShare 18 = .ok (.iconst (-1), 1) := by decide +kernel
theorem dX7_upShare_19 : decode cX7_upShare 19 = .ok (.invokevirtual 145, 3) := by decide +kernel
theorem dX7_upShare_22 : decode cX7_upShare 22 = .ok (.invokestatic 139, 3) := by decide +kernel
theorem dX7_upShare_25 : decode cX7_upShare 25 = .ok (.i2f, 1) := by decide +kernel
theorem dX7_upShare_26 : decode cX7_upShare 26 = .ok (.aload_n 0, 1) := by decide +kernel
theorem dX7_upShare_27 : decode cX7_upShare 27 = .ok (.getfield 7, 3) := by decide +kernel
theorem dX7_upShare_30 : decode cX7_upShare 30 = .ok (.iload_n 1, 1) := by decide +kernel
theorem dX7_upShare_31 : decode cX7_upShare 31 = .ok (.iaload, 1) := by decide +kernel
theorem dX7_upShare_32 : decode cX7_upShare 32 = .ok (.i2f, 1) := by decide +kernel
theorem dX7_upShare_33 : decode cX7_upShare 33 = .ok (.fdiv, 1) := by decide +kernel
theorem dX7_upShare_34 : decode cX7_upShare 34 = .ok (.freturn, 1) := by decide +kernel
set_option maxRecDepth 20000 in
theorem ggX7_meanEntries_X7_isCastle : GoodIn wsX7_meanEntries wsX7_isCastle := goodIn_r _ [7] (by decide +kernel) (by decide +kernel)
set_option maxRecDepth 20000 in
theorem gX7_meanEntries_X7_isCastle : GoodIn wsX7_meanEntries (va_wsS RX7 108 yX7_isCastle wsX7_isCastle) := goodIn_app (goodIn_of _ (by decide +kernel)) ggX7_meanEntries_X7_isCastle
set_option maxRecDepth 20000 in
theorem ggX7_meanEntries_X7_no : GoodIn wsX7_meanEntries wsX7_no := goodIn_r _ [11, 12, 16, 17, 18, 19, 20, 21, 22, 23, 24, 25, 26, 27, 28, 29, 30, 31, 32, 33, 34, 35, 36, 37, 38, 39, 40, 41, 42, 43, 44, 45, 46, 47, 48, 49, 50] (by decide +kernel) (by decide +kernel)
set_option maxRecDepth 20000 in
theorem gX7_meanEntries_X7_no : GoodIn wsX7_meanEntries (wsV RX7 118 RX7 yX7_no wsX7_no) := goodIn_app (goodIn_of _ (by decide +kernel)) ggX7_meanEntries_X7_no
set_option maxRecDepth 20000 in
theorem ggX7_meanEntries_X7_ones : GoodIn wsX7_meanEntries wsX7_ones := goodIn_r _ [15] (by decide +kernel) (by decide +kernel)
set_option maxRecDepth 20000 in
theorem gX7_meanEntries_X7_ones : GoodIn wsX7_meanEntries (va_wsS RX7 139 yX7_ones wsX7_ones) := goodIn_app (goodIn_of _ (by decide +kernel)) ggX7_meanEntries_X7_ones
theorem dX7_meanEntries_0 : decode cX7_meanEntries 0 = .ok (.aload_n 0, 1) := by decide +kernel
theorem dX7_meanEntries_1 : decode cX7_meanEntries 1 = .ok (.iload_n 1, 1) := by decide +kernel
theorem dX7_meanEntries_2 : decode cX7_meanEntries 2 = .ok (.invokestatic 108, 3) := by decide +kernel
theorem dX7_meanEntries_5 : decode cX7_meanEntries 5 = .ok (.iconst 1, 1) := by decide +kernel
theorem dX7_meanEntries_6 : decode cX7_meanEntries 6 = .ok (.invokevirtual 118, 3) := by decide +kernel
theorem dX7_meanEntries_9 : decode cX7_meanEntries 9 = .ok (.ifCond .eq 5, 3) := by decide +kernel
theorem dX7_meanEntries_12 : decode cX7_meanEntries 12 = .ok (.dconst 0, 1) := by decide +kernel
theorem dX7_meanEntries_13 : decode cX7_meanEntries 13 = .ok (.dreturn, 1) := by decide +kernel
theorem dX7_meanEntries_14 : decode cX7_meanEntries 14 = .ok (.iconst 0, 1) := by decide +kernel
theorem dX7_meanEntries_15 : decode cX7_meanEntries 15 = .ok (.istore_n 2, 1) := by decide +kernel
theorem dX7_meanEntries_16 : decode cX7_meanEntries 16 = .ok (.iconst 0, 1) := by decide +kernel
theorem dX7_meanEntries_17 : decode cX7_meanEntries 17 = .ok (.istore_n 3, 1) := by decide +kernel
theorem dX7_meanEntries_18 : decode cX7_meanEntries 18 = .ok (.iload_n 3, 1) := by decide +kernel
theorem dX7_meanEntries_19 : decode cX7_meanEntries 19 = .ok (.aload_n 0, 1) := by decide +kernel
theorem dX7_meanEntries_20 : decode cX7_meanEntries 20 = .ok (.getfield 16, 3) := by decide +kernel
theorem dX7_meanEntries_23 : decode cX7_meanEntries 23 = .ok (.iload_n 1, 1) := by decide +kernel
theorem dX7_meanEntries_24 : decode cX7_meanEntries 24 = .ok (.iaload, 1) := by decide +kernel
theorem dX7_meanEntries_25 : decode cX7_meanEntries 25 = .ok (.if_icmp .ge 26, 3) := by decide +kernel
theorem dX7_meanEntries_28 : decode cX7_meanEntries 28 = .ok (.iload_n 2, 1) := by decide +kernel
theorem dX7_meanEntries_29 : decode cX7_meanEntries 29 = .ok (.aload_n 0, 1) := by decide +kernel
theorem dX7_meanEntries_30 : decode cX7_meanEntries 30 = .ok (.getfield 54, 3) := by decide +kernel
theorem dX7_meanEntries_33 : decode cX7_meanEntries 33 = .ok (.iload_n 1, 1) := by decide +kernel
theorem dX7_meanEntries_34 : decode cX7_meanEntries 34 = .ok (.bipush 60, 2) := by decide +kernel
theorem dX7_meanEntries_36 : decode cX7_meanEntries 36 = .ok (.imul, 1) := by decide +kernel
theorem dX7_meanEntries_37 : decode cX7_meanEntries 37 = .ok (.iload_n 3, 1) := by decide +kernel
theorem dX7_meanEntries_38 : decode cX7_meanEntries 38 = .ok (.iadd, 1) := by decide +kernel
theorem dX7_meanEntries_39 : decode cX7_meanEntries 39 = .ok (.iaload, 1) := by decide +kernel
theorem dX7_meanEntries_40 : decode cX7_meanEntries 40 = .ok (.invokestatic 139, 3) := by decide +kernel
theorem dX7_meanEntries_43 : decode cX7_meanEntries 43 = .ok (.iadd, 1) := by decide +kernel
theorem dX7_meanEntries_44 : decode cX7_meanEntries 44 = .ok (.istore_n 2, 1) := by decide +kernel
theorem dX7_meanEntries_45 : decode cX7_meanEntries 45 = .ok (.iinc 3 1, 3) := by decide +kernel
theorem dX7_meanEntries_48 : decode cX7_meanEntries 48 = .ok (.goto (-30), 3) := by decide +kernel
theorem dX7_meanEntries_51 : decode cX7_meanEntries 51 = .ok (.iload_n 2, 1) := by decide +kernel
theorem dX7_meanEntries_52 : decode cX7_meanEntries 52 = .ok (.i2d, 1) := by decide +kernel
theorem dX7_meanEntries_53 : decode cX7_meanEntries 53 = .ok (.aload_n 0, 1) := by decide +kernel
theorem dX7_meanEntries_54 : decode cX7_meanEntries 54 = .ok (.getfield 7, 3) := by decide +kernel
theorem dX7_meanEntries_57 : decode cX7_meanEntries 57 = .ok (.iload_n 1, 1) := by decide +kernel
theorem dX7_meanEntries_58 : decode cX7_meanEntries 58 = .ok (.iaload, 1) := by decide +kernel
theorem dX7_meanEntries_59 : decode cX7_meanEntries 59 = .ok (.i2d, 1) := by decide +kernel
theorem dX7_meanEntries_60 : decode cX7_meanEntries 60 = .ok (.ddiv, 1) := by decide +kernel
theorem dX7_meanEntries_61 : decode cX7_meanEntries 61 = .ok (.dreturn, 1) := by decide +kernel
theorem dX7_isSound_0 : decode cX7_isSound 0 = .ok (.iconst 1, 1) := by decide +kernel
theorem dX7_isSound_1 : decode cX7_isSound 1 = .ok (.ireturn, 1) := by decide +kernel
theorem dJ6_bitCount_0f7a4_0 : decode cJ6_bitCount_0f7a4 0 = .ok (.iload_n 0, 1) := by decide +kernel
theorem dJ6_bitCount_0f7a4_1 : decode cJ6_bitCount_0f7a4 1 = .ok (.iload_n 0, 1) := by decide +kernel
theorem dJ6_bitCount_0f7a4_2 : decode cJ6_bitCount_0f7a4 2 = .ok (.iconst 1, 1) := by decide +kernel
theorem dJ6_bitCount_0f7a4_3 : decode cJ6_bitCount_0f7a4 3 = .ok (.iushr, 1) := by decide +kernel
theorem dJ6_bitCount_0f7a4_4 : decode cJ6_bitCount_0f7a4 4 = .ok (.ldc_w 265, 3) := by decide +kernel
theorem dJ6_bitCount_0f7a4_7 : decode cJ6_bitCount_0f7a4 7 = .ok (.iand, 1) := by decide +kernel
theorem dJ6_bitCount_0f7a4_8 : decode cJ6_bitCount_0f7a4 8 = .ok (.isub, 1) := by decide +kernel
theorem dJ6_bitCount_0f7a4_9 : decode cJ6_bitCount_0f7a4 9 = .ok (.istore_n 0, 1) := by decide +kernel
theorem dJ6_bitCount_0f7a4_10 : decode cJ6_bitCount_0f7a4 10 = .ok (.iload_n 0, 1) := by decide +kernel
theorem dJ6_bitCount_0f7a4_11 : decode cJ6_bitCount_0f7a4 11 = .ok (.ldc_w 266, 3) := by decide +kernel
theorem dJ6_bitCount_0f7a4_14 : decode cJ6_bitCount_0f7a4 14 = .ok (.iand, 1) := by decide +kernel
theorem dJ6_bitCount_0f7a4_15 : decode cJ6_bitCount_0f7a4 15 = .ok (.iload_n 0, 1) := by decide +kernel
theorem dJ6_bitCount_0f7a4_16 : decode cJ6_bitCount_0f7a4 16 = .ok (.iconst 2, 1) := by decide +kernel
theorem dJ6_bitCount_0f7a4_17 : decode cJ6_bitCount_0f7a4 17 = .ok (.iushr, 1) := by decide +kernel
theorem dJ6_bitCount_0f7a4_18 : decode cJ6_bitCount_0f7a4 18 = .ok (.ldc_w 266, 3) := by decide +kernel
theorem dJ6_bitCount_0f7a4_21 : decode cJ6_bitCount_0f7a4 21 = .ok (.iand, 1) := by decide +kernel
theorem dJ6_bitCount_0f7a4_22 : decode cJ6_bitCount_0f7a4 22 = .ok (.iadd, 1) := by decide +kernel
theorem dJ6_bitCount_0f7a4_23 : decode cJ6_bitCount_0f7a4 23 = .ok (.istore_n 0, 1) := by decide +kernel
theorem dJ6_bitCount_0f7a4_24 : decode cJ6_bitCount_0f7a4 24 = .ok (.iload_n 0, 1) := by decide +kernel
theorem dJ6_bitCount_0f7a4_25 : decode cJ6_bitCount_0f7a4 25 = .ok (.iload_n 0, 1) := by decide +kernel
theorem dJ6_bitCount_0f7a4_26 : decode cJ6_bitCount_0f7a4 26 = .ok (.iconst 4, 1) := by decide +kernel
theorem dJ6_bitCount_0f7a4_27 : decode cJ6_bitCount_0f7a4 27 = .ok (.iushr, 1) := by decide +kernel
theorem dJ6_bitCount_0f7a4_28 : decode cJ6_bitCount_0f7a4 28 = .ok (.iadd, 1) := by decide +kernel
theorem dJ6_bitCount_0f7a4_29 : decode cJ6_bitCount_0f7a4 29 = .ok (.ldc_w 267, 3) := by decide +kernel
theorem dJ6_bitCount_0f7a4_32 : decode cJ6_bitCount_0f7a4 32 = .ok (.iand, 1) := by decide +kernel
theorem dJ6_bitCount_0f7a4_33 : decode cJ6_bitCount_0f7a4 33 = .ok (.istore_n 0, 1) := by decide +kernel
theorem dJ6_bitCount_0f7a4_34 : decode cJ6_bitCount_0f7a4 34 = .ok (.iload_n 0, 1) := by decide +kernel
theorem dJ6_bitCount_0f7a4_35 : decode cJ6_bitCount_0f7a4 35 = .ok (.iload_n 0, 1) := by decide +kernel
theorem dJ6_bitCount_0f7a4_36 : decode cJ6_bitCount_0f7a4 36 = .ok (.bipush 8, 2) := by decide +kernel
theorem dJ6_bitCount_0f7a4_38 : decode cJ6_bitCount_0f7a4 38 = .ok (.iushr, 1) := by decide +kernel
theorem dJ6_bitCount_0f7a4_39 : decode cJ6_bitCount_0f7a4 39 = .ok (.iadd, 1) := by decide +kernel
theorem dJ6_bitCount_0f7a4_40 : decode cJ6_bitCount_0f7a4 40 = .ok (.istore_n 0, 1) := by decide +kernel
theorem dJ6_bitCount_0f7a4_41 : decode cJ6_bitCount_0f7a4 41 = .ok (.iload_n 0, 1) := by decide +kernel
theorem dJ6_bitCount_0f7a4_42 : decode cJ6_bitCount_0f7a4 42 = .ok (.iload_n 0, 1) := by decide +kernel
theorem dJ6_bitCount_0f7a4_43 : decode cJ6_bitCount_0f7a4 43 = .ok (.bipush 16, 2) := by decide +kernel
theorem dJ6_bitCount_0f7a4_45 : decode cJ6_bitCount_0f7a4 45 = .ok (.iushr, 1) := by decide +kernel
theorem dJ6_bitCount_0f7a4_46 : decode cJ6_bitCount_0f7a4 46 = .ok (.iadd, 1) := by decide +kernel
theorem dJ6_bitCount_0f7a4_47 : decode cJ6_bitCount_0f7a4 47 = .ok (.istore_n 0, 1) := by decide +kernel
theorem dJ6_bitCount_0f7a4_48 : decode cJ6_bitCount_0f7a4 48 = .ok (.iload_n 0, 1) := by decide +kernel
theorem dJ6_bitCount_0f7a4_49 : decode cJ6_bitCount_0f7a4 49 = .ok (.bipush 63, 2) := by decide +kernel
theorem dJ6_bitCount_0f7a4_51 : decode cJ6_bitCount_0f7a4 51 = .ok (.iand, 1) := by decide +kernel
theorem dJ6_bitCount_0f7a4_52 : decode cJ6_bitCount_0f7a4 52 = .ok (.ireturn, 1) := by decide +kernel
theorem dJ9_max_7cf53_0 : decode cJ9_max_7cf53 0 = .ok (.iload_n 0, 1) := by decide +kernel
theorem dJ9_max_7cf53_1 : decode cJ9_max_7cf53 1 = .ok (.iload_n 1, 1) := by decide +kernel
theorem dJ9_max_7cf53_2 : decode cJ9_max_7cf53 2 = .ok (.if_icmp .lt 7, 3) := by decide +kernel
theorem dJ9_max_7cf53_5 : decode cJ9_max_7cf53 5 = .ok (.iload_n 0, 1) := by decide +kernel
theorem dJ9_max_7cf53_6 : decode cJ9_max_7cf53 6 = .ok (.goto 4, 3) := by decide +kernel
theorem dJ9_max_7cf53_9 : decode cJ9_max_7cf53 9 = .ok (.iload_n 1, 1) := by decide +kernel
theorem dJ9_max_7cf53_10 : decode cJ9_max_7cf53 10 = .ok (.ireturn, 1) := by decide +kernel
set_option maxRecDepth 20000 in
theorem ggL_build_X6_build : GoodIn wsL_build wsX6_build := goodIn_ca (goodIn_ca (goodIn_ca (goodIn_r _ [8, 9, 10, 11, 12, 13, 14, 15, 16, 17, 7, 18, 19, 20, 21, 22, 23, 24, 25, 26, 27, 28, 29, 30, 31, 32, 33, 34, 35, 36, 37, 38, 39, 40, 41, 42, 43, 44, 45, 46, 47, 48, 49, 50, 51, 52, 53, 54, 55, 56, 57, 58, 59, 60, 61, 62, 63, 64, 65, 66, 67, 68, 69, 70, 71, 72, 73, 74, 75, 76, 77, 78, 79, 80, 81, 82, 83, 84] (by decide +kernel) (by decide +kernel)) (goodIn_sub (fun _ h => List.mem_cons_of_mem _ (List.mem_append_left _ (List.mem_append_left _ (List.mem_append_right _ h)))) (by decide +kernel))) (goodIn_sub (fun _ h => List.mem_cons_of_mem _ (List.mem_append_left _ (List.mem_append_right _ h))) (by decide +kernel))) (goodIn_sub (fun _ h => List.mem_cons_of_mem _ (List.mem_append_right _ h)) (by decide +kernel))
set_option maxRecDepth 20000 in
theorem gL_build_X6_build : GoodIn wsL_build (wsV RL 7 RX6 yX6_build wsX6_build) := goodIn_app (goodIn_of _ (by decide +kernel)) ggL_build_X6_build
theorem dL_build_0 : decode cL_build 0 = .ok (.aload 4, 2) := by decide +kernel
theorem dL_build_2 : decode cL_build 2 = .ok (.iconst 0, 1) := by decide +kernel
theorem dL_build_3 : decode cL_build 3 = .ok (.aload_n 0, 1) := by decide +kernel
theorem dL_build_4 : decode cL_build 4 = .ok (.iload_n 1, 1) := by decide +kernel
theorem dL_build_5 : decode cL_build 5 = .ok (.iload_n 2, 1) := by decide +kernel
theorem dL_build_6 : decode cL_build 6 = .ok (.iload_n 3, 1) := by decide +kernel
theorem dL_build_7 : decode cL_build 7 = .ok (.invokevirtual 7, 3) := by decide +kernel
theorem dL_build_10 : decode cL_build 10 = .ok (.i2l, 1) := by decide +kernel
theorem dL_build_11 : decode cL_build 11 = .ok (.lastore, 1) := by decide +kernel
theorem dL_build_12 : decode cL_build 12 = .ok (.goto 15, 3) := by decide +kernel
theorem dL_build_15 : decode cL_build 15 = .ok (.astore 5, 2) := by decide +kernel
theorem dL_build_17 : decode cL_build 17 = .ok (.iconst 1, 1) := by decide +kernel
theorem dL_build_18 : decode cL_build 18 = .ok (.ireturn, 1) := by decide +kernel
theorem dL_build_19 : decode cL_build 19 = .ok (.astore 5, 2) := by decide +kernel
theorem dL_build_21 : decode cL_build 21 = .ok (.iconst 2, 1) := by decide +kernel
theorem dL_build_22 : decode cL_build 22 = .ok (.ireturn, 1) := by decide +kernel
theorem dL_build_23 : decode cL_build 23 = .ok (.astore 5, 2) := by decide +kernel
theorem dL_build_25 : decode cL_build 25 = .ok (.iconst 3, 1) := by decide +kernel
theorem dL_build_26 : decode cL_build 26 = .ok (.ireturn, 1) := by decide +kernel
theorem dL_build_27 : decode cL_build 27 = .ok (.iconst 0, 1) := by decide +kernel
theorem dL_build_28 : decode cL_build 28 = .ok (.ireturn, 1) := by decide +kernel
set_option maxRecDepth 20000 in
theorem ggL_wait_X6_wait : GoodIn wsL_wait wsX6_wait := goodIn_ca (goodIn_r _ [6, 7, 8, 9, 10, 11, 12, 13, 14, 15, 16, 17] (by decide +kernel) (by decide +kernel)) (goodIn_sub (fun _ h => List.mem_cons_of_mem _ (List.mem_append_right _ h)) (by decide +kernel))
set_option maxRecDepth 20000 in
theorem gL_wait_X6_wait : GoodIn wsL_wait (wsV RL 19 RX6 yX6_wait wsX6_wait) := goodIn_app (goodIn_of _ (by decide +kernel)) ggL_wait_X6_wait
theorem dL_wait_0 : decode cL_wait 0 = .ok (.aload_n 2, 1) := by decide +kernel
theorem dL_wait_1 : decode cL_wait 1 = .ok (.iconst 0, 1) := by decide +kernel
theorem dL_wait_2 : decode cL_wait 2 = .ok (.aload_n 0, 1) := by decide +kernel
theorem dL_wait_3 : decode cL_wait 3 = .ok (.iload_n 1, 1) := by decide +kernel
theorem dL_wait_4 : decode cL_wait 4 = .ok (.invokevirtual 19, 3) := by decide +kernel
theorem dL_wait_7 : decode cL_wait 7 = .ok (.i2l, 1) := by decide +kernel
theorem dL_wait_8 : decode cL_wait 8 = .ok (.lastore, 1) := by decide +kernel
theorem dL_wait_9 : decode cL_wait 9 = .ok (.goto 6, 3) := by decide +kernel
theorem dL_wait_12 : decode cL_wait 12 = .ok (.astore_n 3, 1) := by decide +kernel
theorem dL_wait_13 : decode cL_wait 13 = .ok (.iconst 1, 1) := by decide +kernel
theorem dL_wait_14 : decode cL_wait 14 = .ok (.ireturn, 1) := by decide +kernel
theorem dL_wait_15 : decode cL_wait 15 = .ok (.iconst 0, 1) := by decide +kernel
theorem dL_wait_16 : decode cL_wait 16 = .ok (.ireturn, 1) := by decide +kernel
set_option maxRecDepth 20000 in
theorem ggL_fall_X6_fall : GoodIn wsL_fall wsX6_fall := goodIn_ca (goodIn_r _ [6, 7, 8, 9, 5, 10, 11, 12, 13, 14, 15, 16, 17, 18, 19, 20, 21, 22, 23, 24, 25, 26, 27, 28, 29, 30, 31, 32, 33, 34, 35, 36, 37, 38, 39, 40, 41, 42, 43, 44, 45, 46, 47, 48, 49, 50, 51, 52, 53, 54, 55] (by decide +kernel) (by decide +kernel)) (goodIn_sub (fun _ h => List.mem_cons_of_mem _ (List.mem_append_right _ h)) (by decide +kernel))
set_option maxRecDepth 20000 in
theorem gL_fall_X6_fall : GoodIn wsL_fall (wsV RL 23 RX6 yX6_fall wsX6_fall) := goodIn_app (goodIn_of _ (by decide +kernel)) ggL_fall_X6_fall
theorem dL_fall_0 : decode cL_fall 0 = .ok (.aload_n 3, 1) := by decide +kernel
theorem dL_fall_1 : decode cL_fall 1 = .ok (.iconst 0, 1) := by decide +kernel
theorem dL_fall_2 : decode cL_fall 2 = .ok (.aload_n 0, 1) := by decide +kernel
theorem dL_fall_3 : decode cL_fall 3 = .ok (.iload_n 1, 1) := by decide +kernel
theorem dL_fall_4 : decode cL_fall 4 = .ok (.iload_n 2, 1) := by decide +kernel
theorem dL_fall_5 : decode cL_fall 5 = .ok (.invokevirtual 23, 3) := by decide +kernel
theorem dL_fall_8 : decode cL_fall 8 = .ok (.ifCond .eq 7, 3) := by decide +kernel
theorem dL_fall_11 : decode cL_fall 11 = .ok (.lconst 1, 1) := by decide +kernel
theorem dL_fall_12 : decode cL_fall 12 = .ok (.goto 4, 3) := by decide +kernel
theorem dL_fall_15 : decode cL_fall 15 = .ok (.lconst 0, 1) := by decide +kernel
theorem dL_fall_16 : decode cL_fall 16 = .ok (.lastore, 1) := by decide +kernel
theorem dL_fall_17 : decode cL_fall 17 = .ok (.goto 7, 3) := by decide +kernel
theorem dL_fall_20 : decode cL_fall 20 = .ok (.astore 4, 2) := by decide +kernel
theorem dL_fall_22 : decode cL_fall 22 = .ok (.iconst 1, 1) := by decide +kernel
theorem dL_fall_23 : decode cL_fall 23 = .ok (.ireturn, 1) := by decide +kernel
theorem dL_fall_24 : decode cL_fall 24 = .ok (.iconst 0, 1) := by decide +kernel
theorem dL_fall_25 : decode cL_fall 25 = .ok (.ireturn, 1) := by decide +kernel
set_option maxRecDepth 20000 in
theorem ggL_burn_X6_burn : GoodIn wsL_burn wsX6_burn := goodIn_ca (goodIn_r _ [6, 7, 8, 9, 10, 5, 11, 12, 13, 14, 15, 16, 17, 18, 19, 20, 21, 22, 23, 24, 25, 26, 27, 28, 29, 30, 31, 32, 33, 34, 35, 36, 37, 38, 39, 40, 41, 42, 43, 44, 45, 46, 47, 48, 49, 50, 51, 52, 53, 54, 55, 56, 57, 58, 59, 60, 61, 62, 63, 64, 65, 66] (by decide +kernel) (by decide +kernel)) (goodIn_sub (fun _ h => List.mem_cons_of_mem _ (List.mem_append_right _ h)) (by decide +kernel))
set_option maxRecDepth 20000 in
theorem gL_burn_X6_burn : GoodIn wsL_burn (wsV RL 27 RX6 yX6_burn wsX6_burn) := goodIn_app (goodIn_of _ (by decide +kernel)) ggL_burn_X6_burn
theorem dL_burn_0 : decode cL_burn 0 = .ok (.aload_n 3, 1) := by decide +kernel
theorem dL_burn_1 : decode cL_burn 1 = .ok (.iconst 0, 1) := by decide +kernel
theorem dL_burn_2 : decode cL_burn 2 = .ok (.aload_n 0, 1) := by decide +kernel
theorem dL_burn_3 : decode cL_burn 3 = .ok (.iload_n 1, 1) := by decide +kernel
theorem dL_burn_4 : decode cL_burn 4 = .ok (.iload_n 2, 1) := by decide +kernel
theorem dL_burn_5 : decode cL_burn 5 = .ok (.invokevirtual 27, 3) := by decide +kernel
theorem dL_burn_8 : decode cL_burn 8 = .ok (.i2l, 1) := by decide +kernel
theorem dL_burn_9 : decode cL_burn 9 = .ok (.lastore, 1) := by decide +kernel
theorem dL_burn_10 : decode cL_burn 10 = .ok (.goto 7, 3) := by decide +kernel
theorem dL_burn_13 : decode cL_burn 13 = .ok (.astore 4, 2) := by decide +kernel
theorem dL_burn_15 : decode cL_burn 15 = .ok (.iconst 1, 1) := by decide +kernel
theorem dL_burn_16 : decode cL_burn 16 = .ok (.ireturn, 1) := by decide +kernel
theorem dL_burn_17 : decode cL_burn 17 = .ok (.iconst 0, 1) := by decide +kernel
theorem dL_burn_18 : decode cL_burn 18 = .ok (.ireturn, 1) := by decide +kernel
set_option maxRecDepth 20000 in
theorem ggL_rise_X6_rise : GoodIn wsL_rise wsX6_rise := goodIn_ca (goodIn_r _ [6, 7, 8, 9, 10, 5, 11, 12, 13, 14, 15, 16, 17, 18, 19, 20, 21, 22, 23, 24, 25, 26, 27, 28, 29, 30, 31, 32, 33, 34, 35, 36, 37, 38, 39, 40, 41, 42, 43, 44, 45, 46, 47, 48, 49, 50, 51, 52] (by decide +kernel) (by decide +kernel)) (goodIn_sub (fun _ h => List.mem_cons_of_mem _ (List.mem_append_right _ h)) (by decide +kernel))
set_option maxRecDepth 20000 in
theorem gL_rise_X6_rise : GoodIn wsL_rise (wsV RL 31 RX6 yX6_rise wsX6_rise) := goodIn_app (goodIn_of _ (by decide +kernel)) ggL_rise_X6_rise
theorem dL_rise_0 : decode cL_rise 0 = .ok (.aload_n 3, 1) := by decide +kernel
theorem dL_rise_1 : decode cL_rise 1 = .ok (.iconst 0, 1) := by decide +kernel
theorem dL_rise_2 : decode cL_rise 2 = .ok (.aload_n 0, 1) := by decide +kernel
theorem dL_rise_3 : decode cL_rise 3 = .ok (.iload_n 1, 1) := by decide +kernel
theorem dL_rise_4 : decode cL_rise 4 = .ok (.iload_n 2, 1) := by decide +kernel
theorem dL_rise_5 : decode cL_rise 5 = .ok (.invokevirtual 31, 3) := by decide +kernel
theorem dL_rise_8 : decode cL_rise 8 = .ok (.ifCond .eq 7, 3) := by decide +kernel
theorem dL_rise_11 : decode cL_rise 11 = .ok (.lconst 1, 1) := by decide +kernel
theorem dL_rise_12 : decode cL_rise 12 = .ok (.goto 4, 3) := by decide +kernel
theorem dL_rise_15 : decode cL_rise 15 = .ok (.lconst 0, 1) := by decide +kernel
theorem dL_rise_16 : decode cL_rise 16 = .ok (.lastore, 1) := by decide +kernel
theorem dL_rise_17 : decode cL_rise 17 = .ok (.goto 7, 3) := by decide +kernel
theorem dL_rise_20 : decode cL_rise 20 = .ok (.astore 4, 2) := by decide +kernel
theorem dL_rise_22 : decode cL_rise 22 = .ok (.iconst 1, 1) := by decide +kernel
theorem dL_rise_23 : decode cL_rise 23 = .ok (.ireturn, 1) := by decide +kernel
theorem dL_rise_24 : decode cL_rise 24 = .ok (.iconst 0, 1) := by decide +kernel
theorem dL_rise_25 : decode cL_rise 25 = .ok (.ireturn, 1) := by decide +kernel
set_option maxRecDepth 20000 in
theorem ggL_cut_X6_cut : GoodIn wsL_cut wsX6_cut := goodIn_ca (goodIn_r _ [6, 7, 8, 9, 5, 10, 11, 12, 13, 14, 15, 16, 17, 18, 19, 20, 21, 22, 23, 24, 25, 26, 27, 28, 29, 30, 31, 32, 33, 34, 35, 36, 37, 38, 39, 40, 41, 42, 43, 44, 45, 46, 47, 48, 49] (by decide +kernel) (by decide +kernel)) (goodIn_sub (fun _ h => List.mem_cons_of_mem _ (List.mem_append_right _ h)) (by decide +kernel))
set_option maxRecDepth 20000 in
theorem gL_cut_X6_cut : GoodIn wsL_cut (wsV RL 34 RX6 yX6_cut wsX6_cut) := goodIn_app (goodIn_of _ (by decide +kernel)) ggL_cut_X6_cut
theorem dL_cut_0 : decode cL_cut 0 = .ok (.aload 5, 2) := by decide +kernel
theorem dL_cut_2 : decode cL_cut 2 = .ok (.iconst 0, 1) := by decide +kernel
theorem dL_cut_3 : decode cL_cut 3 = .ok (.aload_n 0, 1) := by decide +kernel
theorem dL_cut_4 : decode cL_cut 4 = .ok (.iload_n 1, 1) := by decide +kernel
theorem dL_cut_5 : decode cL_cut 5 = .ok (.iload_n 2, 1) := by decide +kernel
theorem dL_cut_6 : decode cL_cut 6 = .ok (.iload_n 3, 1) := by decide +kernel
theorem dL_cut_7 : decode cL_cut 7 = .ok (.iload 4, 2) := by decide +kernel
theorem dL_cut_9 : decode cL_cut 9 = .ok (.invokevirtual 34, 3) := by decide +kernel
theorem dL_cut_12 : decode cL_cut 12 = .ok (.ifCond .eq 7, 3) := by decide +kernel
theorem dL_cut_15 : decode cL_cut 15 = .ok (.lconst 1, 1) := by decide +kernel
theorem dL_cut_16 : decode cL_cut 16 = .ok (.goto 4, 3) := by decide +kernel
theorem dL_cut_19 : decode cL_cut 19 = .ok (.lconst 0, 1) := by decide +kernel
theorem dL_cut_20 : decode cL_cut 20 = .ok (.lastore, 1) := by decide +kernel
theorem dL_cut_21 : decode cL_cut 21 = .ok (.goto 7, 3) := by decide +kernel
theorem dL_cut_24 : decode cL_cut 24 = .ok (.astore 6, 2) := by decide +kernel
theorem dL_cut_26 : decode cL_cut 26 = .ok (.iconst 1, 1) := by decide +kernel
theorem dL_cut_27 : decode cL_cut 27 = .ok (.ireturn, 1) := by decide +kernel
theorem dL_cut_28 : decode cL_cut 28 = .ok (.iconst 0, 1) := by decide +kernel
theorem dL_cut_29 : decode cL_cut 29 = .ok (.ireturn, 1) := by decide +kernel
set_option maxRecDepth 20000 in
theorem ggL_lease_X6_lease : GoodIn wsL_lease wsX6_lease := goodIn_ca (goodIn_ca (goodIn_ca (goodIn_r _ [8, 9, 10, 11, 12, 13, 14, 15, 16, 17, 7, 18, 19, 20, 21, 22, 23, 24, 25, 26, 27, 28, 29, 30, 31, 32, 33, 34, 35, 36, 37, 38, 39, 40, 41, 42, 43, 44, 45, 46, 47, 48, 49, 50, 51, 52, 53, 54, 55, 56, 57, 58, 59, 60, 61, 62, 63, 64, 65, 66, 67, 68, 69, 70, 71, 72, 73, 74, 75, 76, 77, 78, 79, 80, 81, 82, 83, 84, 85, 86, 87, 88, 89, 90, 91, 92, 93, 94, 95, 96, 97, 98, 99, 100, 101, 102] (by decide +kernel) (by decide +kernel)) (goodIn_sub (fun _ h => List.mem_cons_of_mem _ (List.mem_append_left _ (List.mem_append_left _ (List.mem_append_right _ h)))) (by decide +kernel))) (goodIn_sub (fun _ h => List.mem_cons_of_mem _ (List.mem_append_left _ (List.mem_append_right _ h))) (by decide +kernel))) (goodIn_sub (fun _ h => List.mem_cons_of_mem _ (List.mem_append_right _ h)) (by decide +kernel))
set_option maxRecDepth 20000 in
theorem gL_lease_X6_lease : GoodIn wsL_lease (wsV RL 38 RX6 yX6_lease wsX6_lease) := goodIn_app (goodIn_of _ (by decide +kernel)) ggL_lease_X6_lease
theorem dL_lease_0 : decode cL_lease 0 = .ok (.aload 5, 2) := by decide +kernel
theorem dL_lease_2 : decode cL_lease 2 = .ok (.iconst 0, 1) := by decide +kernel
theorem dL_lease_3 : decode cL_lease 3 = .ok (.aload_n 0, 1) := by decide +kernel
theorem dL_lease_4 : decode cL_lease 4 = .ok (.iload_n 1, 1) := by decide +kernel
theorem dL_lease_5 : decode cL_lease 5 = .ok (.iload_n 2, 1) := by decide +kernel
theorem dL_lease_6 : decode cL_lease 6 = .ok (.iload_n 3, 1) := by decide +kernel
theorem dL_lease_7 : decode cL_lease 7 = .ok (.iload 4, 2) := by decide +kernel
theorem dL_lease_9 : decode cL_lease 9 = .ok (.invokevirtual 38, 3) := by decide +kernel
theorem dL_lease_12 : decode cL_lease 12 = .ok (.i2l, 1) := by decide +kernel
theorem dL_lease_13 : decode cL_lease 13 = .ok (.lastore, 1) := by decide +kernel
theorem dL_lease_14 : decode cL_lease 14 = .ok (.goto 15, 3) := by decide +kernel
theorem dL_lease_17 : decode cL_lease 17 = .ok (.astore 6, 2) := by decide +kernel
theorem dL_lease_19 : decode cL_lease 19 = .ok (.iconst 1, 1) := by decide +kernel
theorem dL_lease_20 : decode cL_lease 20 = .ok (.ireturn, 1) := by decide +kernel
theorem dL_lease_21 : decode cL_lease 21 = .ok (.astore 6, 2) := by decide +kernel
theorem dL_lease_23 : decode cL_lease 23 = .ok (.iconst 2, 1) := by decide +kernel
theorem dL_lease_24 : decode cL_lease 24 = .ok (.ireturn, 1) := by decide +kernel
theorem dL_lease_25 : decode cL_lease 25 = .ok (.astore 6, 2) := by decide +kernel
theorem dL_lease_27 : decode cL_lease 27 = .ok (.iconst 3, 1) := by decide +kernel
theorem dL_lease_28 : decode cL_lease 28 = .ok (.ireturn, 1) := by decide +kernel
theorem dL_lease_29 : decode cL_lease 29 = .ok (.iconst 0, 1) := by decide +kernel
theorem dL_lease_30 : decode cL_lease 30 = .ok (.ireturn, 1) := by decide +kernel
set_option maxRecDepth 20000 in
theorem ggL_giveUp_X6_giveUp : GoodIn wsL_giveUp wsX6_giveUp := goodIn_ca (goodIn_ca (goodIn_r _ [7, 8, 9, 10, 11, 12, 13, 14, 6, 15, 16, 17, 18, 19, 20, 21, 22, 23, 24, 25, 26, 27, 28, 29, 30, 31, 32, 33, 34, 35, 36, 37, 38, 39, 40, 41, 42, 43, 44, 45, 46, 47, 48, 49, 50, 51, 52, 53, 54, 55, 56, 57, 58, 59, 60, 61, 62, 63, 64, 65, 66, 67, 68, 69, 70, 71, 72, 73] (by decide +kernel) (by decide +kernel)) (goodIn_sub (fun _ h => List.mem_cons_of_mem _ (List.mem_append_left _ (List.mem_append_right _ h))) (by decide +kernel))) (goodIn_sub (fun _ h => List.mem_cons_of_mem _ (List.mem_append_right _ h)) (by decide +kernel))
set_option maxRecDepth 20000 in
theorem gL_giveUp_X6_giveUp : GoodIn wsL_giveUp (wsV RL 42 RX6 yX6_giveUp wsX6_giveUp) := goodIn_app (goodIn_of _ (by decide +kernel)) ggL_giveUp_X6_giveUp
theorem dL_giveUp_0 : decode cL_giveUp 0 = .ok (.aload 4, 2) := by decide +kernel
theorem dL_giveUp_2 : decode cL_giveUp 2 = .ok (.iconst 0, 1) := by decide +kernel
theorem dL_giveUp_3 : decode cL_giveUp 3 = .ok (.aload_n 0, 1) := by decide +kernel
theorem dL_giveUp_4 : decode cL_giveUp 4 = .ok (.iload_n 1, 1) := by decide +kernel
theorem dL_giveUp_5 : decode cL_giveUp 5 = .ok (.iload_n 2, 1) := by decide +kernel
theorem dL_giveUp_6 : decode cL_giveUp 6 = .ok (.iload_n 3, 1) := by decide +kernel
theorem dL_giveUp_7 : decode cL_giveUp 7 = .ok (.invokevirtual 42, 3) := by decide +kernel
theorem dL_giveUp_10 : decode cL_giveUp 10 = .ok (.i2l, 1) := by decide +kernel
theorem dL_giveUp_11 : decode cL_giveUp 11 = .ok (.lastore, 1) := by decide +kernel
theorem dL_giveUp_12 : decode cL_giveUp 12 = .ok (.goto 11, 3) := by decide +kernel
theorem dL_giveUp_15 : decode cL_giveUp 15 = .ok (.astore 5, 2) := by decide +kernel
theorem dL_giveUp_17 : decode cL_giveUp 17 = .ok (.iconst 1, 1) := by decide +kernel
theorem dL_giveUp_18 : decode cL_giveUp 18 = .ok (.ireturn, 1) := by decide +kernel
theorem dL_giveUp_19 : decode cL_giveUp 19 = .ok (.astore 5, 2) := by decide +kernel
theorem dL_giveUp_21 : decode cL_giveUp 21 = .ok (.iconst 2, 1) := by decide +kernel
theorem dL_giveUp_22 : decode cL_giveUp 22 = .ok (.ireturn, 1) := by decide +kernel
theorem dL_giveUp_23 : decode cL_giveUp 23 = .ok (.iconst 0, 1) := by decide +kernel
theorem dL_giveUp_24 : decode cL_giveUp 24 = .ok (.ireturn, 1) := by decide +kernel
set_option maxRecDepth 20000 in
theorem ggL_leaseOf_X6_leaseOf : GoodIn wsL_leaseOf wsX6_leaseOf := goodIn_ca (goodIn_r _ [6, 7, 8, 9, 10, 11, 5, 12, 13, 14, 15, 16, 17, 18, 19, 20, 21, 22, 23, 24, 25, 26, 27, 28, 29, 30, 31, 32, 33, 34, 35, 36, 37, 38, 39, 40, 41, 42, 43, 44, 45] (by decide +kernel) (by decide +kernel)) (goodIn_sub (fun _ h => List.mem_cons_of_mem _ (List.mem_append_right _ h)) (by decide +kernel))
set_option maxRecDepth 20000 in
theorem gL_leaseOf_X6_leaseOf : GoodIn wsL_leaseOf (wsV RL 45 RX6 yX6_leaseOf wsX6_leaseOf) := goodIn_app (goodIn_of _ (by decide +kernel)) ggL_leaseOf_X6_leaseOf
theorem dL_leaseOf_0 : decode cL_leaseOf 0 = .ok (.aload 4, 2) := by decide +kernel
theorem dL_leaseOf_2 : decode cL_leaseOf 2 = .ok (.iconst 0, 1) := by decide +kernel
theorem dL_leaseOf_3 : decode cL_leaseOf 3 = .ok (.aload_n 0, 1) := by decide +kernel
theorem dL_leaseOf_4 : decode cL_leaseOf 4 = .ok (.iload_n 1, 1) := by decide +kernel
theorem dL_leaseOf_5 : decode cL_leaseOf 5 = .ok (.iload_n 2, 1) := by decide +kernel
theorem dL_leaseOf_6 : decode cL_leaseOf 6 = .ok (.iload_n 3, 1) := by decide +kernel
theorem dL_leaseOf_7 : decode cL_leaseOf 7 = .ok (.invokevirtual 45, 3) := by decide +kernel
theorem dL_leaseOf_10 : decode cL_leaseOf 10 = .ok (.i2l, 1) := by decide +kernel
theorem dL_leaseOf_11 : decode cL_leaseOf 11 = .ok (.lastore, 1) := by decide +kernel
theorem dL_leaseOf_12 : decode cL_leaseOf 12 = .ok (.goto 7, 3) := by decide +kernel
theorem dL_leaseOf_15 : decode cL_leaseOf 15 = .ok (.astore 5, 2) := by decide +kernel
theorem dL_leaseOf_17 : decode cL_leaseOf 17 = .ok (.iconst 1, 1) := by decide +kernel
theorem dL_leaseOf_18 : decode cL_leaseOf 18 = .ok (.ireturn, 1) := by decide +kernel
theorem dL_leaseOf_19 : decode cL_leaseOf 19 = .ok (.iconst 0, 1) := by decide +kernel
theorem dL_leaseOf_20 : decode cL_leaseOf 20 = .ok (.ireturn, 1) := by decide +kernel
set_option maxRecDepth 20000 in
theorem ggL_openFor_X6_openFor : GoodIn wsL_openFor wsX6_openFor := goodIn_ca (goodIn_ca (goodIn_r _ [7, 8, 9, 10, 11, 12, 13, 14, 6, 15, 16, 17, 18, 19, 20, 21, 22, 23, 24, 25, 26, 27, 28, 29, 30, 31, 32, 33, 34, 35, 36, 37, 38, 39, 40, 41, 42, 43, 44, 45, 46, 47, 48, 49, 50, 51] (by decide +kernel) (by decide +kernel)) (goodIn_sub (fun _ h => List.mem_cons_of_mem _ (List.mem_append_left _ (List.mem_append_right _ h))) (by decide +kernel))) (goodIn_sub (fun _ h => List.mem_cons_of_mem _ (List.mem_append_right _ h)) (by decide +kernel))
set_option maxRecDepth 20000 in
theorem gL_openFor_X6_openFor : GoodIn wsL_openFor (wsV RL 48 RX6 yX6_openFor wsX6_openFor) := goodIn_app (goodIn_of _ (by decide +kernel)) ggL_openFor_X6_openFor
theorem dL_openFor_0 : decode cL_openFor 0 = .ok (.aload_n 3, 1) := by decide +kernel
theorem dL_openFor_1 : decode cL_openFor 1 = .ok (.iconst 0, 1) := by decide +kernel
theorem dL_openFor_2 : decode cL_openFor 2 = .ok (.aload_n 0, 1) := by decide +kernel
theorem dL_openFor_3 : decode cL_openFor 3 = .ok (.iload_n 1, 1) := by decide +kernel
theorem dL_openFor_4 : decode cL_openFor 4 = .ok (.iload_n 2, 1) := by decide +kernel
theorem dL_openFor_5 : decode cL_openFor 5 = .ok (.invokevirtual 48, 3) := by decide +kernel
theorem dL_openFor_8 : decode cL_openFor 8 = .ok (.i2l, 1) := by decide +kernel
theorem dL_openFor_9 : decode cL_openFor 9 = .ok (.lastore, 1) := by decide +kernel
theorem dL_openFor_10 : decode cL_openFor 10 = .ok (.goto 11, 3) := by decide +kernel
theorem dL_openFor_13 : decode cL_openFor 13 = .ok (.astore 4, 2) := by decide +kernel
theorem dL_openFor_15 : decode cL_openFor 15 = .ok (.iconst 1, 1) := by decide +kernel
theorem dL_openFor_16 : decode cL_openFor 16 = .ok (.ireturn, 1) := by decide +kernel
theorem dL_openFor_17 : decode cL_openFor 17 = .ok (.astore 4, 2) := by decide +kernel
theorem dL_openFor_19 : decode cL_openFor 19 = .ok (.iconst 2, 1) := by decide +kernel
theorem dL_openFor_20 : decode cL_openFor 20 = .ok (.ireturn, 1) := by decide +kernel
theorem dL_openFor_21 : decode cL_openFor 21 = .ok (.iconst 0, 1) := by decide +kernel
theorem dL_openFor_22 : decode cL_openFor 22 = .ok (.ireturn, 1) := by decide +kernel
set_option maxRecDepth 20000 in
theorem ggL_voteOf_X6_voteOf : GoodIn wsL_voteOf wsX6_voteOf := goodIn_ca (goodIn_ca (goodIn_r _ [7, 8, 9, 10, 11, 6, 12, 13, 14, 15, 16, 17, 18, 19, 20, 21, 22, 23, 24, 25, 26, 27, 28, 29, 30, 31, 32, 33, 34, 35, 36, 37, 38, 39, 40, 41, 42, 43, 44, 45, 46, 47, 48, 49, 50, 51, 52, 53, 54, 55, 56, 57, 58, 59, 60] (by decide +kernel) (by decide +kernel)) (goodIn_sub (fun _ h => List.mem_cons_of_mem _ (List.mem_append_left _ (List.mem_append_right _ h))) (by decide +kernel))) (goodIn_sub (fun _ h => List.mem_cons_of_mem _ (List.mem_append_right _ h)) (by decide +kernel))
set_option maxRecDepth 20000 in
theorem gL_voteOf_X6_voteOf : GoodIn wsL_voteOf (wsV RL 53 RX6 yX6_voteOf wsX6_voteOf) := goodIn_app (goodIn_of _ (by decide +kernel)) ggL_voteOf_X6_voteOf
theorem dL_voteOf_0 : decode cL_voteOf 0 = .ok (.aload 4, 2) := by decide +kernel
theorem dL_voteOf_2 : decode cL_voteOf 2 = .ok (.iconst 0, 1) := by decide +kernel
theorem dL_voteOf_3 : decode cL_voteOf 3 = .ok (.aload_n 0, 1) := by decide +kernel
theorem dL_voteOf_4 : decode cL_voteOf 4 = .ok (.iload_n 1, 1) := by decide +kernel
theorem dL_voteOf_5 : decode cL_voteOf 5 = .ok (.iload_n 2, 1) := by decide +kernel
theorem dL_voteOf_6 : decode cL_voteOf 6 = .ok (.iload_n 3, 1) := by decide +kernel
theorem dL_voteOf_7 : decode cL_voteOf 7 = .ok (.invokevirtual 53, 3) := by decide +kernel
theorem dL_voteOf_10 : decode cL_voteOf 10 = .ok (.i2l, 1) := by decide +kernel
theorem dL_voteOf_11 : decode cL_voteOf 11 = .ok (.lastore, 1) := by decide +kernel
theorem dL_voteOf_12 : decode cL_voteOf 12 = .ok (.goto 11, 3) := by decide +kernel
theorem dL_voteOf_15 : decode cL_voteOf 15 = .ok (.astore 5, 2) := by decide +kernel
theorem dL_voteOf_17 : decode cL_voteOf 17 = .ok (.iconst 1, 1) := by decide +kernel
theorem dL_voteOf_18 : decode cL_voteOf 18 = .ok (.ireturn, 1) := by decide +kernel
theorem dL_voteOf_19 : decode cL_voteOf 19 = .ok (.astore 5, 2) := by decide +kernel
theorem dL_voteOf_21 : decode cL_voteOf 21 = .ok (.iconst 2, 1) := by decide +kernel
theorem dL_voteOf_22 : decode cL_voteOf 22 = .ok (.ireturn, 1) := by decide +kernel
theorem dL_voteOf_23 : decode cL_voteOf 23 = .ok (.iconst 0, 1) := by decide +kernel
theorem dL_voteOf_24 : decode cL_voteOf 24 = .ok (.ireturn, 1) := by decide +kernel
set_option maxRecDepth 20000 in
theorem ggL_voteTill_X6_voteTill : GoodIn wsL_voteTill wsX6_voteTill := goodIn_ca (goodIn_ca (goodIn_r _ [7, 8, 9, 10, 11, 6, 12, 13, 14, 15, 16, 17, 18, 19, 20, 21, 22, 23, 24, 25, 26, 27, 28, 29, 30, 31, 32, 33, 34, 35, 36, 37, 38, 39, 40, 41, 42, 43, 44, 45, 46, 47, 48, 49, 50, 51, 52, 53, 54, 55, 56, 57, 58, 59, 60] (by decide +kernel) (by decide +kernel)) (goodIn_sub (fun _ h => List.mem_cons_of_mem _ (List.mem_append_left _ (List.mem_append_right _ h))) (by decide +kernel))) (goodIn_sub (fun _ h => List.mem_cons_of_mem _ (List.mem_append_right _ h)) (by decide +kernel))
set_option maxRecDepth 20000 in
theorem gL_voteTill_X6_voteTill : GoodIn wsL_voteTill (wsV RL 56 RX6 yX6_voteTill wsX6_voteTill) := goodIn_app (goodIn_of _ (by decide +kernel)) ggL_voteTill_X6_voteTill
theorem dL_voteTill_0 : decode cL_voteTill 0 = .ok (.aload 4, 2) := by decide +kernel
theorem dL_voteTill_2 : decode cL_voteTill 2 = .ok (.iconst 0, 1) := by decide +kernel
theorem dL_voteTill_3 : decode cL_voteTill 3 = .ok (.aload_n 0, 1) := by decide +kernel
theorem dL_voteTill_4 : decode cL_voteTill 4 = .ok (.iload_n 1, 1) := by decide +kernel
theorem dL_voteTill_5 : decode cL_voteTill 5 = .ok (.iload_n 2, 1) := by decide +kernel
theorem dL_voteTill_6 : decode cL_voteTill 6 = .ok (.iload_n 3, 1) := by decide +kernel
theorem dL_voteTill_7 : decode cL_voteTill 7 = .ok (.invokevirtual 56, 3) := by decide +kernel
theorem dL_voteTill_10 : decode cL_voteTill 10 = .ok (.i2l, 1) := by decide +kernel
theorem dL_voteTill_11 : decode cL_voteTill 11 = .ok (.lastore, 1) := by decide +kernel
theorem dL_voteTill_12 : decode cL_voteTill 12 = .ok (.goto 11, 3) := by decide +kernel
theorem dL_voteTill_15 : decode cL_voteTill 15 = .ok (.astore 5, 2) := by decide +kernel
theorem dL_voteTill_17 : decode cL_voteTill 17 = .ok (.iconst 1, 1) := by decide +kernel
theorem dL_voteTill_18 : decode cL_voteTill 18 = .ok (.ireturn, 1) := by decide +kernel
theorem dL_voteTill_19 : decode cL_voteTill 19 = .ok (.astore 5, 2) := by decide +kernel
theorem dL_voteTill_21 : decode cL_voteTill 21 = .ok (.iconst 2, 1) := by decide +kernel
theorem dL_voteTill_22 : decode cL_voteTill 22 = .ok (.ireturn, 1) := by decide +kernel
theorem dL_voteTill_23 : decode cL_voteTill 23 = .ok (.iconst 0, 1) := by decide +kernel
theorem dL_voteTill_24 : decode cL_voteTill 24 = .ok (.ireturn, 1) := by decide +kernel
set_option maxRecDepth 20000 in
theorem ggL_near_X6_near : GoodIn wsL_near wsX6_near := goodIn_ca (goodIn_r _ [6, 7, 8, 9, 5, 10, 11, 12, 13, 14, 15, 16, 17, 18, 19, 20, 21, 22, 23, 24, 25, 26, 27, 28, 29, 30, 31, 32, 33, 34, 35, 36, 37, 38, 39, 40, 41, 42, 43, 44, 45, 46, 47, 48, 49, 50, 51] (by decide +kernel) (by decide +kernel)) (goodIn_sub (fun _ h => List.mem_cons_of_mem _ (List.mem_append_right _ h)) (by decide +kernel))
set_option maxRecDepth 20000 in
theorem gL_near_X6_near : GoodIn wsL_near (wsV RL 59 RX6 yX6_near wsX6_near) := goodIn_app (goodIn_of _ (by decide +kernel)) ggL_near_X6_near
theorem dL_near_0 : decode cL_near 0 = .ok (.aload_n 3, 1) := by decide +kernel
theorem dL_near_1 : decode cL_near 1 = .ok (.iconst 0, 1) := by decide +kernel
theorem dL_near_2 : decode cL_near 2 = .ok (.aload_n 0, 1) := by decide +kernel
theorem dL_near_3 : decode cL_near 3 = .ok (.iload_n 1, 1) := by decide +kernel
theorem dL_near_4 : decode cL_near 4 = .ok (.iload_n 2, 1) := by decide +kernel
theorem dL_near_5 : decode cL_near 5 = .ok (.invokevirtual 59, 3) := by decide +kernel
theorem dL_near_8 : decode cL_near 8 = .ok (.i2l, 1) := by decide +kernel
theorem dL_near_9 : decode cL_near 9 = .ok (.lastore, 1) := by decide +kernel
theorem dL_near_10 : decode cL_near 10 = .ok (.goto 7, 3) := by decide +kernel
theorem dL_near_13 : decode cL_near 13 = .ok (.astore 4, 2) := by decide +kernel
theorem dL_near_15 : decode cL_near 15 = .ok (.iconst 1, 1) := by decide +kernel
theorem dL_near_16 : decode cL_near 16 = .ok (.ireturn, 1) := by decide +kernel
theorem dL_near_17 : decode cL_near 17 = .ok (.iconst 0, 1) := by decide +kernel
theorem dL_near_18 : decode cL_near 18 = .ok (.ireturn, 1) := by decide +kernel
set_option maxRecDepth 20000 in
theorem ggL_tower_X6_tower : GoodIn wsL_tower wsX6_tower := goodIn_ca (goodIn_r _ [6, 7, 8, 9, 10, 5, 11, 12, 13, 14, 15, 16, 17, 18, 19, 20, 21, 22, 23, 24, 25, 26, 27, 28, 29, 30, 31, 32, 33, 34, 35, 36, 37, 38, 39, 40, 41, 42, 43, 44, 45, 46, 47, 48, 49, 50, 51, 52] (by decide +kernel) (by decide +kernel)) (goodIn_sub (fun _ h => List.mem_cons_of_mem _ (List.mem_append_right _ h)) (by decide +kernel))
set_option maxRecDepth 20000 in
theorem gL_tower_X6_tower : GoodIn wsL_tower (wsV RL 62 RX6 yX6_tower wsX6_tower) := goodIn_app (goodIn_of _ (by decide +kernel)) ggL_tower_X6_tower
theorem dL_tower_0 : decode cL_tower 0 = .ok (.aload_n 3, 1) := by decide +kernel
theorem dL_tower_1 : decode cL_tower 1 = .ok (.iconst 0, 1) := by decide +kernel
theorem dL_tower_2 : decode cL_tower 2 = .ok (.aload_n 0, 1) := by decide +kernel
theorem dL_tower_3 : decode cL_tower 3 = .ok (.iload_n 1, 1) := by decide +kernel
theorem dL_tower_4 : decode cL_tower 4 = .ok (.iload_n 2, 1) := by decide +kernel
theorem dL_tower_5 : decode cL_tower 5 = .ok (.invokevirtual 62, 3) := by decide +kernel
theorem dL_tower_8 : decode cL_tower 8 = .ok (.i2l, 1) := by decide +kernel
theorem dL_tower_9 : decode cL_tower 9 = .ok (.lastore, 1) := by decide +kernel
theorem dL_tower_10 : decode cL_tower 10 = .ok (.goto 7, 3) := by decide +kernel
theorem dL_tower_13 : decode cL_tower 13 = .ok (.astore 4, 2) := by decide +kernel
theorem dL_tower_15 : decode cL_tower 15 = .ok (.iconst 1, 1) := by decide +kernel
theorem dL_tower_16 : decode cL_tower 16 = .ok (.ireturn, 1) := by decide +kernel
theorem dL_tower_17 : decode cL_tower 17 = .ok (.iconst 0, 1) := by decide +kernel
theorem dL_tower_18 : decode cL_tower 18 = .ok (.ireturn, 1) := by decide +kernel
set_option maxRecDepth 20000 in
theorem ggL_order_X6_order : GoodIn wsL_order wsX6_order := goodIn_ca (goodIn_ca (goodIn_ca (goodIn_ca (goodIn_r _ [9, 10, 11, 12, 13, 14, 15, 16, 17, 8, 18, 19, 20, 21, 22, 23, 24, 25, 26, 27, 28, 29, 30, 31, 32, 33, 34, 35, 36, 37, 38, 39, 40, 41, 42, 43, 44, 45, 46, 47, 48, 49, 50, 51, 52, 53, 54, 55, 56, 57, 58, 59, 60, 61, 62, 63, 64, 65, 66, 67, 68, 69, 70, 71, 72, 73, 74, 75, 76, 77, 78, 79, 80, 81, 82, 83, 84, 85, 86, 87, 88, 89, 90, 91, 92, 93, 94, 95, 96, 97, 98, 99, 100, 101, 102, 103, 104, 105, 106, 107, 108, 109, 110, 111, 112, 113, 114, 115, 116, 117, 118, 119, 120, 121, 122, 123, 124, 125, 126, 127, 128, 129, 130, 131, 132, 133, 134, 135, 136, 137, 138, 139, 140, 141, 142, 143, 144, 145, 146, 147, 148, 149, 150, 151, 152, 153, 154, 155] (by decide +kernel) (by decide +kernel)) (goodIn_sub (fun _ h => List.mem_cons_of_mem _ (List.mem_append_left _ (List.mem_append_left _ (List.mem_append_left _ (List.mem_append_right _ h))))) (by decide +kernel))) (goodIn_sub (fun _ h => List.mem_cons_of_mem _ (List.mem_append_left _ (List.mem_append_left _ (List.mem_append_right _ h)))) (by decide +kernel))) (goodIn_sub (fun _ h => List.mem_cons_of_mem _ (List.mem_append_left _ (List.mem_append_right _ h))) (by decide +kernel))) (goodIn_sub (fun _ h => List.mem_cons_of_mem _ (List.mem_append_right _ h)) (by decide +kernel))
set_option maxRecDepth 20000 in
theorem gL_order_X6_order : GoodIn wsL_order (wsV RL 66 RX6 yX6_order wsX6_order) := goodIn_app (goodIn_of _ (by decide +kernel)) ggL_order_X6_order
theorem dL_order_0 : decode cL_order 0 = .ok (.aload 6, 2) := by decide +kernel
theorem dL_order_2 : decode cL_order 2 = .ok (.iconst 0, 1) := by decide +kernel
theorem dL_order_3 : decode cL_order 3 = .ok (.aload_n 0, 1) := by decide +kernel
theorem dL_order_4 : decode cL_order 4 = .ok (.iload_n 1, 1) := by decide +kernel
theorem dL_order_5 : decode cL_order 5 = .ok (.iload_n 2, 1) := by decide +kernel
theorem dL_order_6 : decode cL_order 6 = .ok (.iload_n 3, 1) := by decide +kernel
theorem dL_order_7 : decode cL_order 7 = .ok (.iload 4, 2) := by decide +kernel
theorem dL_order_9 : decode cL_order 9 = .ok (.iload 5, 2) := by decide +kernel
theorem dL_order_11 : decode cL_order 11 = .ok (.invokevirtual 66, 3) := by decide +kernel
theorem dL_order_14 : decode cL_order 14 = .ok (.i2l, 1) := by decide +kernel
theorem dL_order_15 : decode cL_order 15 = .ok (.lastore, 1) := by decide +kernel
theorem dL_order_16 : decode cL_order 16 = .ok (.goto 19, 3) := by decide +kernel
theorem dL_order_19 : decode cL_order 19 = .ok (.astore 7, 2) := by decide +kernel
theorem dL_order_21 : decode cL_order 21 = .ok (.iconst 1, 1) := by decide +kernel
theorem dL_order_22 : decode cL_order 22 = .ok (.ireturn, 1) := by decide +kernel
theorem dL_order_23 : decode cL_order 23 = .ok (.astore 7, 2) := by decide +kernel
theorem dL_order_25 : decode cL_order 25 = .ok (.iconst 2, 1) := by decide +kernel
theorem dL_order_26 : decode cL_order 26 = .ok (.ireturn, 1) := by decide +kernel
theorem dL_order_27 : decode cL_order 27 = .ok (.astore 7, 2) := by decide +kernel
theorem dL_order_29 : decode cL_order 29 = .ok (.iconst 3, 1) := by decide +kernel
theorem dL_order_30 : decode cL_order 30 = .ok (.ireturn, 1) := by decide +kernel
theorem dL_order_31 : decode cL_order 31 = .ok (.astore 7, 2) := by decide +kernel
theorem dL_order_33 : decode cL_order 33 = .ok (.iconst 4, 1) := by decide +kernel
theorem dL_order_34 : decode cL_order 34 = .ok (.ireturn, 1) := by decide +kernel
theorem dL_order_35 : decode cL_order 35 = .ok (.iconst 0, 1) := by decide +kernel
theorem dL_order_36 : decode cL_order 36 = .ok (.ireturn, 1) := by decide +kernel
set_option maxRecDepth 20000 in
theorem ggL_spread_X6_spread : GoodIn wsL_spread wsX6_spread := goodIn_ca (goodIn_r _ [6, 7, 8, 9, 5, 10, 11, 12, 13, 14, 15, 16, 17, 18, 19, 20, 21, 22, 23, 24, 25, 26, 27, 28, 29, 30, 31, 32, 33, 34, 35, 36, 37, 38, 39, 40, 41, 42, 43, 44, 45, 46, 47, 48, 49, 50, 51, 52, 53, 54, 55, 56, 57, 58, 59, 60, 61, 62, 63, 64, 65, 66, 67] (by decide +kernel) (by decide +kernel)) (goodIn_sub (fun _ h => List.mem_cons_of_mem _ (List.mem_append_right _ h)) (by decide +kernel))
set_option maxRecDepth 20000 in
theorem gL_spread_X6_spread : GoodIn wsL_spread (wsV RL 72 RX6 yX6_spread wsX6_spread) := goodIn_app (goodIn_of _ (by decide +kernel)) ggL_spread_X6_spread
theorem dL_spread_0 : decode cL_spread 0 = .ok (.aload_n 2, 1) := by decide +kernel
theorem dL_spread_1 : decode cL_spread 1 = .ok (.iconst 0, 1) := by decide +kernel
theorem dL_spread_2 : decode cL_spread 2 = .ok (.aload_n 0, 1) := by decide +kernel
theorem dL_spread_3 : decode cL_spread 3 = .ok (.iload_n 1, 1) := by decide +kernel
theorem dL_spread_4 : decode cL_spread 4 = .ok (.invokevirtual 72, 3) := by decide +kernel
theorem dL_spread_7 : decode cL_spread 7 = .ok (.i2l, 1) := by decide +kernel
theorem dL_spread_8 : decode cL_spread 8 = .ok (.lastore, 1) := by decide +kernel
theorem dL_spread_9 : decode cL_spread 9 = .ok (.goto 6, 3) := by decide +kernel
theorem dL_spread_12 : decode cL_spread 12 = .ok (.astore_n 3, 1) := by decide +kernel
theorem dL_spread_13 : decode cL_spread 13 = .ok (.iconst 1, 1) := by decide +kernel
theorem dL_spread_14 : decode cL_spread 14 = .ok (.ireturn, 1) := by decide +kernel
theorem dL_spread_15 : decode cL_spread 15 = .ok (.iconst 0, 1) := by decide +kernel
theorem dL_spread_16 : decode cL_spread 16 = .ok (.ireturn, 1) := by decide +kernel
set_option maxRecDepth 20000 in
theorem ggL_strike_X6_strike : GoodIn wsL_strike wsX6_strike := goodIn_ca (goodIn_r _ [6, 7, 8, 9, 10, 5, 11, 12, 13, 14, 15, 16, 17, 18, 19, 20, 21, 22, 23, 24, 25, 26, 27, 28, 29, 30, 31, 32, 33, 34, 35, 36, 37, 38, 39, 40, 41, 42, 43, 44, 45, 46, 47, 48, 49, 50, 51, 52, 53, 54, 55] (by decide +kernel) (by decide +kernel)) (goodIn_sub (fun _ h => List.mem_cons_of_mem _ (List.mem_append_right _ h)) (by decide +kernel))
set_option maxRecDepth 20000 in
theorem gL_strike_X6_strike : GoodIn wsL_strike (wsV RL 75 RX6 yX6_strike wsX6_strike) := goodIn_app (goodIn_of _ (by decide +kernel)) ggL_strike_X6_strike
theorem dL_strike_0 : decode cL_strike 0 = .ok (.aload_n 2, 1) := by decide +kernel
theorem dL_strike_1 : decode cL_strike 1 = .ok (.iconst 0, 1) := by decide +kernel
theorem dL_strike_2 : decode cL_strike 2 = .ok (.aload_n 0, 1) := by decide +kernel
theorem dL_strike_3 : decode cL_strike 3 = .ok (.iload_n 1, 1) := by decide +kernel
theorem dL_strike_4 : decode cL_strike 4 = .ok (.invokevirtual 75, 3) := by decide +kernel
theorem dL_strike_7 : decode cL_strike 7 = .ok (.i2l, 1) := by decide +kernel
theorem dL_strike_8 : decode cL_strike 8 = .ok (.lastore, 1) := by decide +kernel
theorem dL_strike_9 : decode cL_strike 9 = .ok (.goto 6, 3) := by decide +kernel
theorem dL_strike_12 : decode cL_strike 12 = .ok (.astore_n 3, 1) := by decide +kernel
theorem dL_strike_13 : decode cL_strike 13 = .ok (.iconst 1, 1) := by decide +kernel
theorem dL_strike_14 : decode cL_strike 14 = .ok (.ireturn, 1) := by decide +kernel
theorem dL_strike_15 : decode cL_strike 15 = .ok (.iconst 0, 1) := by decide +kernel
theorem dL_strike_16 : decode cL_strike 16 = .ok (.ireturn, 1) := by decide +kernel
set_option maxRecDepth 20000 in
theorem ggL_entries_X6_entries : GoodIn wsL_entries wsX6_entries := goodIn_ca (goodIn_r _ [6, 7, 8, 9, 10, 11, 5, 12, 13, 14, 15, 16, 17, 18, 19, 20, 21, 22, 23, 24, 25, 26, 27, 28, 29, 30, 31, 32, 33, 34, 35, 36, 37, 38, 39, 40, 41, 42, 43] (by decide +kernel) (by decide +kernel)) (goodIn_sub (fun _ h => List.mem_cons_of_mem _ (List.mem_append_right _ h)) (by decide +kernel))
set_option maxRecDepth 20000 in
theorem gL_entries_X6_entries : GoodIn wsL_entries (wsV RL 78 RX6 yX6_entries wsX6_entries) := goodIn_app (goodIn_of _ (by decide +kernel)) ggL_entries_X6_entries
theorem dL_entries_0 : decode cL_entries 0 = .ok (.aload_n 2, 1) := by decide +kernel
theorem dL_entries_1 : decode cL_entries 1 = .ok (.iconst 0, 1) := by decide +kernel
theorem dL_entries_2 : decode cL_entries 2 = .ok (.aload_n 0, 1) := by decide +kernel
theorem dL_entries_3 : decode cL_entries 3 = .ok (.iload_n 1, 1) := by decide +kernel
theorem dL_entries_4 : decode cL_entries 4 = .ok (.invokevirtual 78, 3) := by decide +kernel
theorem dL_entries_7 : decode cL_entries 7 = .ok (.i2l, 1) := by decide +kernel
theorem dL_entries_8 : decode cL_entries 8 = .ok (.lastore, 1) := by decide +kernel
theorem dL_entries_9 : decode cL_entries 9 = .ok (.goto 6, 3) := by decide +kernel
theorem dL_entries_12 : decode cL_entries 12 = .ok (.astore_n 3, 1) := by decide +kernel
theorem dL_entries_13 : decode cL_entries 13 = .ok (.iconst 1, 1) := by decide +kernel
theorem dL_entries_14 : decode cL_entries 14 = .ok (.ireturn, 1) := by decide +kernel
theorem dL_entries_15 : decode cL_entries 15 = .ok (.iconst 0, 1) := by decide +kernel
theorem dL_entries_16 : decode cL_entries 16 = .ok (.ireturn, 1) := by decide +kernel
set_option maxRecDepth 20000 in
theorem ggL_counting_X6_counting : GoodIn wsL_counting wsX6_counting := goodIn_ca (goodIn_r _ [6, 7, 8, 9, 10, 5, 11, 12, 13, 14, 15, 16, 17, 18, 19, 20, 21, 22, 23, 24, 25, 26, 27, 28, 29, 30, 31, 32, 33, 34, 35, 36, 37, 38, 39, 40, 41, 42, 43, 44, 45, 46, 47, 48, 49, 50] (by decide +kernel) (by decide +kernel)) (goodIn_sub (fun _ h => List.mem_cons_of_mem _ (List.mem_append_right _ h)) (by decide +kernel))
set_option maxRecDepth 20000 in
theorem gL_counting_X6_counting : GoodIn wsL_counting (wsV RL 81 RX6 yX6_counting wsX6_counting) := goodIn_app (goodIn_of _ (by decide +kernel)) ggL_counting_X6_counting
theorem dL_counting_0 : decode cL_counting 0 = .ok (.aload_n 2, 1) := by decide +kernel
theorem dL_counting_1 : decode cL_counting 1 = .ok (.iconst 0, 1) := by decide +kernel
theorem dL_counting_2 : decode cL_counting 2 = .ok (.aload_n 0, 1) := by decide +kernel
theorem dL_counting_3 : decode cL_counting 3 = .ok (.iload_n 1, 1) := by decide +kernel
theorem dL_counting_4 : decode cL_counting 4 = .ok (.invokevirtual 81, 3) := by decide +kernel
theorem dL_counting_7 : decode cL_counting 7 = .ok (.i2l, 1) := by decide +kernel
theorem dL_counting_8 : decode cL_counting 8 = .ok (.lastore, 1) := by decide +kernel
theorem dL_counting_9 : decode cL_counting 9 = .ok (.goto 6, 3) := by decide +kernel
theorem dL_counting_12 : decode cL_counting 12 = .ok (.astore_n 3, 1) := by decide +kernel
theorem dL_counting_13 : decode cL_counting 13 = .ok (.iconst 1, 1) := by decide +kernel
theorem dL_counting_14 : decode cL_counting 14 = .ok (.ireturn, 1) := by decide +kernel
theorem dL_counting_15 : decode cL_counting 15 = .ok (.iconst 0, 1) := by decide +kernel
theorem dL_counting_16 : decode cL_counting 16 = .ok (.ireturn, 1) := by decide +kernel
set_option maxRecDepth 20000 in
theorem ggL_entryOf_X6_entryOf : GoodIn wsL_entryOf wsX6_entryOf := goodIn_ca (goodIn_r _ [6, 7, 8, 9, 10, 5, 11, 12, 13, 14, 15, 16, 17, 18, 19, 20, 21, 22, 23, 24, 25, 26, 27, 28, 29, 30, 31, 32, 33, 34, 35, 36, 37, 38, 39, 40, 41, 42, 43, 44, 45, 46, 47, 48] (by decide +kernel) (by decide +kernel)) (goodIn_sub (fun _ h => List.mem_cons_of_mem _ (List.mem_append_right _ h)) (by decide +kernel))
set_option maxRecDepth 20000 in
theorem gL_entryOf_X6_entryOf : GoodIn wsL_entryOf (wsV RL 84 RX6 yX6_entryOf wsX6_entryOf) := goodIn_app (goodIn_of _ (by decide +kernel)) ggL_entryOf_X6_entryOf
theorem dL_entryOf_0 : decode cL_entryOf 0 = .ok (.aload_n 3, 1) := by decide +kernel
theorem dL_entryOf_1 : decode cL_entryOf 1 = .ok (.iconst 0, 1) := by decide +kernel
theorem dL_entryOf_2 : decode cL_entryOf 2 = .ok (.aload_n 0, 1) := by decide +kernel
theorem dL_entryOf_3 : decode cL_entryOf 3 = .ok (.iload_n 1, 1) := by decide +kernel
theorem dL_entryOf_4 : decode cL_entryOf 4 = .ok (.iload_n 2, 1) := by decide +kernel
theorem dL_entryOf_5 : decode cL_entryOf 5 = .ok (.invokevirtual 84, 3) := by decide +kernel
theorem dL_entryOf_8 : decode cL_entryOf 8 = .ok (.i2l, 1) := by decide +kernel
theorem dL_entryOf_9 : decode cL_entryOf 9 = .ok (.lastore, 1) := by decide +kernel
theorem dL_entryOf_10 : decode cL_entryOf 10 = .ok (.goto 7, 3) := by decide +kernel
theorem dL_entryOf_13 : decode cL_entryOf 13 = .ok (.astore 4, 2) := by decide +kernel
theorem dL_entryOf_15 : decode cL_entryOf 15 = .ok (.iconst 1, 1) := by decide +kernel
theorem dL_entryOf_16 : decode cL_entryOf 16 = .ok (.ireturn, 1) := by decide +kernel
theorem dL_entryOf_17 : decode cL_entryOf 17 = .ok (.iconst 0, 1) := by decide +kernel
theorem dL_entryOf_18 : decode cL_entryOf 18 = .ok (.ireturn, 1) := by decide +kernel
set_option maxRecDepth 20000 in
theorem ggL_amountOf_X6_amountOf : GoodIn wsL_amountOf wsX6_amountOf := goodIn_ca (goodIn_r _ [6, 7, 8, 9, 10, 5, 11, 12, 13, 14, 15, 16, 17, 18, 19, 20, 21, 22, 23, 24, 25, 26, 27, 28, 29, 30, 31, 32, 33, 34, 35, 36, 37, 38, 39, 40, 41, 42, 43, 44, 45, 46, 47, 48] (by decide +kernel) (by decide +kernel)) (goodIn_sub (fun _ h => List.mem_cons_of_mem _ (List.mem_append_right _ h)) (by decide +kernel))
set_option maxRecDepth 20000 in
theorem gL_amountOf_X6_amountOf : GoodIn wsL_amountOf (wsV RL 87 RX6 yX6_amountOf wsX6_amountOf) := goodIn_app (goodIn_of _ (by decide +kernel)) ggL_amountOf_X6_amountOf
theorem dL_amountOf_0 : decode cL_amountOf 0 = .ok (.aload_n 3, 1) := by decide +kernel
theorem dL_amountOf_1 : decode cL_amountOf 1 = .ok (.iconst 0, 1) := by decide +kernel
theorem dL_amountOf_2 : decode cL_amountOf 2 = .ok (.aload_n 0, 1) := by decide +kernel
theorem dL_amountOf_3 : decode cL_amountOf 3 = .ok (.iload_n 1, 1) := by decide +kernel
theorem dL_amountOf_4 : decode cL_amountOf 4 = .ok (.iload_n 2, 1) := by decide +kernel
theorem dL_amountOf_5 : decode cL_amountOf 5 = .ok (.invokevirtual 87, 3) := by decide +kernel
theorem dL_amountOf_8 : decode cL_amountOf 8 = .ok (.i2l, 1) := by decide +kernel
theorem dL_amountOf_9 : decode cL_amountOf 9 = .ok (.lastore, 1) := by decide +kernel
theorem dL_amountOf_10 : decode cL_amountOf 10 = .ok (.goto 7, 3) := by decide +kernel
theorem dL_amountOf_13 : decode cL_amountOf 13 = .ok (.astore 4, 2) := by decide +kernel
theorem dL_amountOf_15 : decode cL_amountOf 15 = .ok (.iconst 1, 1) := by decide +kernel
theorem dL_amountOf_16 : decode cL_amountOf 16 = .ok (.ireturn, 1) := by decide +kernel
theorem dL_amountOf_17 : decode cL_amountOf 17 = .ok (.iconst 0, 1) := by decide +kernel
theorem dL_amountOf_18 : decode cL_amountOf 18 = .ok (.ireturn, 1) := by decide +kernel
set_option maxRecDepth 20000 in
theorem ggL_isCommitted_X6_isCommitted : GoodIn wsL_isCommitted wsX6_isCommitted := goodIn_ca (goodIn_r _ [6, 7, 8, 9, 10, 5, 11, 12, 13, 14, 15, 16, 17, 18, 19, 20, 21, 22, 23, 24, 25, 26, 27, 28, 29, 30, 31, 32, 33, 34, 35, 36, 37, 38, 39, 40, 41, 42, 43, 44, 45, 46, 47, 48] (by decide +kernel) (by decide +kernel)) (goodIn_sub (fun _ h => List.mem_cons_of_mem _ (List.mem_append_right _ h)) (by decide +kernel))
set_option maxRecDepth 20000 in
theorem gL_isCommitted_X6_isCommitted : GoodIn wsL_isCommitted (wsV RL 90 RX6 yX6_isCommitted wsX6_isCommitted) := goodIn_app (goodIn_of _ (by decide +kernel)) ggL_isCommitted_X6_isCommitted
theorem dL_isCommitted_0 : decode cL_isCommitted 0 = .ok (.aload_n 3, 1) := by decide +kernel
theorem dL_isCommitted_1 : decode cL_isCommitted 1 = .ok (.iconst 0, 1) := by decide +kernel
theorem dL_isCommitted_2 : decode cL_isCommitted 2 = .ok (.aload_n 0, 1) := by decide +kernel
theorem dL_isCommitted_3 : decode cL_isCommitted 3 = .ok (.iload_n 1, 1) := by decide +kernel
theorem dL_isCommitted_4 : decode cL_isCommitted 4 = .ok (.iload_n 2, 1) := by decide +kernel
theorem dL_isCommitted_5 : decode cL_isCommitted 5 = .ok (.invokevirtual 90, 3) := by decide +kernel
theorem dL_isCommitted_8 : decode cL_isCommitted 8 = .ok (.ifCond .eq 7, 3) := by decide +kernel
theorem dL_isCommitted_11 : decode cL_isCommitted 11 = .ok (.lconst 1, 1) := by decide +kernel
theorem dL_isCommitted_12 : decode cL_isCommitted 12 = .ok (.goto 4, 3) := by decide +kernel
theorem dL_isCommitted_15 : decode cL_isCommitted 15 = .ok (.lconst 0, 1) := by decide +kernel
theorem dL_isCommitted_16 : decode cL_isCommitted 16 = .ok (.lastore, 1) := by decide +kernel
theorem dL_isCommitted_17 : decode cL_isCommitted 17 = .ok (.goto 7, 3) := by decide +kernel
theorem dL_isCommitted_20 : decode cL_isCommitted 20 = .ok (.astore 4, 2) := by decide +kernel
theorem dL_isCommitted_22 : decode cL_isCommitted 22 = .ok (.iconst 1, 1) := by decide +kernel
theorem dL_isCommitted_23 : decode cL_isCommitted 23 = .ok (.ireturn, 1) := by decide +kernel
theorem dL_isCommitted_24 : decode cL_isCommitted 24 = .ok (.iconst 0, 1) := by decide +kernel
theorem dL_isCommitted_25 : decode cL_isCommitted 25 = .ok (.ireturn, 1) := by decide +kernel
set_option maxRecDepth 20000 in
theorem ggL_has_X6_has : GoodIn wsL_has wsX6_has := goodIn_ca (goodIn_r _ [6, 7, 8, 9, 10, 5, 11, 12, 13, 14, 15, 16, 17, 18, 19, 20, 21, 22, 23, 24, 25, 26, 27, 28, 29, 30, 31, 32, 33, 34, 35, 36, 37, 38, 39, 40, 41, 42, 43, 44, 45, 46, 47, 48, 49, 50, 51, 52, 53, 54, 55] (by decide +kernel) (by decide +kernel)) (goodIn_sub (fun _ h => List.mem_cons_of_mem _ (List.mem_append_right _ h)) (by decide +kernel))
set_option maxRecDepth 20000 in
theorem gL_has_X6_has : GoodIn wsL_has (wsV RL 93 RX6 yX6_has wsX6_has) := goodIn_app (goodIn_of _ (by decide +kernel)) ggL_has_X6_has
theorem dL_has_0 : decode cL_has 0 = .ok (.aload 4, 2) := by decide +kernel
theorem dL_has_2 : decode cL_has 2 = .ok (.iconst 0, 1) := by decide +kernel
theorem dL_has_3 : decode cL_has 3 = .ok (.aload_n 0, 1) := by decide +kernel
theorem dL_has_4 : decode cL_has 4 = .ok (.iload_n 1, 1) := by decide +kernel
theorem dL_has_5 : decode cL_has 5 = .ok (.iload_n 2, 1) := by decide +kernel
theorem dL_has_6 : decode cL_has 6 = .ok (.iload_n 3, 1) := by decide +kernel
theorem dL_has_7 : decode cL_has 7 = .ok (.invokevirtual 93, 3) := by decide +kernel
theorem dL_has_10 : decode cL_has 10 = .ok (.ifCond .eq 7, 3) := by decide +kernel
theorem dL_has_13 : decode cL_has 13 = .ok (.lconst 1, 1) := by decide +kernel
theorem dL_has_14 : decode cL_has 14 = .ok (.goto 4, 3) := by decide +kernel
theorem dL_has_17 : decode cL_has 17 = .ok (.lconst 0, 1) := by decide +kernel
theorem dL_has_18 : decode cL_has 18 = .ok (.lastore, 1) := by decide +kernel
theorem dL_has_19 : decode cL_has 19 = .ok (.goto 7, 3) := by decide +kernel
theorem dL_has_22 : decode cL_has 22 = .ok (.astore 5, 2) := by decide +kernel
theorem dL_has_24 : decode cL_has 24 = .ok (.iconst 1, 1) := by decide +kernel
theorem dL_has_25 : decode cL_has 25 = .ok (.ireturn, 1) := by decide +kernel
theorem dL_has_26 : decode cL_has 26 = .ok (.iconst 0, 1) := by decide +kernel
theorem dL_has_27 : decode cL_has 27 = .ok (.ireturn, 1) := by decide +kernel
set_option maxRecDepth 20000 in
theorem ggL_gold_X6_gold : GoodIn wsL_gold wsX6_gold := goodIn_ca (goodIn_r _ [6, 7, 8, 9, 10, 11, 5, 12, 13, 14, 15, 16, 17, 18, 19, 20, 21, 22, 23, 24, 25, 26, 27, 28, 29, 30, 31, 32, 33, 34, 35, 36, 37, 38, 39, 40, 41, 42, 43, 44, 45, 46, 47, 48, 49, 50, 51, 52, 53, 54, 55, 56, 57, 58, 59, 60, 61, 62, 63, 64, 65, 66, 67, 68, 69, 70, 71, 72, 73, 74, 75, 76, 77, 78, 79, 80, 81, 82, 83, 84, 85, 86] (by decide +kernel) (by decide +kernel)) (goodIn_sub (fun _ h => List.mem_cons_of_mem _ (List.mem_append_right _ h)) (by decide +kernel))
set_option maxRecDepth 20000 in
theorem gL_gold_X6_gold : GoodIn wsL_gold (wsV RL 97 RX6 yX6_gold wsX6_gold) := goodIn_app (goodIn_of _ (by decide +kernel)) ggL_gold_X6_gold
theorem dL_gold_0 : decode cL_gold 0 = .ok (.aload_n 3, 1) := by decide +kernel
theorem dL_gold_1 : decode cL_gold 1 = .ok (.iconst 0, 1) := by decide +kernel
theorem dL_gold_2 : decode cL_gold 2 = .ok (.aload_n 0, 1) := by decide +kernel
theorem dL_gold_3 : decode cL_gold 3 = .ok (.iload_n 1, 1) := by decide +kernel
theorem dL_gold_4 : decode cL_gold 4 = .ok (.iload_n 2, 1) := by decide +kernel
theorem dL_gold_5 : decode cL_gold 5 = .ok (.invokevirtual 97, 3) := by decide +kernel
theorem dL_gold_8 : decode cL_gold 8 = .ok (.i2l, 1) := by decide +kernel
theorem dL_gold_9 : decode cL_gold 9 = .ok (.lastore, 1) := by decide +kernel
theorem dL_gold_10 : decode cL_gold 10 = .ok (.goto 7, 3) := by decide +kernel
theorem dL_gold_13 : decode cL_gold 13 = .ok (.astore 4, 2) := by decide +kernel
theorem dL_gold_15 : decode cL_gold 15 = .ok (.iconst 1, 1) := by decide +kernel
theorem dL_gold_16 : decode cL_gold 16 = .ok (.ireturn, 1) := by decide +kernel
theorem dL_gold_17 : decode cL_gold 17 = .ok (.iconst 0, 1) := by decide +kernel
theorem dL_gold_18 : decode cL_gold 18 = .ok (.ireturn, 1) := by decide +kernel
set_option maxRecDepth 20000 in
theorem ggL_purse_X6_purse : GoodIn wsL_purse wsX6_purse := goodIn_ca (goodIn_r _ [6, 7, 8, 9, 10, 5, 11, 12, 13, 14, 15, 16, 17, 18, 19, 20, 21, 22, 23, 24, 25, 26, 27, 28, 29, 30, 31, 32, 33, 34, 35, 36, 37, 38, 39, 40, 41, 42, 43, 44, 45, 46, 47, 48, 49, 50, 51, 52, 53, 54, 55, 56, 57, 58, 59, 60, 61, 62, 63, 64, 65, 66, 67, 68, 69, 70, 71, 72, 73, 74, 75, 76, 77, 78, 79, 80, 81, 82, 83, 84, 85, 86, 87, 88] (by decide +kernel) (by decide +kernel)) (goodIn_sub (fun _ h => List.mem_cons_of_mem _ (List.mem_append_right _ h)) (by decide +kernel))
set_option maxRecDepth 20000 in
theorem gL_purse_X6_purse : GoodIn wsL_purse (wsV RL 101 RX6 yX6_purse wsX6_purse) := goodIn_app (goodIn_of _ (by decide +kernel)) ggL_purse_X6_purse
theorem dL_purse_0 : decode cL_purse 0 = .ok (.aload_n 3, 1) := by decide +kernel
theorem dL_purse_1 : decode cL_purse 1 = .ok (.iconst 0, 1) := by decide +kernel
theorem dL_purse_2 : decode cL_purse 2 = .ok (.aload_n 0, 1) := by decide +kernel
theorem dL_purse_3 : decode cL_purse 3 = .ok (.iload_n 1, 1) := by decide +kernel
theorem dL_purse_4 : decode cL_purse 4 = .ok (.iload_n 2, 1) := by decide +kernel
theorem dL_purse_5 : decode cL_purse 5 = .ok (.invokevirtual 101, 3) := by decide +kernel
theorem dL_purse_8 : decode cL_purse 8 = .ok (.i2l, 1) := by decide +kernel
theorem dL_purse_9 : decode cL_purse 9 = .ok (.lastore, 1) := by decide +kernel
theorem dL_purse_10 : decode cL_purse 10 = .ok (.goto 7, 3) := by decide +kernel
theorem dL_purse_13 : decode cL_purse 13 = .ok (.astore 4, 2) := by decide +kernel
theorem dL_purse_15 : decode cL_purse 15 = .ok (.iconst 1, 1) := by decide +kernel
theorem dL_purse_16 : decode cL_purse 16 = .ok (.ireturn, 1) := by decide +kernel
theorem dL_purse_17 : decode cL_purse 17 = .ok (.iconst 0, 1) := by decide +kernel
theorem dL_purse_18 : decode cL_purse 18 = .ok (.ireturn, 1) := by decide +kernel
set_option maxRecDepth 20000 in
theorem ggL_scout_X6_scout : GoodIn wsL_scout wsX6_scout := goodIn_ca (goodIn_ca (goodIn_ca (goodIn_r _ [8, 9, 10, 11, 12, 13, 14, 15, 16, 17, 18, 7, 19, 20, 21, 22, 23, 24, 25, 26, 27, 28, 29, 30, 31, 32, 33, 34, 35, 36, 37, 38, 39, 40, 41, 42, 43, 44, 45, 46, 47, 48, 49, 50, 51, 52, 53, 54, 55, 56, 57, 58, 59, 60, 61, 62, 63, 64, 65, 66, 67, 68, 69, 70, 71, 72, 73, 74, 75, 76, 77, 78, 79, 80, 81, 82, 83, 84, 85, 86, 87, 88, 89, 90, 91, 92, 93, 94, 95, 96, 97, 98, 99, 100, 101, 102, 103, 104, 105, 106, 107, 108, 109, 110, 111, 112, 113, 114, 115, 116, 117, 118, 119, 120, 121, 122, 123, 124, 125, 126, 127, 128, 129, 130, 131, 132, 133, 134, 135] (by decide +kernel) (by decide +kernel)) (goodIn_sub (fun _ h => List.mem_cons_of_mem _ (List.mem_append_left _ (List.mem_append_left _ (List.mem_append_right _ h)))) (by decide +kernel))) (goodIn_sub (fun _ h => List.mem_cons_of_mem _ (List.mem_append_left _ (List.mem_append_right _ h))) (by decide +kernel))) (goodIn_sub (fun _ h => List.mem_cons_of_mem _ (List.mem_append_right _ h)) (by decide +kernel))
set_option maxRecDepth 20000 in
theorem gL_scout_X6_scout : GoodIn wsL_scout (wsV RL 104 RX6 yX6_scout wsX6_scout) := goodIn_app (goodIn_of _ (by decide +kernel)) ggL_scout_X6_scout
theorem dL_scout_0 : decode cL_scout 0 = .ok (.aload_n 3, 1) := by decide +kernel
theorem dL_scout_1 : decode cL_scout 1 = .ok (.iconst 0, 1) := by decide +kernel
theorem dL_scout_2 : decode cL_scout 2 = .ok (.aload_n 0, 1) := by decide +kernel
theorem dL_scout_3 : decode cL_scout 3 = .ok (.iload_n 1, 1) := by decide +kernel
theorem dL_scout_4 : decode cL_scout 4 = .ok (.iload_n 2, 1) := by decide +kernel
theorem dL_scout_5 : decode cL_scout 5 = .ok (.invokevirtual 104, 3) := by decide +kernel
theorem dL_scout_8 : decode cL_scout 8 = .ok (.i2l, 1) := by decide +kernel
theorem dL_scout_9 : decode cL_scout 9 = .ok (.lastore, 1) := by decide +kernel
theorem dL_scout_10 : decode cL_scout 10 = .ok (.goto 15, 3) := by decide +kernel
theorem dL_scout_13 : decode cL_scout 13 = .ok (.astore 4, 2) := by decide +kernel
theorem dL_scout_15 : decode cL_scout 15 = .ok (.iconst 1, 1) := by decide +kernel
theorem dL_scout_16 : decode cL_scout 16 = .ok (.ireturn, 1) := by decide +kernel
theorem dL_scout_17 : decode cL_scout 17 = .ok (.astore 4, 2) := by decide +kernel
theorem dL_scout_19 : decode cL_scout 19 = .ok (.iconst 2, 1) := by decide +kernel
theorem dL_scout_20 : decode cL_scout 20 = .ok (.ireturn, 1) := by decide +kernel
theorem dL_scout_21 : decode cL_scout 21 = .ok (.astore 4, 2) := by decide +kernel
theorem dL_scout_23 : decode cL_scout 23 = .ok (.iconst 3, 1) := by decide +kernel
theorem dL_scout_24 : decode cL_scout 24 = .ok (.ireturn, 1) := by decide +kernel
theorem dL_scout_25 : decode cL_scout 25 = .ok (.iconst 0, 1) := by decide +kernel
theorem dL_scout_26 : decode cL_scout 26 = .ok (.ireturn, 1) := by decide +kernel
set_option maxRecDepth 20000 in
theorem ggL_read_X6_read : GoodIn wsL_read wsX6_read := goodIn_ca (goodIn_ca (goodIn_r _ [7, 8, 9, 10, 11, 12, 13, 14, 15, 6, 16, 17, 18, 19, 20, 21, 22, 23, 24, 25, 26, 27, 28, 29, 30, 31, 32, 33, 34, 35, 36, 37, 38, 39, 40, 41, 42, 43, 44, 45, 46, 47, 48, 49, 50, 51, 52] (by decide +kernel) (by decide +kernel)) (goodIn_sub (fun _ h => List.mem_cons_of_mem _ (List.mem_append_left _ (List.mem_append_right _ h))) (by decide +kernel))) (goodIn_sub (fun _ h => List.mem_cons_of_mem _ (List.mem_append_right _ h)) (by decide +kernel))
set_option maxRecDepth 20000 in
theorem gL_read_X6_read : GoodIn wsL_read (wsV RL 107 RX6 yX6_read wsX6_read) := goodIn_app (goodIn_of _ (by decide +kernel)) ggL_read_X6_read
theorem dL_read_0 : decode cL_read 0 = .ok (.aload_n 3, 1) := by decide +kernel
theorem dL_read_1 : decode cL_read 1 = .ok (.iconst 0, 1) := by decide +kernel
theorem dL_read_2 : decode cL_read 2 = .ok (.aload_n 0, 1) := by decide +kernel
theorem dL_read_3 : decode cL_read 3 = .ok (.iload_n 1, 1) := by decide +kernel
theorem dL_read_4 : decode cL_read 4 = .ok (.iload_n 2, 1) := by decide +kernel
theorem dL_read_5 : decode cL_read 5 = .ok (.invokevirtual 107, 3) := by decide +kernel
theorem dL_read_8 : decode cL_read 8 = .ok (.i2l, 1) := by decide +kernel
theorem dL_read_9 : decode cL_read 9 = .ok (.lastore, 1) := by decide +kernel
theorem dL_read_10 : decode cL_read 10 = .ok (.goto 11, 3) := by decide +kernel
theorem dL_read_13 : decode cL_read 13 = .ok (.astore 4, 2) := by decide +kernel
theorem dL_read_15 : decode cL_read 15 = .ok (.iconst 1, 1) := by decide +kernel
theorem dL_read_16 : decode cL_read 16 = .ok (.ireturn, 1) := by decide +kernel
theorem dL_read_17 : decode cL_read 17 = .ok (.astore 4, 2) := by decide +kernel
theorem dL_read_19 : decode cL_read 19 = .ok (.iconst 2, 1) := by decide +kernel
theorem dL_read_20 : decode cL_read 20 = .ok (.ireturn, 1) := by decide +kernel
theorem dL_read_21 : decode cL_read 21 = .ok (.iconst 0, 1) := by decide +kernel
theorem dL_read_22 : decode cL_read 22 = .ok (.ireturn, 1) := by decide +kernel
set_option maxRecDepth 20000 in
theorem ggL_raid_X6_raid : GoodIn wsL_raid wsX6_raid := goodIn_ca (goodIn_ca (goodIn_r _ [7, 8, 9, 10, 11, 12, 13, 14, 6, 15, 16, 17, 18, 19, 20, 21, 22, 23, 24, 25, 26, 27, 28, 29, 30, 31, 32, 33, 34, 35, 36, 37, 38, 39, 40, 41, 42, 43, 44, 45, 46, 47, 48, 49, 50, 51, 52, 53, 54, 55, 56, 57, 58, 59, 60, 61, 62, 63, 64, 65, 66, 67, 68, 69, 70, 71, 72, 73, 74, 75, 76, 77, 78, 79, 80, 81, 82, 83, 84, 85, 86, 87, 88, 89, 90, 91, 92, 93, 94, 95, 96, 97, 98, 99, 100, 101, 102, 103, 104, 105, 106, 107, 108, 109, 110, 111, 112, 113, 114, 115, 116, 117, 118, 119, 120, 121, 122, 123, 124, 125, 126, 127, 128, 129, 130, 131, 132, 133, 134, 135] (by decide +kernel) (by decide +kernel)) (goodIn_sub (fun _ h => List.mem_cons_of_mem _ (List.mem_append_left _ (List.mem_append_right _ h))) (by decide +kernel))) (goodIn_sub (fun _ h => List.mem_cons_of_mem _ (List.mem_append_right _ h)) (by decide +kernel))
set_option maxRecDepth 20000 in
theorem gL_raid_X6_raid : GoodIn wsL_raid (wsV RL 110 RX6 yX6_raid wsX6_raid) := goodIn_app (goodIn_of _ (by decide +kernel)) ggL_raid_X6_raid
theorem dL_raid_0 : decode cL_raid 0 = .ok (.aload_n 3, 1) := by decide +kernel
theorem dL_raid_1 : decode cL_raid 1 = .ok (.iconst 0, 1) := by decide +kernel
theorem dL_raid_2 : decode cL_raid 2 = .ok (.aload_n 0, 1) := by decide +kernel
theorem dL_raid_3 : decode cL_raid 3 = .ok (.iload_n 1, 1) := by decide +kernel
theorem dL_raid_4 : decode cL_raid 4 = .ok (.iload_n 2, 1) := by decide +kernel
theorem dL_raid_5 : decode cL_raid 5 = .ok (.invokevirtual 110, 3) := by decide +kernel
theorem dL_raid_8 : decode cL_raid 8 = .ok (.i2l, 1) := by decide +kernel
theorem dL_raid_9 : decode cL_raid 9 = .ok (.lastore, 1) := by decide +kernel
theorem dL_raid_10 : decode cL_raid 10 = .ok (.goto 11, 3) := by decide +kernel
theorem dL_raid_13 : decode cL_raid 13 = .ok (.astore 4, 2) := by decide +kernel
theorem dL_raid_15 : decode cL_raid 15 = .ok (.iconst 1, 1) := by decide +kernel
theorem dL_raid_16 : decode cL_raid 16 = .ok (.ireturn, 1) := by decide +kernel
theorem dL_raid_17 : decode cL_raid 17 = .ok (.astore 4, 2) := by decide +kernel
theorem dL_raid_19 : decode cL_raid 19 = .ok (.iconst 2, 1) := by decide +kernel
theorem dL_raid_20 : decode cL_raid 20 = .ok (.ireturn, 1) := by decide +kernel
theorem dL_raid_21 : decode cL_raid 21 = .ok (.iconst 0, 1) := by decide +kernel
theorem dL_raid_22 : decode cL_raid 22 = .ok (.ireturn, 1) := by decide +kernel
set_option maxRecDepth 20000 in
theorem ggL_won_X6_won : GoodIn wsL_won wsX6_won := goodIn_ca (goodIn_r _ [6, 7, 8, 9, 5, 10, 11, 12, 13, 14, 15, 16, 17, 18, 19, 20] (by decide +kernel) (by decide +kernel)) (goodIn_sub (fun _ h => List.mem_cons_of_mem _ (List.mem_append_right _ h)) (by decide +kernel))
set_option maxRecDepth 20000 in
theorem gL_won_X6_won : GoodIn wsL_won (wsV RL 113 RX6 yX6_won wsX6_won) := goodIn_app (goodIn_of _ (by decide +kernel)) ggL_won_X6_won
theorem dL_won_0 : decode cL_won 0 = .ok (.aload_n 2, 1) := by decide +kernel
theorem dL_won_1 : decode cL_won 1 = .ok (.iconst 0, 1) := by decide +kernel
theorem dL_won_2 : decode cL_won 2 = .ok (.aload_n 0, 1) := by decide +kernel
theorem dL_won_3 : decode cL_won 3 = .ok (.iload_n 1, 1) := by decide +kernel
theorem dL_won_4 : decode cL_won 4 = .ok (.invokevirtual 113, 3) := by decide +kernel
theorem dL_won_7 : decode cL_won 7 = .ok (.i2l, 1) := by decide +kernel
theorem dL_won_8 : decode cL_won 8 = .ok (.lastore, 1) := by decide +kernel
theorem dL_won_9 : decode cL_won 9 = .ok (.goto 6, 3) := by decide +kernel
theorem dL_won_12 : decode cL_won 12 = .ok (.astore_n 3, 1) := by decide +kernel
theorem dL_won_13 : decode cL_won 13 = .ok (.iconst 1, 1) := by decide +kernel
theorem dL_won_14 : decode cL_won 14 = .ok (.ireturn, 1) := by decide +kernel
theorem dL_won_15 : decode cL_won 15 = .ok (.iconst 0, 1) := by decide +kernel
theorem dL_won_16 : decode cL_won 16 = .ok (.ireturn, 1) := by decide +kernel
set_option maxRecDepth 20000 in
theorem ggL_truce_X6_truce : GoodIn wsL_truce wsX6_truce := goodIn_ca (goodIn_ca (goodIn_ca (goodIn_r _ [8, 9, 10, 11, 12, 13, 14, 7, 15, 16, 17, 18, 19, 20, 21, 22, 23, 24, 25, 26, 27, 28, 29, 30, 31, 32, 33, 34, 35, 36, 37, 38, 39, 40, 41, 42, 43] (by decide +kernel) (by decide +kernel)) (goodIn_sub (fun _ h => List.mem_cons_of_mem _ (List.mem_append_left _ (List.mem_append_left _ (List.mem_append_right _ h)))) (by decide +kernel))) (goodIn_sub (fun _ h => List.mem_cons_of_mem _ (List.mem_append_left _ (List.mem_append_right _ h))) (by decide +kernel))) (goodIn_sub (fun _ h => List.mem_cons_of_mem _ (List.mem_append_right _ h)) (by decide +kernel))
set_option maxRecDepth 20000 in
theorem gL_truce_X6_truce : GoodIn wsL_truce (wsV RL 116 RX6 yX6_truce wsX6_truce) := goodIn_app (goodIn_of _ (by decide +kernel)) ggL_truce_X6_truce
theorem dL_truce_0 : decode cL_truce 0 = .ok (.aload_n 3, 1) := by decide +kernel
theorem dL_truce_1 : decode cL_truce 1 = .ok (.iconst 0, 1) := by decide +kernel
theorem dL_truce_2 : decode cL_truce 2 = .ok (.aload_n 0, 1) := by decide +kernel
theorem dL_truce_3 : decode cL_truce 3 = .ok (.iload_n 1, 1) := by decide +kernel
theorem dL_truce_4 : decode cL_truce 4 = .ok (.iload_n 2, 1) := by decide +kernel
theorem dL_truce_5 : decode cL_truce 5 = .ok (.invokevirtual 116, 3) := by decide +kernel
theorem dL_truce_8 : decode cL_truce 8 = .ok (.i2l, 1) := by decide +kernel
theorem dL_truce_9 : decode cL_truce 9 = .ok (.lastore, 1) := by decide +kernel
theorem dL_truce_10 : decode cL_truce 10 = .ok (.goto 15, 3) := by decide +kernel
theorem dL_truce_13 : decode cL_truce 13 = .ok (.astore 4, 2) := by decide +kernel
theorem dL_truce_15 : decode cL_truce 15 = .ok (.iconst 1, 1) := by decide +kernel
theorem dL_truce_16 : decode cL_truce 16 = .ok (.ireturn, 1) := by decide +kernel
theorem dL_truce_17 : decode cL_truce 17 = .ok (.astore 4, 2) := by decide +kernel
theorem dL_truce_19 : decode cL_truce 19 = .ok (.iconst 2, 1) := by decide +kernel
theorem dL_truce_20 : decode cL_truce 20 = .ok (.ireturn, 1) := by decide +kernel
theorem dL_truce_21 : decode cL_truce 21 = .ok (.astore 4, 2) := by decide +kernel
theorem dL_truce_23 : decode cL_truce 23 = .ok (.iconst 3, 1) := by decide +kernel
theorem dL_truce_24 : decode cL_truce 24 = .ok (.ireturn, 1) := by decide +kernel
theorem dL_truce_25 : decode cL_truce 25 = .ok (.iconst 0, 1) := by decide +kernel
theorem dL_truce_26 : decode cL_truce 26 = .ok (.ireturn, 1) := by decide +kernel
set_option maxRecDepth 20000 in
theorem ggL_prepare_X6_prepare : GoodIn wsL_prepare wsX6_prepare := goodIn_ca (goodIn_ca (goodIn_ca (goodIn_r _ [8, 9, 10, 11, 12, 13, 14, 15, 16, 7, 17, 18, 19, 20, 21, 22, 23, 24, 25, 26, 27, 28, 29, 30, 31, 32, 33, 34, 35, 36, 37, 38, 39, 40, 41, 42, 43, 44, 45, 46, 47, 48, 49, 50, 51, 52, 53, 54, 55, 56, 57, 58, 59, 60, 61, 62, 63, 64, 65, 66, 67, 68, 69, 70, 71, 72, 73, 74, 75, 76, 77, 78, 79, 80, 81, 82, 83, 84, 85, 86, 87, 88, 89, 90, 91, 92, 93, 94, 95, 96, 97, 98, 99, 100, 101, 102, 103, 104, 105, 106, 107, 108, 109, 110, 111, 112, 113, 114, 115, 116, 117, 118, 119, 120, 121, 122, 123, 124, 125, 126, 127, 128, 129, 130, 131, 132, 133, 134, 135, 136, 137, 138, 139, 140, 141, 142, 143, 144, 145, 146, 147, 148, 149, 150, 151, 152, 153, 154, 155, 156, 157, 158, 159, 160, 161, 162, 163, 164, 165, 166, 167] (by decide +kernel) (by decide +kernel)) (goodIn_sub (fun _ h => List.mem_cons_of_mem _ (List.mem_append_left _ (List.mem_append_left _ (List.mem_append_right _ h)))) (by decide +kernel))) (goodIn_sub (fun _ h => List.mem_cons_of_mem _ (List.mem_append_left _ (List.mem_append_right _ h))) (by decide +kernel))) (goodIn_sub (fun _ h => List.mem_cons_of_mem _ (List.mem_append_right _ h)) (by decide +kernel))
set_option maxRecDepth 20000 in
theorem gL_prepare_X6_prepare : GoodIn wsL_prepare (wsV RL 119 RX6 yX6_prepare wsX6_prepare) := goodIn_app (goodIn_of _ (by decide +kernel)) ggL_prepare_X6_prepare
theorem dL_prepare_0 : decode cL_prepare 0 = .ok (.aload 4, 2) := by decide +kernel
theorem dL_prepare_2 : decode cL_prepare 2 = .ok (.iconst 0, 1) := by decide +kernel
theorem dL_prepare_3 : decode cL_prepare 3 = .ok (.aload_n 0, 1) := by decide +kernel
theorem dL_prepare_4 : decode cL_prepare 4 = .ok (.iload_n 1, 1) := by decide +kernel
theorem dL_prepare_5 : decode cL_prepare 5 = .ok (.iload_n 2, 1) := by decide +kernel
theorem dL_prepare_6 : decode cL_prepare 6 = .ok (.iload_n 3, 1) := by decide +kernel
theorem dL_prepare_7 : decode cL_prepare 7 = .ok (.invokevirtual 119, 3) := by decide +kernel
theorem dL_prepare_10 : decode cL_prepare 10 = .ok (.i2l, 1) := by decide +kernel
theorem dL_prepare_11 : decode cL_prepare 11 = .ok (.lastore, 1) := by decide +kernel
theorem dL_prepare_12 : decode cL_prepare 12 = .ok (.goto 15, 3) := by decide +kernel
theorem dL_prepare_15 : decode cL_prepare 15 = .ok (.astore 5, 2) := by decide +kernel
theorem dL_prepare_17 : decode cL_prepare 17 = .ok (.iconst 1, 1) := by decide +kernel
theorem dL_prepare_18 : decode cL_prepare 18 = .ok (.ireturn, 1) := by decide +kernel
theorem dL_prepare_19 : decode cL_prepare 19 = .ok (.astore 5, 2) := by decide +kernel
theorem dL_prepare_21 : decode cL_prepare 21 = .ok (.iconst 2, 1) := by decide +kernel
theorem dL_prepare_22 : decode cL_prepare 22 = .ok (.ireturn, 1) := by decide +kernel
theorem dL_prepare_23 : decode cL_prepare 23 = .ok (.astore 5, 2) := by decide +kernel
theorem dL_prepare_25 : decode cL_prepare 25 = .ok (.iconst 3, 1) := by decide +kernel
theorem dL_prepare_26 : decode cL_prepare 26 = .ok (.ireturn, 1) := by decide +kernel
theorem dL_prepare_27 : decode cL_prepare 27 = .ok (.iconst 0, 1) := by decide +kernel
theorem dL_prepare_28 : decode cL_prepare 28 = .ok (.ireturn, 1) := by decide +kernel
set_option maxRecDepth 20000 in
theorem ggL_decide_X6_decide : GoodIn wsL_decide wsX6_decide := goodIn_ca (goodIn_ca (goodIn_r _ [7, 8, 9, 10, 11, 12, 13, 6, 14, 15, 16, 17, 18, 19, 20, 21, 22, 23, 24, 25, 26, 27, 28, 29, 30, 31, 32, 33, 34, 35, 36, 37, 38, 39, 40, 41] (by decide +kernel) (by decide +kernel)) (goodIn_sub (fun _ h => List.mem_cons_of_mem _ (List.mem_append_left _ (List.mem_append_right _ h))) (by decide +kernel))) (goodIn_sub (fun _ h => List.mem_cons_of_mem _ (List.mem_append_right _ h)) (by decide +kernel))
set_option maxRecDepth 20000 in
theorem gL_decide_X6_decide : GoodIn wsL_decide (wsV RL 122 RX6 yX6_decide wsX6_decide) := goodIn_app (goodIn_of _ (by decide +kernel)) ggL_decide_X6_decide
theorem dL_decide_0 : decode cL_decide 0 = .ok (.aload_n 3, 1) := by decide +kernel
theorem dL_decide_1 : decode cL_decide 1 = .ok (.iconst 0, 1) := by decide +kernel
theorem dL_decide_2 : decode cL_decide 2 = .ok (.aload_n 0, 1) := by decide +kernel
theorem dL_decide_3 : decode cL_decide 3 = .ok (.iload_n 1, 1) := by decide +kernel
theorem dL_decide_4 : decode cL_decide 4 = .ok (.iload_n 2, 1) := by decide +kernel
theorem dL_decide_5 : decode cL_decide 5 = .ok (.invokevirtual 122, 3) := by decide +kernel
theorem dL_decide_8 : decode cL_decide 8 = .ok (.i2l, 1) := by decide +kernel
theorem dL_decide_9 : decode cL_decide 9 = .ok (.lastore, 1) := by decide +kernel
theorem dL_decide_10 : decode cL_decide 10 = .ok (.goto 11, 3) := by decide +kernel
theorem dL_decide_13 : decode cL_decide 13 = .ok (.astore 4, 2) := by decide +kernel
theorem dL_decide_15 : decode cL_decide 15 = .ok (.iconst 1, 1) := by decide +kernel
theorem dL_decide_16 : decode cL_decide 16 = .ok (.ireturn, 1) := by decide +kernel
theorem dL_decide_17 : decode cL_decide 17 = .ok (.astore 4, 2) := by decide +kernel
theorem dL_decide_19 : decode cL_decide 19 = .ok (.iconst 2, 1) := by decide +kernel
theorem dL_decide_20 : decode cL_decide 20 = .ok (.ireturn, 1) := by decide +kernel
theorem dL_decide_21 : decode cL_decide 21 = .ok (.iconst 0, 1) := by decide +kernel
theorem dL_decide_22 : decode cL_decide 22 = .ok (.ireturn, 1) := by decide +kernel
set_option maxRecDepth 20000 in
theorem ggL_settle_X6_settle : GoodIn wsL_settle wsX6_settle := goodIn_ca (goodIn_ca (goodIn_ca (goodIn_r _ [8, 9, 10, 11, 12, 13, 14, 15, 16, 17, 18, 19, 20, 7, 21, 22, 23, 24, 25, 26, 27, 28, 29, 30, 31, 32, 33, 34, 35, 36, 37, 38, 39, 40, 41, 42, 43, 44, 45, 46, 47, 48, 49, 50, 51, 52, 53, 54, 55, 56, 57, 58, 59, 60, 61, 62, 63, 64, 65, 66, 67, 68, 69, 70, 71, 72, 73, 74, 75, 76, 77, 78, 79, 80, 81, 82, 83, 84, 85, 86, 87, 88, 89, 90, 91, 92, 93, 94, 95, 96, 97, 98, 99, 100, 101, 102, 103, 104, 105, 106, 107, 108, 109, 110, 111, 112, 113, 114, 115, 116, 117] (by decide +kernel) (by decide +kernel)) (goodIn_sub (fun _ h => List.mem_cons_of_mem _ (List.mem_append_left _ (List.mem_append_left _ (List.mem_append_right _ h)))) (by decide +kernel))) (goodIn_sub (fun _ h => List.mem_cons_of_mem _ (List.mem_append_left _ (List.mem_append_right _ h))) (by decide +kernel))) (goodIn_sub (fun _ h => List.mem_cons_of_mem _ (List.mem_append_right _ h)) (by decide +kernel))
set_option maxRecDepth 20000 in
theorem gL_settle_X6_settle : GoodIn wsL_settle (wsV RL 125 RX6 yX6_settle wsX6_settle) := goodIn_app (goodIn_of _ (by decide +kernel)) ggL_settle_X6_settle
theorem dL_settle_0 : decode cL_settle 0 = .ok (.aload_n 2, 1) := by decide +kernel
theorem dL_settle_1 : decode cL_settle 1 = .ok (.iconst 0, 1) := by decide +kernel
theorem dL_settle_2 : decode cL_settle 2 = .ok (.aload_n 0, 1) := by decide +kernel
theorem dL_settle_3 : decode cL_settle 3 = .ok (.iload_n 1, 1) := by decide +kernel
theorem dL_settle_4 : decode cL_settle 4 = .ok (.invokevirtual 125, 3) := by decide +kernel
theorem dL_settle_7 : decode cL_settle 7 = .ok (.i2l, 1) := by decide +kernel
theorem dL_settle_8 : decode cL_settle 8 = .ok (.lastore, 1) := by decide +kernel
theorem dL_settle_9 : decode cL_settle 9 = .ok (.goto 12, 3) := by decide +kernel
theorem dL_settle_12 : decode cL_settle 12 = .ok (.astore_n 3, 1) := by decide +kernel
theorem dL_settle_13 : decode cL_settle 13 = .ok (.iconst 1, 1) := by decide +kernel
theorem dL_settle_14 : decode cL_settle 14 = .ok (.ireturn, 1) := by decide +kernel
theorem dL_settle_15 : decode cL_settle 15 = .ok (.astore_n 3, 1) := by decide +kernel
theorem dL_settle_16 : decode cL_settle 16 = .ok (.iconst 2, 1) := by decide +kernel
theorem dL_settle_17 : decode cL_settle 17 = .ok (.ireturn, 1) := by decide +kernel
theorem dL_settle_18 : decode cL_settle 18 = .ok (.astore_n 3, 1) := by decide +kernel
theorem dL_settle_19 : decode cL_settle 19 = .ok (.iconst 3, 1) := by decide +kernel
theorem dL_settle_20 : decode cL_settle 20 = .ok (.ireturn, 1) := by decide +kernel
theorem dL_settle_21 : decode cL_settle 21 = .ok (.iconst 0, 1) := by decide +kernel
theorem dL_settle_22 : decode cL_settle 22 = .ok (.ireturn, 1) := by decide +kernel
set_option maxRecDepth 20000 in
theorem ggL_truceOf_X6_truceOf : GoodIn wsL_truceOf wsX6_truceOf := goodIn_ca (goodIn_r _ [6, 7, 8, 9, 10, 5, 11, 12, 13, 14, 15, 16, 17, 18, 19, 20, 21, 22, 23, 24, 25, 26, 27, 28, 29, 30] (by decide +kernel) (by decide +kernel)) (goodIn_sub (fun _ h => List.mem_cons_of_mem _ (List.mem_append_right _ h)) (by decide +kernel))
set_option maxRecDepth 20000 in
theorem gL_truceOf_X6_truceOf : GoodIn wsL_truceOf (wsV RL 128 RX6 yX6_truceOf wsX6_truceOf) := goodIn_app (goodIn_of _ (by decide +kernel)) ggL_truceOf_X6_truceOf
theorem dL_truceOf_0 : decode cL_truceOf 0 = .ok (.aload_n 3, 1) := by decide +kernel
theorem dL_truceOf_1 : decode cL_truceOf 1 = .ok (.iconst 0, 1) := by decide +kernel
theorem dL_truceOf_2 : decode cL_truceOf 2 = .ok (.aload_n 0, 1) := by decide +kernel
theorem dL_truceOf_3 : decode cL_truceOf 3 = .ok (.iload_n 1, 1) := by decide +kernel
theorem dL_truceOf_4 : decode cL_truceOf 4 = .ok (.iload_n 2, 1) := by decide +kernel
theorem dL_truceOf_5 : decode cL_truceOf 5 = .ok (.invokevirtual 128, 3) := by decide +kernel
theorem dL_truceOf_8 : decode cL_truceOf 8 = .ok (.i2l, 1) := by decide +kernel
theorem dL_truceOf_9 : decode cL_truceOf 9 = .ok (.lastore, 1) := by decide +kernel
theorem dL_truceOf_10 : decode cL_truceOf 10 = .ok (.goto 7, 3) := by decide +kernel
theorem dL_truceOf_13 : decode cL_truceOf 13 = .ok (.astore 4, 2) := by decide +kernel
theorem dL_truceOf_15 : decode cL_truceOf 15 = .ok (.iconst 1, 1) := by decide +kernel
theorem dL_truceOf_16 : decode cL_truceOf 16 = .ok (.ireturn, 1) := by decide +kernel
theorem dL_truceOf_17 : decode cL_truceOf 17 = .ok (.iconst 0, 1) := by decide +kernel
theorem dL_truceOf_18 : decode cL_truceOf 18 = .ok (.ireturn, 1) := by decide +kernel
set_option maxRecDepth 20000 in
theorem ggL_upShare_X6_upShare : GoodIn wsL_upShare wsX6_upShare := goodIn_ca (goodIn_r _ [6, 7, 8, 9, 10, 11, 5, 12, 13, 14, 15, 16, 17, 18, 19, 20, 21, 22, 23, 24, 25, 26, 27, 28, 29, 30, 31, 32, 33, 34, 35, 36, 37, 38, 39, 40, 41, 42, 43] (by decide +kernel) (by decide +kernel)) (goodIn_sub (fun _ h => List.mem_cons_of_mem _ (List.mem_append_right _ h)) (by decide +kernel))
set_option maxRecDepth 20000 in
theorem gL_upShare_X6_upShare : GoodIn wsL_upShare (wsV RL 131 RX6 yX6_upShare wsX6_upShare) := goodIn_app (goodIn_of _ (by decide +kernel)) ggL_upShare_X6_upShare
theorem dL_upShare_0 : decode cL_upShare 0 = .ok (.aload_n 2, 1) := by decide +kernel
theorem dL_upShare_1 : decode cL_upShare 1 = .ok (.iconst 0, 1) := by decide +kernel
theorem dL_upShare_2 : decode cL_upShare 2 = .ok (.aload_n 0, 1) := by decide +kernel
theorem dL_upShare_3 : decode cL_upShare 3 = .ok (.iload_n 1, 1) := by decide +kernel
theorem dL_upShare_4 : decode cL_upShare 4 = .ok (.invokevirtual 131, 3) := by decide +kernel
theorem dL_upShare_7 : decode cL_upShare 7 = .ok (.f2d, 1) := by decide +kernel
theorem dL_upShare_8 : decode cL_upShare 8 = .ok (.dastore, 1) := by decide +kernel
theorem dL_upShare_9 : decode cL_upShare 9 = .ok (.goto 6, 3) := by decide +kernel
theorem dL_upShare_12 : decode cL_upShare 12 = .ok (.astore_n 3, 1) := by decide +kernel
theorem dL_upShare_13 : decode cL_upShare 13 = .ok (.iconst 1, 1) := by decide +kernel
theorem dL_upShare_14 : decode cL_upShare 14 = .ok (.ireturn, 1) := by decide +kernel
theorem dL_upShare_15 : decode cL_upShare 15 = .ok (.iconst 0, 1) := by decide +kernel
theorem dL_upShare_16 : decode cL_upShare 16 = .ok (.ireturn, 1) := by decide +kernel
set_option maxRecDepth 20000 in
theorem ggL_meanEntries_X6_meanEntries : GoodIn wsL_meanEntries wsX6_meanEntries := goodIn_ca (goodIn_r _ [6, 7, 8, 9, 10, 11, 5, 12, 13, 14, 15, 16, 17, 18, 19, 20, 21, 22, 23, 24, 25, 26, 27, 28, 29, 30, 31, 32, 33, 34, 35, 36, 37, 38, 39, 40, 41, 42, 43, 44, 45, 46, 47, 48, 49, 50, 51, 52, 53, 54, 55, 56, 57] (by decide +kernel) (by decide +kernel)) (goodIn_sub (fun _ h => List.mem_cons_of_mem _ (List.mem_append_right _ h)) (by decide +kernel))
set_option maxRecDepth 20000 in
theorem gL_meanEntries_X6_meanEntries : GoodIn wsL_meanEntries (wsV RL 135 RX6 yX6_meanEntries wsX6_meanEntries) := goodIn_app (goodIn_of _ (by decide +kernel)) ggL_meanEntries_X6_meanEntries
theorem dL_meanEntries_0 : decode cL_meanEntries 0 = .ok (.aload_n 2, 1) := by decide +kernel
theorem dL_meanEntries_1 : decode cL_meanEntries 1 = .ok (.iconst 0, 1) := by decide +kernel
theorem dL_meanEntries_2 : decode cL_meanEntries 2 = .ok (.aload_n 0, 1) := by decide +kernel
theorem dL_meanEntries_3 : decode cL_meanEntries 3 = .ok (.iload_n 1, 1) := by decide +kernel
theorem dL_meanEntries_4 : decode cL_meanEntries 4 = .ok (.invokevirtual 135, 3) := by decide +kernel
theorem dL_meanEntries_7 : decode cL_meanEntries 7 = .ok (.dastore, 1) := by decide +kernel
theorem dL_meanEntries_8 : decode cL_meanEntries 8 = .ok (.goto 6, 3) := by decide +kernel
theorem dL_meanEntries_11 : decode cL_meanEntries 11 = .ok (.astore_n 3, 1) := by decide +kernel
theorem dL_meanEntries_12 : decode cL_meanEntries 12 = .ok (.iconst 1, 1) := by decide +kernel
theorem dL_meanEntries_13 : decode cL_meanEntries 13 = .ok (.ireturn, 1) := by decide +kernel
theorem dL_meanEntries_14 : decode cL_meanEntries 14 = .ok (.iconst 0, 1) := by decide +kernel
theorem dL_meanEntries_15 : decode cL_meanEntries 15 = .ok (.ireturn, 1) := by decide +kernel
set_option maxRecDepth 20000 in
theorem ggL_law_X6_init : GoodIn wsL_law wsX6_init := goodIn_r _ [10, 11, 12, 13, 14, 15, 16, 17, 18, 19, 20, 21, 22, 23, 24, 25, 26, 27, 28, 29, 30, 31, 32, 33, 34, 35, 36, 37, 38, 39, 40, 41, 42, 43, 44, 45, 46, 47, 48, 49, 50, 51, 52, 53, 54, 55, 56, 57, 58, 59, 60, 61, 62, 63, 64, 65, 66, 67, 68, 69, 70, 71, 72, 73, 74, 75, 76, 77, 78, 79, 80, 81, 82, 83, 84, 85, 86, 87, 88, 89, 987, 988, 989, 990, 991, 992, 993, 994, 995, 944, 945, 946, 947, 948, 949, 950, 951, 996, 997, 998, 999, 1000, 1001, 1002, 1003, 1004, 1005, 1006, 1007, 1008, 1009, 1010, 1011, 1012, 1013, 1014, 1015, 1016, 1017, 1018] (by decide +kernel) (by decide +kernel)
set_option maxRecDepth 20000 in
theorem gL_law_X6_init : GoodIn wsL_law (wsX6_init) := ggL_law_X6_init
set_option maxRecDepth 20000 in
theorem ggL_law_X7_init : GoodIn wsL_law wsX7_init := goodIn_r _ [92, 93, 12, 13, 27, 94, 95, 96, 55, 97, 98, 99, 100, 101, 102, 103, 50, 104, 105, 106, 107, 108, 109, 110, 111, 112, 113, 114, 115, 116, 117, 118, 119, 120, 121, 122, 123, 124, 5, 125, 126, 952, 953, 954, 955, 956, 957, 958, 959, 960, 961, 962, 963, 964, 965, 966, 967, 968, 969, 970, 971, 972, 973, 974, 975, 976, 977, 978, 979, 980, 981, 982, 983, 984, 985, 986] (by decide +kernel) (by decide +kernel)
set_option maxRecDepth 20000 in
theorem gL_law_X7_init : GoodIn wsL_law (wsX7_init) := ggL_law_X7_init
set_option maxRecDepth 20000 in
theorem ggL_law_L_build : GoodIn wsL_law wsL_build := goodIn_ca (goodIn_ca (goodIn_ca (goodIn_r _ [130, 131, 132, 133, 134, 135, 136, 2, 137, 138, 139, 140, 141, 142, 143, 144, 145, 146, 147, 17, 18, 148, 149, 150, 151, 152, 153, 154, 155, 156, 157, 24, 158, 68, 69, 70, 16, 71, 72, 73, 74, 75, 33, 34, 36, 40, 76, 77, 78, 79, 46, 80, 66, 67, 987, 988, 989, 990, 991, 992, 993, 994, 995, 1006, 1007, 1008, 1009, 1010, 1011, 1012, 944, 945, 946, 947, 948, 949, 950, 951, 1002, 1003, 1004, 1005, 1016, 1017, 1018] (by decide +kernel) (by decide +kernel)) (goodIn_sub (fun _ h => List.mem_append_left _ (List.mem_append_left _ (List.mem_append_left _ (List.mem_append_left _ (List.mem_append_right _ h))))) (by decide +kernel))) (goodIn_sub (fun _ h => List.mem_append_left _ (List.mem_append_left _ (List.mem_append_left _ (List.mem_append_right _ h)))) (by decide +kernel))) (goodIn_sub (fun _ h => List.mem_append_left _ (List.mem_append_left _ (List.mem_append_right _ h))) (by decide +kernel))
set_option maxRecDepth 20000 in
theorem gL_law_L_build : GoodIn wsL_law (va_wsS RL 143 yL_build wsL_build) := goodIn_app (goodIn_of _ (by decide +kernel)) ggL_law_L_build
set_option maxRecDepth 20000 in
theorem ggL_law_X7_build : GoodIn wsL_law wsX7_build := goodIn_r _ [162, 96, 163, 164, 5, 165, 166, 167, 168, 169, 170, 171, 172, 173, 174, 175, 176, 177, 178, 119, 122, 123, 124, 125, 94, 95, 97, 98, 100, 102, 103, 126, 115, 111, 952, 953, 954, 955, 956, 957, 958, 959, 960, 961, 962, 963, 964, 965, 966, 967, 968, 969, 970, 971, 972, 973, 974, 975, 976, 977, 978, 979, 980, 981, 982, 983, 984, 985, 986] (by decide +kernel) (by decide +kernel)
set_option maxRecDepth 20000 in
theorem gL_law_X7_build : GoodIn wsL_law (wsV RL 148 RX7 yX7_build wsX7_build) := goodIn_app (goodIn_of _ (by decide +kernel)) ggL_law_X7_build
set_option maxRecDepth 20000 in
theorem ggL_law_X7_thrown : GoodIn wsL_law wsX7_thrown := goodIn_r _ [182, 170, 952, 953, 954, 955, 956, 957, 958, 959, 960, 961, 962, 963, 964, 965, 966, 967, 968, 969, 970, 971, 972, 973, 974, 975, 976, 977, 978, 979, 980, 981, 982, 983, 984, 985, 986] (by decide +kernel) (by decide +kernel)
set_option maxRecDepth 20000 in
theorem gL_law_X7_thrown : GoodIn wsL_law (wsV RL 149 RX7 yX7_thrown wsX7_thrown) := goodIn_app (goodIn_of _ (by decide +kernel)) ggL_law_X7_thrown
set_option maxRecDepth 20000 in
theorem ggL_law_L_wait : GoodIn wsL_law wsL_wait := goodIn_ca (goodIn_r _ [185, 132, 186, 187, 188, 2, 189, 138, 139, 190, 944, 945, 946, 947, 948, 949, 950, 951] (by decide +kernel) (by decide +kernel)) (goodIn_sub (fun _ h => List.mem_append_left _ (List.mem_append_left _ (List.mem_append_left _ (List.mem_append_left _ (List.mem_append_right _ h))))) (by decide +kernel))
set_option maxRecDepth 20000 in
theorem gL_law_L_wait : GoodIn wsL_law (va_wsS RL 153 yL_wait wsL_wait) := goodIn_app (goodIn_of _ (by decide +kernel)) ggL_law_L_wait
set_option maxRecDepth 20000 in
theorem ggL_law_X7_wait : GoodIn wsL_law wsX7_wait := goodIn_r _ [194, 195, 171, 172, 5, 173, 166, 167, 168, 169, 170, 952, 953, 954, 955, 956, 957, 958, 959, 960, 961, 962, 963, 964, 965, 966, 967, 968, 969, 970, 971, 972, 973, 974, 975, 976, 977, 978, 979, 980, 981, 982, 983, 984, 985, 986] (by decide +kernel) (by decide +kernel)
set_option maxRecDepth 20000 in
theorem gL_law_X7_wait : GoodIn wsL_law (wsV RL 156 RX7 yX7_wait wsX7_wait) := goodIn_app (goodIn_of _ (by decide +kernel)) ggL_law_X7_wait
set_option maxRecDepth 20000 in
theorem ggL_law_L_fall : GoodIn wsL_law wsL_fall := goodIn_ca (goodIn_r _ [198, 131, 199, 200, 201, 2, 202, 144, 145, 146, 147, 17, 18, 148, 149, 150, 151, 152, 203, 204, 205, 206, 207, 208, 209, 16, 210, 75, 211, 212, 213, 214, 215, 216, 36, 217, 944, 945, 946, 947, 948, 949, 950, 951, 987, 988, 989, 990, 991, 992, 993, 994, 995, 1016, 1017, 1018] (by decide +kernel) (by decide +kernel)) (goodIn_sub (fun _ h => List.mem_append_left _ (List.mem_append_left _ (List.mem_append_right _ h))) (by decide +kernel))
set_option maxRecDepth 20000 in
theorem gL_law_L_fall : GoodIn wsL_law (va_wsS RL 157 yL_fall wsL_fall) := goodIn_app (goodIn_of _ (by decide +kernel)) ggL_law_L_fall
set_option maxRecDepth 20000 in
theorem ggL_law_X7_fall : GoodIn wsL_law wsX7_fall := goodIn_r _ [221, 222, 223, 224, 5, 225, 94, 163, 164, 165, 171, 172, 173, 166, 167, 168, 169, 170, 226, 227, 228, 229, 97, 98, 102, 952, 953, 954, 955, 956, 957, 958, 959, 960, 961, 962, 963, 964, 965, 966, 967, 968, 969, 970, 971, 972, 973, 974, 975, 976, 977, 978, 979, 980, 981, 982, 983, 984, 985, 986] (by decide +kernel) (by decide +kernel)
set_option maxRecDepth 20000 in
theorem gL_law_X7_fall : GoodIn wsL_law (wsV RL 160 RX7 yX7_fall wsX7_fall) := goodIn_app (goodIn_of _ (by decide +kernel)) ggL_law_X7_fall
set_option maxRecDepth 20000 in
theorem ggL_law_L_burn : GoodIn wsL_law wsL_burn := goodIn_ca (goodIn_r _ [232, 131, 233, 234, 235, 2, 236, 142, 144, 145, 146, 147, 17, 18, 148, 149, 150, 151, 152, 203, 204, 205, 206, 213, 214, 215, 16, 216, 75, 36, 217, 237, 238, 239, 39, 240, 241, 54, 211, 212, 987, 988, 989, 990, 991, 992, 993, 994, 995, 944, 945, 946, 947, 948, 949, 950, 951, 1016, 1017, 1018, 1006, 1007, 1008, 1009, 1010, 1011, 1012] (by decide +kernel) (by decide +kernel)) (goodIn_sub (fun _ h => List.mem_append_left _ (List.mem_append_left _ (List.mem_append_right _ h))) (by decide +kernel))
set_option maxRecDepth 20000 in
theorem gL_law_L_burn : GoodIn wsL_law (va_wsS RL 161 yL_burn wsL_burn) := goodIn_app (goodIn_of _ (by decide +kernel)) ggL_law_L_burn
set_option maxRecDepth 20000 in
theorem ggL_law_X7_burn : GoodIn wsL_law wsX7_burn := goodIn_r _ [245, 96, 108, 222, 223, 224, 5, 225, 94, 163, 164, 165, 171, 172, 173, 166, 167, 168, 169, 170, 226, 227, 228, 229, 97, 98, 102, 952, 953, 954, 955, 956, 957, 958, 959, 960, 961, 962, 963, 964, 965, 966, 967, 968, 969, 970, 971, 972, 973, 974, 975, 976, 977, 978, 979, 980, 981, 982, 983, 984, 985, 986] (by decide +kernel) (by decide +kernel)
set_option maxRecDepth 20000 in
theorem gL_law_X7_burn : GoodIn wsL_law (wsV RL 163 RX7 yX7_burn wsX7_burn) := goodIn_app (goodIn_of _ (by decide +kernel)) ggL_law_X7_burn
set_option maxRecDepth 20000 in
theorem ggL_law_L_rise : GoodIn wsL_law wsL_rise := goodIn_ca (goodIn_r _ [248, 131, 249, 250, 251, 2, 252, 190, 144, 145, 146, 147, 17, 18, 148, 149, 150, 151, 152, 203, 204, 205, 206, 207, 208, 209, 16, 210, 75, 211, 212, 253, 254, 255, 256, 33, 944, 945, 946, 947, 948, 949, 950, 951, 987, 988, 989, 990, 991, 992, 993, 994, 995] (by decide +kernel) (by decide +kernel)) (goodIn_sub (fun _ h => List.mem_append_left _ (List.mem_append_left _ (List.mem_append_right _ h))) (by decide +kernel))
set_option maxRecDepth 20000 in
theorem gL_law_L_rise : GoodIn wsL_law (va_wsS RL 164 yL_rise wsL_rise) := goodIn_app (goodIn_of _ (by decide +kernel)) ggL_law_L_rise
set_option maxRecDepth 20000 in
theorem ggL_law_X7_rise : GoodIn wsL_law wsX7_rise := goodIn_r _ [260, 97, 98, 99, 195, 222, 223, 224, 5, 225, 94, 163, 164, 165, 171, 172, 173, 166, 167, 168, 169, 170, 952, 953, 954, 955, 956, 957, 958, 959, 960, 961, 962, 963, 964, 965, 966, 967, 968, 969, 970, 971, 972, 973, 974, 975, 976, 977, 978, 979, 980, 981, 982, 983, 984, 985, 986] (by decide +kernel) (by decide +kernel)
set_option maxRecDepth 20000 in
theorem gL_law_X7_rise : GoodIn wsL_law (wsV RL 166 RX7 yX7_rise wsX7_rise) := goodIn_app (goodIn_of _ (by decide +kernel)) ggL_law_X7_rise
set_option maxRecDepth 20000 in
theorem ggL_law_L_cut : GoodIn wsL_law wsL_cut := goodIn_ca (goodIn_r _ [263, 131, 264, 265, 266, 2, 267, 144, 145, 146, 147, 17, 18, 148, 149, 150, 151, 152, 203, 204, 205, 206, 268, 269, 270, 271, 272, 273, 16, 274, 34, 211, 212, 944, 945, 946, 947, 948, 949, 950, 951, 987, 988, 989, 990, 991, 992, 993, 994, 995] (by decide +kernel) (by decide +kernel)) (goodIn_sub (fun _ h => List.mem_append_left _ (List.mem_append_left _ (List.mem_append_right _ h))) (by decide +kernel))
set_option maxRecDepth 20000 in
theorem gL_law_L_cut : GoodIn wsL_law (va_wsS RL 167 yL_cut wsL_cut) := goodIn_app (goodIn_of _ (by decide +kernel)) ggL_law_L_cut
set_option maxRecDepth 20000 in
theorem ggL_law_X7_cut : GoodIn wsL_law wsX7_cut := goodIn_r _ [278, 100, 222, 223, 224, 5, 225, 94, 163, 164, 165, 171, 172, 173, 279, 280, 281, 166, 167, 168, 169, 170, 952, 953, 954, 955, 956, 957, 958, 959, 960, 961, 962, 963, 964, 965, 966, 967, 968, 969, 970, 971, 972, 973, 974, 975, 976, 977, 978, 979, 980, 981, 982, 983, 984, 985, 986] (by decide +kernel) (by decide +kernel)
set_option maxRecDepth 20000 in
theorem gL_law_X7_cut : GoodIn wsL_law (wsV RL 170 RX7 yX7_cut wsX7_cut) := goodIn_app (goodIn_of _ (by decide +kernel)) ggL_law_X7_cut
set_option maxRecDepth 20000 in
theorem ggL_law_L_lease : GoodIn wsL_law wsL_lease := goodIn_ca (goodIn_ca (goodIn_ca (goodIn_r _ [284, 131, 132, 133, 285, 286, 287, 2, 288, 138, 139, 140, 141, 190, 289, 144, 145, 146, 147, 17, 18, 148, 149, 150, 151, 152, 290, 291, 292, 268, 269, 270, 293, 294, 295, 16, 296, 72, 36, 297, 298, 299, 300, 75, 34, 301, 302, 303, 304, 33, 305, 306, 307, 46, 308, 65, 309, 310, 311, 312, 66, 313, 314, 315, 316, 317, 318, 319, 320, 321, 322, 323, 324, 325, 326, 327, 328, 329, 330, 331, 67, 211, 212, 944, 945, 946, 947, 948, 949, 950, 951, 987, 988, 989, 990, 991, 992, 993, 994, 995, 1016, 1017, 1018] (by decide +kernel) (by decide +kernel)) (goodIn_sub (fun _ h => List.mem_append_left _ (List.mem_append_left _ (List.mem_append_left _ (List.mem_append_left _ (List.mem_append_right _ h))))) (by decide +kernel))) (goodIn_sub (fun _ h => List.mem_append_left _ (List.mem_append_left _ (List.mem_append_left _ (List.mem_append_right _ h)))) (by decide +kernel))) (goodIn_sub (fun _ h => List.mem_append_left _ (List.mem_append_left _ (List.mem_append_right _ h))) (by decide +kernel))
set_option maxRecDepth 20000 in
theorem gL_law_L_lease : GoodIn wsL_law (va_wsS RL 171 yL_lease wsL_lease) := goodIn_app (goodIn_of _ (by decide +kernel)) ggL_law_L_lease
set_option maxRecDepth 20000 in
theorem ggL_law_X7_lease : GoodIn wsL_law wsX7_lease := goodIn_r _ [335, 94, 101, 195, 102, 103, 163, 164, 5, 165, 336, 337, 338, 171, 172, 173, 279, 280, 281, 166, 167, 168, 169, 170, 339, 340, 341, 342, 97, 100, 343, 344, 345, 346, 347, 348, 349, 350, 98, 99, 351, 352, 353, 354, 355, 356, 357, 952, 953, 954, 955, 956, 957, 958, 959, 960, 961, 962, 963, 964, 965, 966, 967, 968, 969, 970, 971, 972, 973, 974, 975, 976, 977, 978, 979, 980, 981, 982, 983, 984, 985, 986] (by decide +kernel) (by decide +kernel)
set_option maxRecDepth 20000 in
theorem gL_law_X7_lease : GoodIn wsL_law (wsV RL 174 RX7 yX7_lease wsX7_lease) := goodIn_app (goodIn_of _ (by decide +kernel)) ggL_law_X7_lease
set_option maxRecDepth 20000 in
theorem ggL_law_L_giveUp : GoodIn wsL_law wsL_giveUp := goodIn_ca (goodIn_ca (goodIn_r _ [360, 131, 133, 361, 362, 363, 2, 364, 140, 141, 289, 190, 144, 145, 146, 147, 17, 18, 148, 149, 150, 151, 152, 290, 291, 292, 268, 269, 270, 365, 366, 367, 46, 368, 67, 369, 298, 299, 16, 300, 75, 34, 370, 371, 372, 373, 65, 66, 211, 212, 309, 310, 311, 312, 987, 988, 989, 990, 991, 992, 993, 994, 995, 944, 945, 946, 947, 948, 949, 950, 951, 1016, 1017, 1018] (by decide +kernel) (by decide +kernel)) (goodIn_sub (fun _ h => List.mem_append_left _ (List.mem_append_left _ (List.mem_append_left _ (List.mem_append_right _ h)))) (by decide +kernel))) (goodIn_sub (fun _ h => List.mem_append_left _ (List.mem_append_left _ (List.mem_append_right _ h))) (by decide +kernel))
set_option maxRecDepth 20000 in
theorem gL_law_L_giveUp : GoodIn wsL_law (va_wsS RL 175 yL_giveUp wsL_giveUp) := goodIn_app (goodIn_of _ (by decide +kernel)) ggL_law_L_giveUp
set_option maxRecDepth 20000 in
theorem ggL_law_X7_giveUp : GoodIn wsL_law wsX7_giveUp := goodIn_r _ [377, 94, 101, 102, 103, 163, 164, 5, 165, 336, 337, 338, 171, 172, 173, 279, 280, 281, 166, 167, 168, 169, 170, 378, 379, 380, 381, 195, 339, 340, 341, 342, 97, 100, 343, 344, 345, 346, 952, 953, 954, 955, 956, 957, 958, 959, 960, 961, 962, 963, 964, 965, 966, 967, 968, 969, 970, 971, 972, 973, 974, 975, 976, 977, 978, 979, 980, 981, 982, 983, 984, 985, 986] (by decide +kernel) (by decide +kernel)
set_option maxRecDepth 20000 in
theorem gL_law_X7_giveUp : GoodIn wsL_law (wsV RL 177 RX7 yX7_giveUp wsX7_giveUp) := goodIn_app (goodIn_of _ (by decide +kernel)) ggL_law_X7_giveUp
set_option maxRecDepth 20000 in
theorem ggL_law_L_leaseOf : GoodIn wsL_law wsL_leaseOf := goodIn_ca (goodIn_r _ [384, 131, 385, 386, 387, 2, 388, 289, 389, 144, 145, 146, 147, 17, 18, 148, 149, 150, 151, 152, 290, 291, 292, 268, 269, 270, 987, 988, 989, 990, 991, 992, 993, 994, 995, 1016, 1017, 1018, 944, 945, 946, 947, 948, 949, 950, 951] (by decide +kernel) (by decide +kernel)) (goodIn_sub (fun _ h => List.mem_append_left _ (List.mem_append_left _ (List.mem_append_right _ h))) (by decide +kernel))
set_option maxRecDepth 20000 in
theorem gL_law_L_leaseOf : GoodIn wsL_law (va_wsS RL 178 yL_leaseOf wsL_leaseOf) := goodIn_app (goodIn_of _ (by decide +kernel)) ggL_law_L_leaseOf
set_option maxRecDepth 20000 in
theorem ggL_law_X7_leaseOf : GoodIn wsL_law wsX7_leaseOf := goodIn_r _ [393, 103, 163, 164, 5, 165, 336, 337, 338, 171, 172, 173, 279, 280, 281, 166, 167, 168, 169, 170, 952, 953, 954, 955, 956, 957, 958, 959, 960, 961, 962, 963, 964, 965, 966, 967, 968, 969, 970, 971, 972, 973, 974, 975, 976, 977, 978, 979, 980, 981, 982, 983, 984, 985, 986] (by decide +kernel) (by decide +kernel)
set_option maxRecDepth 20000 in
theorem gL_law_X7_leaseOf : GoodIn wsL_law (wsV RL 180 RX7 yX7_leaseOf wsX7_leaseOf) := goodIn_app (goodIn_of _ (by decide +kernel)) ggL_law_X7_leaseOf
set_option maxRecDepth 20000 in
theorem ggL_law_L_openFor : GoodIn wsL_law wsL_openFor := goodIn_ca (goodIn_ca (goodIn_r _ [396, 131, 397, 398, 399, 400, 2, 401, 402, 403, 289, 190, 144, 145, 146, 147, 17, 18, 148, 149, 150, 151, 152, 290, 291, 292, 365, 366, 367, 46, 368, 67, 987, 988, 989, 990, 991, 992, 993, 994, 995, 944, 945, 946, 947, 948, 949, 950, 951, 1016, 1017, 1018] (by decide +kernel) (by decide +kernel)) (goodIn_sub (fun _ h => List.mem_append_left _ (List.mem_append_right _ h)) (by decide +kernel))) (goodIn_sub (fun _ h => List.mem_append_left _ (List.mem_append_left _ (List.mem_append_right _ h))) (by decide +kernel))
set_option maxRecDepth 20000 in
theorem gL_law_L_openFor : GoodIn wsL_law (va_wsS RL 181 yL_openFor wsL_openFor) := goodIn_app (goodIn_of _ (by decide +kernel)) ggL_law_L_openFor
set_option maxRecDepth 20000 in
theorem ggL_law_X7_openFor : GoodIn wsL_law wsX7_openFor := goodIn_r _ [407, 163, 164, 5, 165, 336, 337, 338, 171, 172, 173, 166, 167, 168, 169, 170, 378, 379, 380, 381, 103, 195, 952, 953, 954, 955, 956, 957, 958, 959, 960, 961, 962, 963, 964, 965, 966, 967, 968, 969, 970, 971, 972, 973, 974, 975, 976, 977, 978, 979, 980, 981, 982, 983, 984, 985, 986] (by decide +kernel) (by decide +kernel)
set_option maxRecDepth 20000 in
theorem gL_law_X7_openFor : GoodIn wsL_law (wsV RL 183 RX7 yX7_openFor wsX7_openFor) := goodIn_app (goodIn_of _ (by decide +kernel)) ggL_law_X7_openFor
set_option maxRecDepth 20000 in
theorem ggL_law_L_voteOf : GoodIn wsL_law wsL_voteOf := goodIn_ca (goodIn_ca (goodIn_r _ [410, 131, 397, 411, 412, 413, 2, 414, 415, 416, 417, 418, 419, 402, 403, 289, 190, 144, 145, 146, 147, 17, 18, 148, 149, 150, 151, 152, 203, 204, 205, 206, 290, 291, 292, 420, 310, 311, 46, 312, 66, 1016, 1017, 1018, 987, 988, 989, 990, 991, 992, 993, 994, 995, 944, 945, 946, 947, 948, 949, 950, 951] (by decide +kernel) (by decide +kernel)) (goodIn_sub (fun _ h => List.mem_append_left _ (List.mem_append_right _ h)) (by decide +kernel))) (goodIn_sub (fun _ h => List.mem_append_left _ (List.mem_append_left _ (List.mem_append_right _ h))) (by decide +kernel))
set_option maxRecDepth 20000 in
theorem gL_law_L_voteOf : GoodIn wsL_law (va_wsS RL 184 yL_voteOf wsL_voteOf) := goodIn_app (goodIn_of _ (by decide +kernel)) ggL_law_L_voteOf
set_option maxRecDepth 20000 in
theorem ggL_law_X7_voteOf : GoodIn wsL_law wsX7_voteOf := goodIn_r _ [424, 101, 222, 223, 224, 5, 225, 94, 163, 164, 165, 171, 172, 173, 336, 337, 338, 166, 167, 168, 169, 170, 343, 344, 345, 346, 102, 195, 952, 953, 954, 955, 956, 957, 958, 959, 960, 961, 962, 963, 964, 965, 966, 967, 968, 969, 970, 971, 972, 973, 974, 975, 976, 977, 978, 979, 980, 981, 982, 983, 984, 985, 986] (by decide +kernel) (by decide +kernel)
set_option maxRecDepth 20000 in
theorem gL_law_X7_voteOf : GoodIn wsL_law (wsV RL 186 RX7 yX7_voteOf wsX7_voteOf) := goodIn_app (goodIn_of _ (by decide +kernel)) ggL_law_X7_voteOf
set_option maxRecDepth 20000 in
theorem ggL_law_L_voteTill : GoodIn wsL_law wsL_voteTill := goodIn_ca (goodIn_ca (goodIn_r _ [427, 131, 397, 428, 429, 430, 2, 431, 432, 416, 417, 418, 419, 402, 403, 289, 190, 144, 145, 146, 147, 17, 18, 148, 149, 150, 151, 152, 203, 204, 205, 206, 290, 291, 292, 420, 310, 311, 46, 312, 66, 1016, 1017, 1018, 987, 988, 989, 990, 991, 992, 993, 994, 995, 944, 945, 946, 947, 948, 949, 950, 951] (by decide +kernel) (by decide +kernel)) (goodIn_sub (fun _ h => List.mem_append_left _ (List.mem_append_right _ h)) (by decide +kernel))) (goodIn_sub (fun _ h => List.mem_append_left _ (List.mem_append_left _ (List.mem_append_right _ h))) (by decide +kernel))
set_option maxRecDepth 20000 in
theorem gL_law_L_voteTill : GoodIn wsL_law (va_wsS RL 187 yL_voteTill wsL_voteTill) := goodIn_app (goodIn_of _ (by decide +kernel)) ggL_law_L_voteTill
set_option maxRecDepth 20000 in
theorem ggL_law_X7_voteTill : GoodIn wsL_law wsX7_voteTill := goodIn_r _ [436, 102, 222, 223, 224, 5, 225, 94, 163, 164, 165, 171, 172, 173, 336, 337, 338, 166, 167, 168, 169, 170, 343, 344, 345, 346, 195, 952, 953, 954, 955, 956, 957, 958, 959, 960, 961, 962, 963, 964, 965, 966, 967, 968, 969, 970, 971, 972, 973, 974, 975, 976, 977, 978, 979, 980, 981, 982, 983, 984, 985, 986] (by decide +kernel) (by decide +kernel)
set_option maxRecDepth 20000 in
theorem gL_law_X7_voteTill : GoodIn wsL_law (wsV RL 189 RX7 yX7_voteTill wsX7_voteTill) := goodIn_app (goodIn_of _ (by decide +kernel)) ggL_law_X7_voteTill
set_option maxRecDepth 20000 in
theorem ggL_law_L_near : GoodIn wsL_law wsL_near := goodIn_ca (goodIn_r _ [439, 131, 440, 441, 442, 2, 443, 144, 145, 146, 147, 17, 18, 148, 149, 150, 151, 152, 268, 269, 270, 369, 298, 299, 16, 300, 75, 34, 444, 318, 319, 320, 321, 322, 323, 944, 945, 946, 947, 948, 949, 950, 951, 987, 988, 989, 990, 991, 992, 993, 994, 995] (by decide +kernel) (by decide +kernel)) (goodIn_sub (fun _ h => List.mem_append_left _ (List.mem_append_left _ (List.mem_append_right _ h))) (by decide +kernel))
set_option maxRecDepth 20000 in
theorem gL_law_L_near : GoodIn wsL_law (va_wsS RL 190 yL_near wsL_near) := goodIn_app (goodIn_of _ (by decide +kernel)) ggL_law_L_near
set_option maxRecDepth 20000 in
theorem ggL_law_X7_near : GoodIn wsL_law wsX7_near := goodIn_r _ [448, 163, 164, 5, 165, 279, 280, 281, 171, 172, 173, 166, 167, 168, 169, 170, 339, 340, 341, 342, 94, 97, 100, 355, 356, 357, 952, 953, 954, 955, 956, 957, 958, 959, 960, 961, 962, 963, 964, 965, 966, 967, 968, 969, 970, 971, 972, 973, 974, 975, 976, 977, 978, 979, 980, 981, 982, 983, 984, 985, 986] (by decide +kernel) (by decide +kernel)
set_option maxRecDepth 20000 in
theorem gL_law_X7_near : GoodIn wsL_law (wsV RL 192 RX7 yX7_near wsX7_near) := goodIn_app (goodIn_of _ (by decide +kernel)) ggL_law_X7_near
set_option maxRecDepth 20000 in
theorem ggL_law_L_tower : GoodIn wsL_law wsL_tower := goodIn_ca (goodIn_r _ [451, 131, 452, 453, 454, 2, 455, 190, 144, 145, 146, 147, 17, 18, 148, 149, 150, 151, 152, 203, 204, 205, 206, 207, 208, 209, 16, 210, 75, 211, 212, 456, 302, 303, 304, 33, 944, 945, 946, 947, 948, 949, 950, 951, 987, 988, 989, 990, 991, 992, 993, 994, 995] (by decide +kernel) (by decide +kernel)) (goodIn_sub (fun _ h => List.mem_append_left _ (List.mem_append_left _ (List.mem_append_right _ h))) (by decide +kernel))
set_option maxRecDepth 20000 in
theorem gL_law_L_tower : GoodIn wsL_law (va_wsS RL 193 yL_tower wsL_tower) := goodIn_app (goodIn_of _ (by decide +kernel)) ggL_law_L_tower
set_option maxRecDepth 20000 in
theorem ggL_law_X7_tower : GoodIn wsL_law wsX7_tower := goodIn_r _ [460, 97, 222, 223, 224, 5, 225, 94, 163, 164, 165, 171, 172, 173, 166, 167, 168, 169, 170, 347, 348, 349, 350, 98, 195, 99, 952, 953, 954, 955, 956, 957, 958, 959, 960, 961, 962, 963, 964, 965, 966, 967, 968, 969, 970, 971, 972, 973, 974, 975, 976, 977, 978, 979, 980, 981, 982, 983, 984, 985, 986] (by decide +kernel) (by decide +kernel)
set_option maxRecDepth 20000 in
theorem gL_law_X7_tower : GoodIn wsL_law (wsV RL 195 RX7 yX7_tower wsX7_tower) := goodIn_app (goodIn_of _ (by decide +kernel)) ggL_law_X7_tower
set_option maxRecDepth 20000 in
theorem ggL_law_L_order : GoodIn wsL_law wsL_order := goodIn_ca (goodIn_ca (goodIn_ca (goodIn_ca (goodIn_r _ [463, 131, 132, 133, 464, 465, 466, 467, 2, 468, 140, 141, 289, 190, 469, 144, 145, 146, 147, 17, 18, 148, 149, 150, 151, 152, 290, 291, 292, 268, 269, 270, 470, 471, 472, 138, 139, 365, 366, 367, 46, 368, 67, 473, 474, 475, 16, 476, 44, 40, 73, 477, 478, 479, 43, 480, 481, 482, 61, 483, 484, 485, 486, 487, 488, 489, 39, 490, 241, 57, 51, 491, 492, 493, 494, 495, 496, 497, 498, 499, 500, 501, 502, 503, 369, 298, 299, 300, 75, 34, 504, 505, 506, 507, 508, 142, 143, 509, 510, 511, 512, 513, 514, 515, 516, 517, 52, 54, 518, 519, 520, 521, 522, 523, 317, 318, 319, 320, 321, 322, 323, 524, 314, 315, 316, 72, 987, 988, 989, 990, 991, 992, 993, 994, 995, 944, 945, 946, 947, 948, 949, 950, 951, 1013, 1014, 1015, 1016, 1017, 1018, 1006, 1007, 1008, 1009, 1010, 1011, 1012] (by decide +kernel) (by decide +kernel)) (goodIn_sub (fun _ h => List.mem_append_left _ (List.mem_append_left _ (List.mem_append_left _ (List.mem_append_right _ h)))) (by decide +kernel))) (goodIn_sub (fun _ h => List.mem_append_left _ (List.mem_append_left _ (List.mem_append_right _ h))) (by decide +kernel))) (goodIn_sub (fun _ h => List.mem_append_left _ (List.mem_append_left _ (List.mem_append_left _ (List.mem_append_left _ (List.mem_append_right _ h))))) (by decide +kernel))) (goodIn_sub (fun _ h => List.mem_append_right _ h) (by decide +kernel))
set_option maxRecDepth 20000 in
theorem gL_law_L_order : GoodIn wsL_law (va_wsS RL 196 yL_order wsL_order) := goodIn_app (goodIn_of _ (by decide +kernel)) ggL_law_L_order
set_option maxRecDepth 20000 in
theorem ggL_law_X7_order : GoodIn wsL_law wsX7_order := goodIn_r _ [528, 121, 529, 530, 96, 163, 164, 5, 165, 336, 337, 338, 171, 172, 173, 279, 280, 281, 166, 167, 168, 169, 170, 531, 532, 533, 534, 95, 535, 109, 104, 536, 537, 538, 539, 105, 106, 116, 107, 378, 379, 380, 381, 103, 195, 339, 340, 341, 342, 94, 97, 100, 540, 541, 542, 543, 108, 544, 545, 546, 547, 351, 352, 353, 354, 355, 356, 357, 952, 953, 954, 955, 956, 957, 958, 959, 960, 961, 962, 963, 964, 965, 966, 967, 968, 969, 970, 971, 972, 973, 974, 975, 976, 977, 978, 979, 980, 981, 982, 983, 984, 985, 986] (by decide +kernel) (by decide +kernel)
set_option maxRecDepth 20000 in
theorem gL_law_X7_order : GoodIn wsL_law (wsV RL 199 RX7 yX7_order wsX7_order) := goodIn_app (goodIn_of _ (by decide +kernel)) ggL_law_X7_order
set_option maxRecDepth 20000 in
theorem ggL_law_L_spread : GoodIn wsL_law wsL_spread := goodIn_ca (goodIn_r _ [550, 131, 551, 552, 553, 2, 554, 144, 145, 146, 147, 17, 18, 148, 149, 150, 151, 152, 555, 556, 557, 16, 558, 40, 76, 522, 75, 518, 519, 520, 521, 523, 317, 318, 319, 320, 321, 322, 323, 524, 314, 315, 316, 72, 944, 945, 946, 947, 948, 949, 950, 951, 987, 988, 989, 990, 991, 992, 993, 994, 995, 1006, 1007, 1008, 1009, 1010, 1011, 1012] (by decide +kernel) (by decide +kernel)) (goodIn_sub (fun _ h => List.mem_append_left _ (List.mem_append_left _ (List.mem_append_right _ h))) (by decide +kernel))
set_option maxRecDepth 20000 in
theorem gL_law_L_spread : GoodIn wsL_law (va_wsS RL 200 yL_spread wsL_spread) := goodIn_app (goodIn_of _ (by decide +kernel)) ggL_law_L_spread
set_option maxRecDepth 20000 in
theorem ggL_law_X7_spread : GoodIn wsL_law wsX7_spread := goodIn_r _ [562, 96, 108, 163, 164, 5, 165, 166, 167, 168, 169, 170, 339, 340, 341, 342, 94, 97, 100, 355, 356, 357, 544, 545, 546, 547, 109, 351, 352, 353, 354, 952, 953, 954, 955, 956, 957, 958, 959, 960, 961, 962, 963, 964, 965, 966, 967, 968, 969, 970, 971, 972, 973, 974, 975, 976, 977, 978, 979, 980, 981, 982, 983, 984, 985, 986] (by decide +kernel) (by decide +kernel)
set_option maxRecDepth 20000 in
theorem gL_law_X7_spread : GoodIn wsL_law (wsV RL 202 RX7 yX7_spread wsX7_spread) := goodIn_app (goodIn_of _ (by decide +kernel)) ggL_law_X7_spread
set_option maxRecDepth 20000 in
theorem ggL_law_L_strike : GoodIn wsL_law wsL_strike := goodIn_ca (goodIn_r _ [565, 131, 566, 567, 568, 2, 569, 142, 144, 145, 146, 147, 17, 18, 148, 149, 150, 151, 152, 570, 571, 572, 39, 573, 241, 54, 51, 574, 488, 489, 490, 57, 987, 988, 989, 990, 991, 992, 993, 994, 995, 944, 945, 946, 947, 948, 949, 950, 951, 1006, 1007, 1008, 1009, 1010, 1011, 1012] (by decide +kernel) (by decide +kernel)) (goodIn_sub (fun _ h => List.mem_append_left _ (List.mem_append_left _ (List.mem_append_right _ h))) (by decide +kernel))
set_option maxRecDepth 20000 in
theorem gL_law_L_strike : GoodIn wsL_law (va_wsS RL 203 yL_strike wsL_strike) := goodIn_app (goodIn_of _ (by decide +kernel)) ggL_law_L_strike
set_option maxRecDepth 20000 in
theorem ggL_law_X7_strike : GoodIn wsL_law wsX7_strike := goodIn_r _ [578, 535, 96, 108, 104, 163, 164, 5, 165, 166, 167, 168, 169, 170, 531, 532, 533, 534, 95, 529, 530, 121, 109, 536, 537, 538, 539, 105, 106, 116, 107, 952, 953, 954, 955, 956, 957, 958, 959, 960, 961, 962, 963, 964, 965, 966, 967, 968, 969, 970, 971, 972, 973, 974, 975, 976, 977, 978, 979, 980, 981, 982, 983, 984, 985, 986] (by decide +kernel) (by decide +kernel)
set_option maxRecDepth 20000 in
theorem gL_law_X7_strike : GoodIn wsL_law (wsV RL 205 RX7 yX7_strike wsX7_strike) := goodIn_app (goodIn_of _ (by decide +kernel)) ggL_law_X7_strike
set_option maxRecDepth 20000 in
theorem ggL_law_L_entries : GoodIn wsL_law wsL_entries := goodIn_ca (goodIn_r _ [581, 131, 582, 583, 584, 2, 585, 142, 143, 144, 145, 146, 147, 17, 18, 148, 149, 150, 151, 152, 987, 988, 989, 990, 991, 992, 993, 994, 995, 1006, 1007, 1008, 1009, 1010, 1011, 1012, 944, 945, 946, 947, 948, 949, 950, 951] (by decide +kernel) (by decide +kernel)) (goodIn_sub (fun _ h => List.mem_append_left _ (List.mem_append_left _ (List.mem_append_right _ h))) (by decide +kernel))
set_option maxRecDepth 20000 in
theorem gL_law_L_entries : GoodIn wsL_law (va_wsS RL 206 yL_entries wsL_entries) := goodIn_app (goodIn_of _ (by decide +kernel)) ggL_law_L_entries
set_option maxRecDepth 20000 in
theorem ggL_law_X7_entries : GoodIn wsL_law wsX7_entries := goodIn_r _ [589, 96, 163, 164, 5, 165, 166, 167, 168, 169, 170, 952, 953, 954, 955, 956, 957, 958, 959, 960, 961, 962, 963, 964, 965, 966, 967, 968, 969, 970, 971, 972, 973, 974, 975, 976, 977, 978, 979, 980, 981, 982, 983, 984, 985, 986] (by decide +kernel) (by decide +kernel)
set_option maxRecDepth 20000 in
theorem gL_law_X7_entries : GoodIn wsL_law (wsV RL 208 RX7 yX7_entries wsX7_entries) := goodIn_app (goodIn_of _ (by decide +kernel)) ggL_law_X7_entries
set_option maxRecDepth 20000 in
theorem ggL_law_L_counting : GoodIn wsL_law wsL_counting := goodIn_ca (goodIn_r _ [592, 131, 593, 594, 595, 2, 596, 142, 144, 145, 146, 147, 17, 18, 148, 149, 150, 151, 152, 597, 488, 489, 39, 490, 241, 57, 51, 987, 988, 989, 990, 991, 992, 993, 994, 995, 944, 945, 946, 947, 948, 949, 950, 951, 1006, 1007, 1008, 1009, 1010, 1011, 1012] (by decide +kernel) (by decide +kernel)) (goodIn_sub (fun _ h => List.mem_append_left _ (List.mem_append_left _ (List.mem_append_right _ h))) (by decide +kernel))
set_option maxRecDepth 20000 in
theorem gL_law_L_counting : GoodIn wsL_law (va_wsS RL 209 yL_counting wsL_counting) := goodIn_app (goodIn_of _ (by decide +kernel)) ggL_law_L_counting
set_option maxRecDepth 20000 in
theorem ggL_law_X7_counting : GoodIn wsL_law wsX7_counting := goodIn_r _ [601, 535, 163, 164, 5, 165, 166, 167, 168, 169, 170, 531, 532, 533, 534, 95, 529, 530, 121, 96, 109, 104, 536, 537, 538, 539, 105, 106, 116, 107, 952, 953, 954, 955, 956, 957, 958, 959, 960, 961, 962, 963, 964, 965, 966, 967, 968, 969, 970, 971, 972, 973, 974, 975, 976, 977, 978, 979, 980, 981, 982, 983, 984, 985, 986] (by decide +kernel) (by decide +kernel)
set_option maxRecDepth 20000 in
theorem gL_law_X7_counting : GoodIn wsL_law (wsV RL 211 RX7 yX7_counting wsX7_counting) := goodIn_app (goodIn_of _ (by decide +kernel)) ggL_law_X7_counting
set_option maxRecDepth 20000 in
theorem ggL_law_L_entryOf : GoodIn wsL_law wsL_entryOf := goodIn_ca (goodIn_r _ [604, 131, 605, 606, 607, 2, 608, 609, 610, 611, 612, 613, 151, 152, 142, 143, 144, 145, 146, 147, 17, 18, 148, 149, 150, 1006, 1007, 1008, 1009, 1010, 1011, 1012, 987, 988, 989, 990, 991, 992, 993, 994, 995, 944, 945, 946, 947, 948, 949, 950, 951] (by decide +kernel) (by decide +kernel)) (goodIn_sub (fun _ h => List.mem_append_left _ (List.mem_append_left _ (List.mem_append_right _ h))) (by decide +kernel))
set_option maxRecDepth 20000 in
theorem gL_law_L_entryOf : GoodIn wsL_law (va_wsS RL 212 yL_entryOf wsL_entryOf) := goodIn_app (goodIn_of _ (by decide +kernel)) ggL_law_L_entryOf
set_option maxRecDepth 20000 in
theorem ggL_law_X7_entryOf : GoodIn wsL_law wsX7_entryOf := goodIn_r _ [617, 104, 618, 619, 620, 5, 621, 96, 163, 164, 165, 171, 172, 173, 166, 167, 168, 169, 170, 952, 953, 954, 955, 956, 957, 958, 959, 960, 961, 962, 963, 964, 965, 966, 967, 968, 969, 970, 971, 972, 973, 974, 975, 976, 977, 978, 979, 980, 981, 982, 983, 984, 985, 986] (by decide +kernel) (by decide +kernel)
set_option maxRecDepth 20000 in
theorem gL_law_X7_entryOf : GoodIn wsL_law (wsV RL 214 RX7 yX7_entryOf wsX7_entryOf) := goodIn_app (goodIn_of _ (by decide +kernel)) ggL_law_X7_entryOf
set_option maxRecDepth 20000 in
theorem ggL_law_L_amountOf : GoodIn wsL_law wsL_amountOf := goodIn_ca (goodIn_r _ [624, 131, 625, 626, 627, 2, 628, 629, 610, 611, 612, 613, 151, 152, 142, 143, 144, 145, 146, 147, 17, 18, 148, 149, 150, 1006, 1007, 1008, 1009, 1010, 1011, 1012, 987, 988, 989, 990, 991, 992, 993, 994, 995, 944, 945, 946, 947, 948, 949, 950, 951] (by decide +kernel) (by decide +kernel)) (goodIn_sub (fun _ h => List.mem_append_left _ (List.mem_append_left _ (List.mem_append_right _ h))) (by decide +kernel))
set_option maxRecDepth 20000 in
theorem gL_law_L_amountOf : GoodIn wsL_law (va_wsS RL 215 yL_amountOf wsL_amountOf) := goodIn_app (goodIn_of _ (by decide +kernel)) ggL_law_L_amountOf
set_option maxRecDepth 20000 in
theorem ggL_law_X7_amountOf : GoodIn wsL_law wsX7_amountOf := goodIn_r _ [633, 105, 618, 619, 620, 5, 621, 96, 163, 164, 165, 171, 172, 173, 166, 167, 168, 169, 170, 952, 953, 954, 955, 956, 957, 958, 959, 960, 961, 962, 963, 964, 965, 966, 967, 968, 969, 970, 971, 972, 973, 974, 975, 976, 977, 978, 979, 980, 981, 982, 983, 984, 985, 986] (by decide +kernel) (by decide +kernel)
set_option maxRecDepth 20000 in
theorem gL_law_X7_amountOf : GoodIn wsL_law (wsV RL 217 RX7 yX7_amountOf wsX7_amountOf) := goodIn_app (goodIn_of _ (by decide +kernel)) ggL_law_X7_amountOf
set_option maxRecDepth 20000 in
theorem ggL_law_L_isCommitted : GoodIn wsL_law wsL_isCommitted := goodIn_ca (goodIn_r _ [636, 131, 637, 638, 639, 2, 640, 641, 610, 611, 612, 613, 151, 152, 142, 143, 144, 145, 146, 147, 17, 18, 148, 149, 150, 1006, 1007, 1008, 1009, 1010, 1011, 1012, 987, 988, 989, 990, 991, 992, 993, 994, 995, 944, 945, 946, 947, 948, 949, 950, 951] (by decide +kernel) (by decide +kernel)) (goodIn_sub (fun _ h => List.mem_append_left _ (List.mem_append_left _ (List.mem_append_right _ h))) (by decide +kernel))
set_option maxRecDepth 20000 in
theorem gL_law_L_isCommitted : GoodIn wsL_law (va_wsS RL 218 yL_isCommitted wsL_isCommitted) := goodIn_app (goodIn_of _ (by decide +kernel)) ggL_law_L_isCommitted
set_option maxRecDepth 20000 in
theorem ggL_law_X7_isCommitted : GoodIn wsL_law wsX7_isCommitted := goodIn_r _ [645, 109, 618, 619, 620, 5, 621, 96, 163, 164, 165, 171, 172, 173, 166, 167, 168, 169, 170, 952, 953, 954, 955, 956, 957, 958, 959, 960, 961, 962, 963, 964, 965, 966, 967, 968, 969, 970, 971, 972, 973, 974, 975, 976, 977, 978, 979, 980, 981, 982, 983, 984, 985, 986] (by decide +kernel) (by decide +kernel)
set_option maxRecDepth 20000 in
theorem gL_law_X7_isCommitted : GoodIn wsL_law (wsV RL 220 RX7 yX7_isCommitted wsX7_isCommitted) := goodIn_app (goodIn_of _ (by decide +kernel)) ggL_law_X7_isCommitted
set_option maxRecDepth 20000 in
theorem ggL_law_L_has : GoodIn wsL_law wsL_has := goodIn_ca (goodIn_r _ [648, 131, 649, 650, 651, 2, 652, 653, 144, 145, 146, 147, 17, 18, 148, 149, 150, 151, 152, 203, 204, 205, 206, 610, 611, 612, 613, 142, 143, 654, 211, 212, 1006, 1007, 1008, 1009, 1010, 1011, 1012, 944, 945, 946, 947, 948, 949, 950, 951, 987, 988, 989, 990, 991, 992, 993, 994, 995] (by decide +kernel) (by decide +kernel)) (goodIn_sub (fun _ h => List.mem_append_left _ (List.mem_append_left _ (List.mem_append_right _ h))) (by decide +kernel))
set_option maxRecDepth 20000 in
theorem gL_law_L_has : GoodIn wsL_law (va_wsS RL 221 yL_has wsL_has) := goodIn_app (goodIn_of _ (by decide +kernel)) ggL_law_L_has
set_option maxRecDepth 20000 in
theorem ggL_law_X7_has : GoodIn wsL_law wsX7_has := goodIn_r _ [658, 108, 222, 223, 224, 5, 225, 94, 163, 164, 165, 171, 172, 173, 618, 619, 620, 621, 96, 166, 167, 168, 169, 170, 952, 953, 954, 955, 956, 957, 958, 959, 960, 961, 962, 963, 964, 965, 966, 967, 968, 969, 970, 971, 972, 973, 974, 975, 976, 977, 978, 979, 980, 981, 982, 983, 984, 985, 986] (by decide +kernel) (by decide +kernel)
set_option maxRecDepth 20000 in
theorem gL_law_X7_has : GoodIn wsL_law (wsV RL 223 RX7 yX7_has wsX7_has) := goodIn_app (goodIn_of _ (by decide +kernel)) ggL_law_X7_has
set_option maxRecDepth 20000 in
theorem ggL_law_L_gold : GoodIn wsL_law wsL_gold := goodIn_ca (goodIn_r _ [661, 131, 662, 663, 664, 2, 665, 666, 667, 144, 145, 146, 147, 17, 18, 148, 149, 150, 151, 152, 473, 474, 475, 16, 476, 44, 40, 73, 477, 478, 479, 43, 480, 481, 482, 61, 483, 484, 485, 486, 487, 488, 489, 39, 490, 241, 57, 51, 491, 492, 493, 494, 495, 496, 497, 498, 499, 500, 501, 502, 1013, 1014, 1015, 944, 945, 946, 947, 948, 949, 950, 951, 987, 988, 989, 990, 991, 992, 993, 994, 995, 1006, 1007, 1008, 1009, 1010, 1011, 1012] (by decide +kernel) (by decide +kernel)) (goodIn_sub (fun _ h => List.mem_append_left _ (List.mem_append_left _ (List.mem_append_right _ h))) (by decide +kernel))
set_option maxRecDepth 20000 in
theorem gL_law_L_gold : GoodIn wsL_law (va_wsS RL 224 yL_gold wsL_gold) := goodIn_app (goodIn_of _ (by decide +kernel)) ggL_law_L_gold
set_option maxRecDepth 20000 in
theorem ggL_law_X7_gold : GoodIn wsL_law wsX7_gold := goodIn_r _ [671, 530, 529, 163, 164, 5, 165, 166, 167, 168, 169, 170, 531, 532, 533, 534, 95, 535, 121, 96, 109, 104, 536, 537, 538, 539, 105, 106, 116, 107, 952, 953, 954, 955, 956, 957, 958, 959, 960, 961, 962, 963, 964, 965, 966, 967, 968, 969, 970, 971, 972, 973, 974, 975, 976, 977, 978, 979, 980, 981, 982, 983, 984, 985, 986] (by decide +kernel) (by decide +kernel)
set_option maxRecDepth 20000 in
theorem gL_law_X7_gold : GoodIn wsL_law (wsV RL 227 RX7 yX7_gold wsX7_gold) := goodIn_app (goodIn_of _ (by decide +kernel)) ggL_law_X7_gold
set_option maxRecDepth 20000 in
theorem ggL_law_L_purse : GoodIn wsL_law wsL_purse := goodIn_ca (goodIn_r _ [674, 131, 675, 676, 677, 2, 678, 469, 144, 145, 146, 147, 17, 18, 148, 149, 150, 151, 152, 268, 269, 270, 473, 474, 475, 16, 476, 44, 40, 73, 477, 478, 479, 43, 480, 481, 482, 61, 483, 484, 485, 486, 487, 488, 489, 39, 490, 241, 57, 51, 491, 492, 493, 494, 495, 496, 497, 498, 499, 500, 501, 502, 1013, 1014, 1015, 944, 945, 946, 947, 948, 949, 950, 951, 987, 988, 989, 990, 991, 992, 993, 994, 995, 1006, 1007, 1008, 1009, 1010, 1011, 1012] (by decide +kernel) (by decide +kernel)) (goodIn_sub (fun _ h => List.mem_append_left _ (List.mem_append_left _ (List.mem_append_right _ h))) (by decide +kernel))
set_option maxRecDepth 20000 in
theorem gL_law_L_purse : GoodIn wsL_law (va_wsS RL 228 yL_purse wsL_purse) := goodIn_app (goodIn_of _ (by decide +kernel)) ggL_law_L_purse
set_option maxRecDepth 20000 in
theorem ggL_law_X7_purse : GoodIn wsL_law wsX7_purse := goodIn_r _ [682, 121, 163, 164, 5, 165, 279, 280, 281, 171, 172, 173, 166, 167, 168, 169, 170, 531, 532, 533, 534, 95, 529, 530, 535, 96, 109, 104, 536, 537, 538, 539, 105, 106, 116, 107, 952, 953, 954, 955, 956, 957, 958, 959, 960, 961, 962, 963, 964, 965, 966, 967, 968, 969, 970, 971, 972, 973, 974, 975, 976, 977, 978, 979, 980, 981, 982, 983, 984, 985, 986] (by decide +kernel) (by decide +kernel)
set_option maxRecDepth 20000 in
theorem gL_law_X7_purse : GoodIn wsL_law (wsV RL 230 RX7 yX7_purse wsX7_purse) := goodIn_app (goodIn_of _ (by decide +kernel)) ggL_law_X7_purse
set_option maxRecDepth 20000 in
theorem ggL_law_L_scout : GoodIn wsL_law wsL_scout := goodIn_ca (goodIn_ca (goodIn_ca (goodIn_r _ [685, 131, 133, 464, 686, 687, 688, 2, 689, 140, 141, 507, 508, 690, 20, 190, 144, 145, 146, 147, 17, 18, 148, 149, 150, 151, 152, 268, 269, 270, 369, 298, 299, 16, 300, 75, 34, 313, 314, 315, 316, 72, 317, 318, 319, 320, 321, 322, 323, 691, 692, 693, 22, 694, 85, 695, 696, 697, 698, 699, 700, 701, 702, 488, 489, 39, 490, 241, 57, 51, 703, 474, 475, 476, 44, 40, 73, 477, 478, 479, 43, 480, 481, 482, 61, 483, 484, 485, 486, 487, 491, 492, 493, 494, 495, 496, 497, 498, 499, 500, 501, 502, 704, 944, 945, 946, 947, 948, 949, 950, 951, 987, 988, 989, 990, 991, 992, 993, 994, 995, 996, 997, 998, 999, 1000, 1001, 1006, 1007, 1008, 1009, 1010, 1011, 1012, 1013, 1014, 1015] (by decide +kernel) (by decide +kernel)) (goodIn_sub (fun _ h => List.mem_append_left _ (List.mem_append_left _ (List.mem_append_left _ (List.mem_append_right _ h)))) (by decide +kernel))) (goodIn_sub (fun _ h => List.mem_append_right _ h) (by decide +kernel))) (goodIn_sub (fun _ h => List.mem_append_left _ (List.mem_append_left _ (List.mem_append_right _ h))) (by decide +kernel))
set_option maxRecDepth 20000 in
theorem gL_law_L_scout : GoodIn wsL_law (va_wsS RL 231 yL_scout wsL_scout) := goodIn_app (goodIn_of _ (by decide +kernel)) ggL_law_L_scout
set_option maxRecDepth 20000 in
theorem ggL_law_X7_scout : GoodIn wsL_law wsX7_scout := goodIn_r _ [708, 126, 110, 111, 112, 195, 113, 535, 114, 529, 530, 115, 163, 164, 5, 165, 279, 280, 281, 171, 172, 173, 166, 167, 168, 169, 170, 339, 340, 341, 342, 94, 97, 100, 351, 352, 353, 354, 355, 356, 357, 531, 532, 533, 534, 95, 121, 96, 109, 104, 536, 537, 538, 539, 105, 106, 116, 107, 952, 953, 954, 955, 956, 957, 958, 959, 960, 961, 962, 963, 964, 965, 966, 967, 968, 969, 970, 971, 972, 973, 974, 975, 976, 977, 978, 979, 980, 981, 982, 983, 984, 985, 986] (by decide +kernel) (by decide +kernel)
set_option maxRecDepth 20000 in
theorem gL_law_X7_scout : GoodIn wsL_law (wsV RL 233 RX7 yX7_scout wsX7_scout) := goodIn_app (goodIn_of _ (by decide +kernel)) ggL_law_X7_scout
set_option maxRecDepth 20000 in
theorem ggL_law_L_read : GoodIn wsL_law wsL_read := goodIn_ca (goodIn_ca (goodIn_r _ [711, 131, 133, 712, 713, 714, 2, 715, 140, 141, 190, 716, 717, 718, 719, 720, 721, 151, 152, 690, 20, 722, 723, 724, 22, 725, 696, 85, 697, 698, 944, 945, 946, 947, 948, 949, 950, 951, 996, 997, 998, 999, 1000, 1001, 987, 988, 989, 990, 991, 992, 993, 994, 995] (by decide +kernel) (by decide +kernel)) (goodIn_sub (fun _ h => List.mem_append_left _ (List.mem_append_left _ (List.mem_append_left _ (List.mem_append_right _ h)))) (by decide +kernel))) (goodIn_sub (fun _ h => List.mem_append_left _ (List.mem_append_left _ (List.mem_append_right _ h))) (by decide +kernel))
set_option maxRecDepth 20000 in
theorem gL_law_L_read : GoodIn wsL_law (va_wsS RL 234 yL_read wsL_read) := goodIn_app (goodIn_of _ (by decide +kernel)) ggL_law_L_read
set_option maxRecDepth 20000 in
theorem ggL_law_X7_read : GoodIn wsL_law wsX7_read := goodIn_r _ [729, 126, 113, 114, 171, 172, 5, 173, 166, 167, 168, 169, 170, 730, 731, 732, 733, 115, 195, 112, 952, 953, 954, 955, 956, 957, 958, 959, 960, 961, 962, 963, 964, 965, 966, 967, 968, 969, 970, 971, 972, 973, 974, 975, 976, 977, 978, 979, 980, 981, 982, 983, 984, 985, 986] (by decide +kernel) (by decide +kernel)
set_option maxRecDepth 20000 in
theorem gL_law_X7_read : GoodIn wsL_law (wsV RL 236 RX7 yX7_read wsX7_read) := goodIn_app (goodIn_of _ (by decide +kernel)) ggL_law_X7_read
set_option maxRecDepth 20000 in
theorem ggL_law_L_raid : GoodIn wsL_law wsL_raid := goodIn_ca (goodIn_ca (goodIn_r _ [736, 131, 464, 737, 738, 739, 2, 740, 741, 717, 742, 28, 718, 719, 720, 721, 151, 152, 690, 20, 290, 291, 292, 504, 505, 506, 507, 508, 142, 143, 743, 744, 745, 746, 190, 289, 716, 722, 723, 724, 22, 725, 696, 85, 697, 698, 365, 366, 367, 46, 368, 67, 369, 298, 299, 16, 300, 75, 34, 313, 314, 315, 316, 72, 317, 318, 319, 320, 321, 322, 323, 597, 488, 489, 39, 490, 241, 57, 51, 747, 748, 749, 750, 574, 509, 510, 511, 512, 40, 513, 514, 515, 516, 517, 52, 54, 518, 519, 520, 521, 522, 523, 524, 996, 997, 998, 999, 1000, 1001, 944, 945, 946, 947, 948, 949, 950, 951, 987, 988, 989, 990, 991, 992, 993, 994, 995, 1006, 1007, 1008, 1009, 1010, 1011, 1012, 1016, 1017, 1018] (by decide +kernel) (by decide +kernel)) (goodIn_sub (fun _ h => List.mem_append_left _ (List.mem_append_left _ (List.mem_append_right _ h))) (by decide +kernel))) (goodIn_sub (fun _ h => List.mem_append_right _ h) (by decide +kernel))
set_option maxRecDepth 20000 in
theorem gL_law_L_raid : GoodIn wsL_law (va_wsS RL 237 yL_raid wsL_raid) := goodIn_app (goodIn_of _ (by decide +kernel)) ggL_law_L_raid
set_option maxRecDepth 20000 in
theorem ggL_law_X7_raid : GoodIn wsL_law wsX7_raid := goodIn_r _ [754, 126, 111, 110, 96, 535, 113, 114, 120, 171, 172, 5, 173, 336, 337, 338, 166, 167, 168, 169, 170, 730, 731, 732, 733, 115, 195, 112, 378, 379, 380, 381, 103, 339, 340, 341, 342, 94, 97, 100, 351, 352, 353, 354, 355, 356, 357, 755, 756, 757, 758, 531, 532, 533, 534, 95, 529, 530, 121, 109, 104, 536, 537, 538, 539, 105, 106, 116, 107, 540, 541, 542, 543, 108, 544, 545, 546, 547, 952, 953, 954, 955, 956, 957, 958, 959, 960, 961, 962, 963, 964, 965, 966, 967, 968, 969, 970, 971, 972, 973, 974, 975, 976, 977, 978, 979, 980, 981, 982, 983, 984, 985, 986] (by decide +kernel) (by decide +kernel)
set_option maxRecDepth 20000 in
theorem gL_law_X7_raid : GoodIn wsL_law (wsV RL 239 RX7 yX7_raid wsX7_raid) := goodIn_app (goodIn_of _ (by decide +kernel)) ggL_law_X7_raid
set_option maxRecDepth 20000 in
theorem ggL_law_L_won : GoodIn wsL_law wsL_won := goodIn_ca (goodIn_r _ [761, 131, 762, 763, 764, 2, 765, 28, 268, 269, 270, 151, 152, 944, 945, 946, 947, 948, 949, 950, 951] (by decide +kernel) (by decide +kernel)) (goodIn_sub (fun _ h => List.mem_append_left _ (List.mem_append_left _ (List.mem_append_right _ h))) (by decide +kernel))
set_option maxRecDepth 20000 in
theorem gL_law_L_won : GoodIn wsL_law (va_wsS RL 240 yL_won wsL_won) := goodIn_app (goodIn_of _ (by decide +kernel)) ggL_law_L_won
set_option maxRecDepth 20000 in
theorem ggL_law_X7_won : GoodIn wsL_law wsX7_won := goodIn_r _ [769, 120, 279, 280, 5, 281, 171, 172, 173, 166, 167, 168, 169, 170, 952, 953, 954, 955, 956, 957, 958, 959, 960, 961, 962, 963, 964, 965, 966, 967, 968, 969, 970, 971, 972, 973, 974, 975, 976, 977, 978, 979, 980, 981, 982, 983, 984, 985, 986] (by decide +kernel) (by decide +kernel)
set_option maxRecDepth 20000 in
theorem gL_law_X7_won : GoodIn wsL_law (wsV RL 242 RX7 yX7_won wsX7_won) := goodIn_app (goodIn_of _ (by decide +kernel)) ggL_law_X7_won
set_option maxRecDepth 20000 in
theorem ggL_law_L_truce : GoodIn wsL_law wsL_truce := goodIn_ca (goodIn_ca (goodIn_ca (goodIn_r _ [772, 131, 132, 464, 773, 774, 775, 2, 776, 507, 508, 157, 24, 148, 149, 150, 151, 152, 470, 471, 472, 138, 139, 777, 778, 779, 26, 780, 781, 782, 783, 89, 944, 945, 946, 947, 948, 949, 950, 951, 1002, 1003, 1004, 1005] (by decide +kernel) (by decide +kernel)) (goodIn_sub (fun _ h => List.mem_append_right _ h) (by decide +kernel))) (goodIn_sub (fun _ h => List.mem_append_left _ (List.mem_append_left _ (List.mem_append_right _ h))) (by decide +kernel))) (goodIn_sub (fun _ h => List.mem_append_left _ (List.mem_append_left _ (List.mem_append_left _ (List.mem_append_left _ (List.mem_append_right _ h))))) (by decide +kernel))
set_option maxRecDepth 20000 in
theorem gL_law_L_truce : GoodIn wsL_law (va_wsS RL 243 yL_truce wsL_truce) := goodIn_app (goodIn_of _ (by decide +kernel)) ggL_law_L_truce
set_option maxRecDepth 20000 in
theorem ggL_law_X7_truce : GoodIn wsL_law wsX7_truce := goodIn_r _ [787, 178, 116, 117, 118, 119, 163, 164, 5, 165, 166, 167, 168, 169, 170, 171, 172, 173, 952, 953, 954, 955, 956, 957, 958, 959, 960, 961, 962, 963, 964, 965, 966, 967, 968, 969, 970, 971, 972, 973, 974, 975, 976, 977, 978, 979, 980, 981, 982, 983, 984, 985, 986] (by decide +kernel) (by decide +kernel)
set_option maxRecDepth 20000 in
theorem gL_law_X7_truce : GoodIn wsL_law (wsV RL 245 RX7 yX7_truce wsX7_truce) := goodIn_app (goodIn_of _ (by decide +kernel)) ggL_law_X7_truce
set_option maxRecDepth 20000 in
theorem ggL_law_L_prepare : GoodIn wsL_law wsL_prepare := goodIn_ca (goodIn_ca (goodIn_ca (goodIn_r _ [790, 131, 133, 464, 791, 792, 793, 2, 794, 140, 141, 158, 795, 796, 797, 798, 799, 800, 151, 152, 157, 24, 144, 145, 146, 147, 17, 18, 148, 149, 150, 268, 269, 270, 801, 802, 803, 804, 142, 805, 806, 807, 26, 808, 783, 153, 154, 155, 156, 369, 298, 299, 16, 300, 75, 34, 313, 314, 315, 316, 72, 317, 318, 319, 320, 321, 322, 323, 747, 748, 749, 39, 750, 241, 574, 488, 489, 490, 57, 51, 473, 474, 475, 476, 44, 40, 73, 477, 478, 479, 43, 480, 481, 482, 61, 483, 484, 485, 486, 487, 491, 492, 493, 494, 495, 496, 497, 498, 499, 500, 501, 502, 503, 504, 505, 506, 507, 508, 143, 809, 810, 811, 812, 813, 514, 515, 516, 517, 52, 54, 518, 519, 520, 521, 522, 523, 524, 1002, 1003, 1004, 1005, 944, 945, 946, 947, 948, 949, 950, 951, 987, 988, 989, 990, 991, 992, 993, 994, 995, 1006, 1007, 1008, 1009, 1010, 1011, 1012, 1013, 1014, 1015] (by decide +kernel) (by decide +kernel)) (goodIn_sub (fun _ h => List.mem_append_left _ (List.mem_append_left _ (List.mem_append_left _ (List.mem_append_right _ h)))) (by decide +kernel))) (goodIn_sub (fun _ h => List.mem_append_left _ (List.mem_append_left _ (List.mem_append_right _ h))) (by decide +kernel))) (goodIn_sub (fun _ h => List.mem_append_right _ h) (by decide +kernel))
set_option maxRecDepth 20000 in
theorem gL_law_L_prepare : GoodIn wsL_law (va_wsS RL 246 yL_prepare wsL_prepare) := goodIn_app (goodIn_of _ (by decide +kernel)) ggL_law_L_prepare
set_option maxRecDepth 20000 in
theorem ggL_law_X7_prepare : GoodIn wsL_law wsX7_prepare := goodIn_r _ [817, 119, 118, 116, 529, 530, 117, 96, 818, 819, 820, 5, 821, 178, 171, 172, 173, 163, 164, 165, 279, 280, 281, 166, 167, 168, 169, 170, 755, 756, 757, 758, 535, 531, 532, 533, 534, 95, 121, 109, 104, 536, 537, 538, 539, 105, 106, 107, 174, 175, 176, 177, 339, 340, 341, 342, 94, 97, 100, 351, 352, 353, 354, 355, 356, 357, 540, 541, 542, 543, 108, 544, 545, 546, 547, 952, 953, 954, 955, 956, 957, 958, 959, 960, 961, 962, 963, 964, 965, 966, 967, 968, 969, 970, 971, 972, 973, 974, 975, 976, 977, 978, 979, 980, 981, 982, 983, 984, 985, 986] (by decide +kernel) (by decide +kernel)
set_option maxRecDepth 20000 in
theorem gL_law_X7_prepare : GoodIn wsL_law (wsV RL 248 RX7 yX7_prepare wsX7_prepare) := goodIn_app (goodIn_of _ (by decide +kernel)) ggL_law_X7_prepare
set_option maxRecDepth 20000 in
theorem ggL_law_L_decide : GoodIn wsL_law wsL_decide := goodIn_ca (goodIn_ca (goodIn_r _ [824, 131, 133, 825, 826, 827, 2, 828, 140, 141, 829, 797, 798, 799, 800, 151, 152, 157, 24, 830, 831, 832, 26, 833, 89, 805, 806, 807, 808, 783, 1002, 1003, 1004, 1005, 944, 945, 946, 947, 948, 949, 950, 951] (by decide +kernel) (by decide +kernel)) (goodIn_sub (fun _ h => List.mem_append_left _ (List.mem_append_left _ (List.mem_append_left _ (List.mem_append_right _ h)))) (by decide +kernel))) (goodIn_sub (fun _ h => List.mem_append_left _ (List.mem_append_left _ (List.mem_append_right _ h))) (by decide +kernel))
set_option maxRecDepth 20000 in
theorem gL_law_L_decide : GoodIn wsL_law (va_wsS RL 249 yL_decide wsL_decide) := goodIn_app (goodIn_of _ (by decide +kernel)) ggL_law_L_decide
set_option maxRecDepth 20000 in
theorem ggL_law_X7_decide : GoodIn wsL_law wsX7_decide := goodIn_r _ [837, 119, 118, 818, 819, 820, 5, 821, 178, 171, 172, 173, 166, 167, 168, 169, 170, 952, 953, 954, 955, 956, 957, 958, 959, 960, 961, 962, 963, 964, 965, 966, 967, 968, 969, 970, 971, 972, 973, 974, 975, 976, 977, 978, 979, 980, 981, 982, 983, 984, 985, 986] (by decide +kernel) (by decide +kernel)
set_option maxRecDepth 20000 in
theorem gL_law_X7_decide : GoodIn wsL_law (wsV RL 251 RX7 yX7_decide wsX7_decide) := goodIn_app (goodIn_of _ (by decide +kernel)) ggL_law_X7_decide
set_option maxRecDepth 20000 in
theorem ggL_law_L_settle : GoodIn wsL_law wsL_settle := goodIn_ca (goodIn_ca (goodIn_ca (goodIn_r _ [840, 131, 133, 464, 841, 842, 843, 2, 844, 140, 141, 24, 845, 142, 158, 829, 795, 796, 144, 145, 146, 147, 17, 18, 148, 149, 150, 151, 152, 153, 154, 155, 156, 157, 805, 806, 807, 26, 808, 783, 313, 314, 315, 16, 316, 72, 317, 318, 319, 320, 321, 322, 323, 747, 748, 749, 39, 750, 241, 574, 488, 489, 490, 57, 51, 504, 505, 506, 507, 508, 143, 809, 810, 811, 812, 40, 813, 514, 515, 516, 517, 52, 54, 518, 519, 520, 521, 522, 523, 524, 944, 945, 946, 947, 948, 949, 950, 951, 987, 988, 989, 990, 991, 992, 993, 994, 995, 1002, 1003, 1004, 1005, 1006, 1007, 1008, 1009, 1010, 1011, 1012] (by decide +kernel) (by decide +kernel)) (goodIn_sub (fun _ h => List.mem_append_left _ (List.mem_append_left _ (List.mem_append_left _ (List.mem_append_right _ h)))) (by decide +kernel))) (goodIn_sub (fun _ h => List.mem_append_left _ (List.mem_append_left _ (List.mem_append_right _ h))) (by decide +kernel))) (goodIn_sub (fun _ h => List.mem_append_right _ h) (by decide +kernel))
set_option maxRecDepth 20000 in
theorem gL_law_L_settle : GoodIn wsL_law (va_wsS RL 252 yL_settle wsL_settle) := goodIn_app (goodIn_of _ (by decide +kernel)) ggL_law_L_settle
set_option maxRecDepth 20000 in
theorem ggL_law_X7_settle : GoodIn wsL_law wsX7_settle := goodIn_r _ [849, 118, 96, 119, 117, 163, 164, 5, 165, 166, 167, 168, 169, 170, 174, 175, 176, 177, 178, 755, 756, 757, 758, 535, 531, 532, 533, 534, 95, 529, 530, 121, 109, 104, 536, 537, 538, 539, 105, 106, 116, 107, 339, 340, 341, 342, 94, 97, 100, 351, 352, 353, 354, 355, 356, 357, 540, 541, 542, 543, 108, 544, 545, 546, 547, 952, 953, 954, 955, 956, 957, 958, 959, 960, 961, 962, 963, 964, 965, 966, 967, 968, 969, 970, 971, 972, 973, 974, 975, 976, 977, 978, 979, 980, 981, 982, 983, 984, 985, 986] (by decide +kernel) (by decide +kernel)
set_option maxRecDepth 20000 in
theorem gL_law_X7_settle : GoodIn wsL_law (wsV RL 254 RX7 yX7_settle wsX7_settle) := goodIn_app (goodIn_of _ (by decide +kernel)) ggL_law_X7_settle
set_option maxRecDepth 20000 in
theorem ggL_law_L_truceOf : GoodIn wsL_law wsL_truceOf := goodIn_ca (goodIn_r _ [852, 131, 853, 854, 855, 2, 856, 158, 797, 798, 799, 800, 151, 152, 157, 24, 148, 149, 150, 1002, 1003, 1004, 1005, 944, 945, 946, 947, 948, 949, 950, 951] (by decide +kernel) (by decide +kernel)) (goodIn_sub (fun _ h => List.mem_append_left _ (List.mem_append_left _ (List.mem_append_right _ h))) (by decide +kernel))
set_option maxRecDepth 20000 in
theorem gL_law_L_truceOf : GoodIn wsL_law (va_wsS RL 255 yL_truceOf wsL_truceOf) := goodIn_app (goodIn_of _ (by decide +kernel)) ggL_law_L_truceOf
set_option maxRecDepth 20000 in
theorem ggL_law_X7_truceOf : GoodIn wsL_law wsX7_truceOf := goodIn_r _ [860, 119, 818, 819, 820, 5, 821, 178, 171, 172, 173, 163, 164, 165, 166, 167, 168, 169, 170, 952, 953, 954, 955, 956, 957, 958, 959, 960, 961, 962, 963, 964, 965, 966, 967, 968, 969, 970, 971, 972, 973, 974, 975, 976, 977, 978, 979, 980, 981, 982, 983, 984, 985, 986] (by decide +kernel) (by decide +kernel)
set_option maxRecDepth 20000 in
theorem gL_law_X7_truceOf : GoodIn wsL_law (wsV RL 257 RX7 yX7_truceOf wsX7_truceOf) := goodIn_app (goodIn_of _ (by decide +kernel)) ggL_law_X7_truceOf
set_option maxRecDepth 20000 in
theorem ggL_law_X6_time : GoodIn wsL_law wsX6_time := goodIn_r _ [864, 190, 944, 945, 946, 947, 948, 949, 950, 951] (by decide +kernel) (by decide +kernel)
set_option maxRecDepth 20000 in
theorem gL_law_X6_time : GoodIn wsL_law (wsV RL 258 RX6 yX6_time wsX6_time) := goodIn_app (goodIn_of _ (by decide +kernel)) ggL_law_X6_time
set_option maxRecDepth 20000 in
theorem ggL_law_X7_time : GoodIn wsL_law wsX7_time := goodIn_r _ [868, 195, 952, 953, 954, 955, 956, 957, 958, 959, 960, 961, 962, 963, 964, 965, 966, 967, 968, 969, 970, 971, 972, 973, 974, 975, 976, 977, 978, 979, 980, 981, 982, 983, 984, 985, 986] (by decide +kernel) (by decide +kernel)
set_option maxRecDepth 20000 in
theorem gL_law_X7_time : GoodIn wsL_law (wsV RL 261 RX7 yX7_time wsX7_time) := goodIn_app (goodIn_of _ (by decide +kernel)) ggL_law_X7_time
set_option maxRecDepth 20000 in
theorem ggL_law_X6_checksum : GoodIn wsL_law wsX6_checksum := goodIn_r _ [872, 18, 17, 873, 874, 875, 876, 16, 877, 878, 44, 879, 880, 881, 474, 475, 476, 40, 73, 477, 478, 479, 43, 480, 481, 482, 61, 483, 484, 485, 486, 487, 488, 489, 39, 490, 241, 57, 51, 491, 492, 493, 494, 495, 496, 497, 498, 499, 500, 501, 502, 944, 945, 946, 947, 948, 949, 950, 951, 987, 988, 989, 990, 991, 992, 993, 994, 995, 1013, 1014, 1015, 1006, 1007, 1008, 1009, 1010, 1011, 1012] (by decide +kernel) (by decide +kernel)
set_option maxRecDepth 20000 in
theorem gL_law_X6_checksum : GoodIn wsL_law (wsV RL 262 RX6 yX6_checksum wsX6_checksum) := goodIn_app (goodIn_of _ (by decide +kernel)) ggL_law_X6_checksum
set_option maxRecDepth 20000 in
theorem ggL_law_X7_checksum : GoodIn wsL_law wsX7_checksum := goodIn_r _ [885, 886, 887, 529, 121, 531, 532, 533, 5, 534, 95, 530, 535, 96, 109, 104, 536, 537, 538, 539, 105, 106, 116, 107, 952, 953, 954, 955, 956, 957, 958, 959, 960, 961, 962, 963, 964, 965, 966, 967, 968, 969, 970, 971, 972, 973, 974, 975, 976, 977, 978, 979, 980, 981, 982, 983, 984, 985, 986] (by decide +kernel) (by decide +kernel)
set_option maxRecDepth 20000 in
theorem gL_law_X7_checksum : GoodIn wsL_law (wsV RL 266 RX7 yX7_checksum wsX7_checksum) := goodIn_app (goodIn_of _ (by decide +kernel)) ggL_law_X7_checksum
set_option maxRecDepth 20000 in
theorem ggL_law_L_upShare : GoodIn wsL_law wsL_upShare := goodIn_ca (goodIn_r _ [890, 131, 891, 892, 893, 2, 894, 845, 206, 144, 145, 146, 147, 17, 18, 148, 149, 150, 151, 152, 444, 318, 319, 320, 321, 322, 323, 987, 988, 989, 990, 991, 992, 993, 994, 995, 944, 945, 946, 947, 948, 949, 950, 951] (by decide +kernel) (by decide +kernel)) (goodIn_sub (fun _ h => List.mem_append_left _ (List.mem_append_left _ (List.mem_append_right _ h))) (by decide +kernel))
set_option maxRecDepth 20000 in
theorem gL_law_L_upShare : GoodIn wsL_law (va_wsS RL 267 yL_upShare wsL_upShare) := goodIn_app (goodIn_of _ (by decide +kernel)) ggL_law_L_upShare
set_option maxRecDepth 20000 in
theorem ggL_law_X7_upShare : GoodIn wsL_law wsX7_upShare := goodIn_r _ [898, 94, 163, 164, 5, 165, 166, 167, 168, 169, 170, 339, 340, 341, 342, 97, 100, 355, 356, 357, 952, 953, 954, 955, 956, 957, 958, 959, 960, 961, 962, 963, 964, 965, 966, 967, 968, 969, 970, 971, 972, 973, 974, 975, 976, 977, 978, 979, 980, 981, 982, 983, 984, 985, 986] (by decide +kernel) (by decide +kernel)
set_option maxRecDepth 20000 in
theorem gL_law_X7_upShare : GoodIn wsL_law (wsV RL 270 RX7 yX7_upShare wsX7_upShare) := goodIn_app (goodIn_of _ (by decide +kernel)) ggL_law_X7_upShare
set_option maxRecDepth 20000 in
theorem ggL_law_L_meanEntries : GoodIn wsL_law wsL_meanEntries := goodIn_ca (goodIn_r _ [901, 131, 902, 903, 904, 2, 905, 142, 206, 144, 145, 146, 147, 17, 18, 148, 149, 150, 151, 152, 906, 907, 908, 39, 909, 241, 54, 910, 318, 319, 320, 321, 322, 323, 987, 988, 989, 990, 991, 992, 993, 994, 995, 944, 945, 946, 947, 948, 949, 950, 951, 1006, 1007, 1008, 1009, 1010, 1011, 1012] (by decide +kernel) (by decide +kernel)) (goodIn_sub (fun _ h => List.mem_append_left _ (List.mem_append_left _ (List.mem_append_right _ h))) (by decide +kernel))
set_option maxRecDepth 20000 in
theorem gL_law_L_meanEntries : GoodIn wsL_law (va_wsS RL 271 yL_meanEntries wsL_meanEntries) := goodIn_app (goodIn_of _ (by decide +kernel)) ggL_law_L_meanEntries
set_option maxRecDepth 20000 in
theorem ggL_law_X7_meanEntries : GoodIn wsL_law wsX7_meanEntries := goodIn_r _ [914, 96, 108, 94, 163, 164, 5, 165, 166, 167, 168, 169, 170, 355, 356, 357, 952, 953, 954, 955, 956, 957, 958, 959, 960, 961, 962, 963, 964, 965, 966, 967, 968, 969, 970, 971, 972, 973, 974, 975, 976, 977, 978, 979, 980, 981, 982, 983, 984, 985, 986] (by decide +kernel) (by decide +kernel)
set_option maxRecDepth 20000 in
theorem gL_law_X7_meanEntries : GoodIn wsL_law (wsV RL 273 RX7 yX7_meanEntries wsX7_meanEntries) := goodIn_app (goodIn_of _ (by decide +kernel)) ggL_law_X7_meanEntries
set_option maxRecDepth 20000 in
theorem ggL_law_X6_isSound : GoodIn wsL_law wsX6_isSound := goodIn_r _ [918, 17, 190, 18, 919, 920, 921, 16, 922, 36, 44, 73, 40, 923, 924, 925, 46, 926, 927, 366, 367, 368, 67, 881, 474, 475, 476, 477, 478, 479, 43, 480, 481, 482, 61, 483, 484, 485, 486, 487, 488, 489, 39, 490, 241, 57, 51, 491, 492, 493, 494, 495, 496, 497, 498, 499, 500, 501, 502, 928, 929, 930, 931, 932, 933, 934, 935, 936, 937, 938, 939, 56, 52, 574, 944, 945, 946, 947, 948, 949, 950, 951, 987, 988, 989, 990, 991, 992, 993, 994, 995, 1016, 1017, 1018, 1013, 1014, 1015, 1006, 1007, 1008, 1009, 1010, 1011, 1012] (by decide +kernel) (by decide +kernel)
set_option maxRecDepth 20000 in
theorem gL_law_X6_isSound : GoodIn wsL_law (wsV RL 274 RX6 yX6_isSound wsX6_isSound) := goodIn_app (goodIn_of _ (by decide +kernel)) ggL_law_X6_isSound
set_option maxRecDepth 20000 in
theorem ggL_law_X7_isSound : GoodIn wsL_law wsX7_isSound := goodIn_r _ [943] (by decide +kernel) (by decide +kernel)
set_option maxRecDepth 20000 in
theorem gL_law_X7_isSound : GoodIn wsL_law (wsV RL 278 RX7 yX7_isSound wsX7_isSound) := goodIn_app (goodIn_of _ (by decide +kernel)) ggL_law_X7_isSound
