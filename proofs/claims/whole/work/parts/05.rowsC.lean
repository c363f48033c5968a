theorem dX6_init_0 : decode cX6_init 0 = .ok (.aload_n 0, 1) := by decide +kernel
theorem dX6_init_1 : decode cX6_init 1 = .ok (.invokespecial 1, 3) := by decide +kernel
theorem dX6_init_4 : decode cX6_init 4 = .ok (.aload_n 0, 1) := by decide +kernel
theorem dX6_init_5 : decode cX6_init 5 = .ok (.bipush 20, 2) := by decide +kernel
theorem dX6_init_7 : decode cX6_init 7 = .ok (.newarray .int, 2) := by decide +kernel
theorem dX6_init_9 : decode cX6_init 9 = .ok (.putfield 7, 3) := by decide +kernel
theorem dX6_init_12 : decode cX6_init 12 = .ok (.aload_n 0, 1) := by decide +kernel
theorem dX6_init_13 : decode cX6_init 13 = .ok (.bipush 20, 2) := by decide +kernel
theorem dX6_init_15 : decode cX6_init 15 = .ok (.newarray .int, 2) := by decide +kernel
theorem dX6_init_17 : decode cX6_init 17 = .ok (.putfield 13, 3) := by decide +kernel
theorem dX6_init_20 : decode cX6_init 20 = .ok (.aload_n 0, 1) := by decide +kernel
theorem dX6_init_21 : decode cX6_init 21 = .ok (.iconst 4, 1) := by decide +kernel
theorem dX6_init_22 : decode cX6_init 22 = .ok (.newarray .int, 2) := by decide +kernel
theorem dX6_init_24 : decode cX6_init 24 = .ok (.putfield 16, 3) := by decide +kernel
theorem dX6_init_27 : decode cX6_init 27 = .ok (.aload_n 0, 1) := by decide +kernel
theorem dX6_init_28 : decode cX6_init 28 = .ok (.sipush 180, 3) := by decide +kernel
theorem dX6_init_31 : decode cX6_init 31 = .ok (.newarray .int, 2) := by decide +kernel
theorem dX6_init_33 : decode cX6_init 33 = .ok (.putfield 19, 3) := by decide +kernel
theorem dX6_init_36 : decode cX6_init 36 = .ok (.aload_n 0, 1) := by decide +kernel
theorem dX6_init_37 : decode cX6_init 37 = .ok (.sipush 180, 3) := by decide +kernel
theorem dX6_init_40 : decode cX6_init 40 = .ok (.newarray .int, 2) := by decide +kernel
theorem dX6_init_42 : decode cX6_init 42 = .ok (.putfield 22, 3) := by decide +kernel
theorem dX6_init_45 : decode cX6_init 45 = .ok (.aload_n 0, 1) := by decide +kernel
theorem dX6_init_46 : decode cX6_init 46 = .ok (.sipush 180, 3) := by decide +kernel
theorem dX6_init_49 : decode cX6_init 49 = .ok (.newarray .int, 2) := by decide +kernel
theorem dX6_init_51 : decode cX6_init 51 = .ok (.putfield 25, 3) := by decide +kernel
theorem dX6_init_54 : decode cX6_init 54 = .ok (.aload_n 0, 1) := by decide +kernel
theorem dX6_init_55 : decode cX6_init 55 = .ok (.sipush 180, 3) := by decide +kernel
theorem dX6_init_58 : decode cX6_init 58 = .ok (.newarray .int, 2) := by decide +kernel
theorem dX6_init_60 : decode cX6_init 60 = .ok (.putfield 28, 3) := by decide +kernel
theorem dX6_init_63 : decode cX6_init 63 = .ok (.aload_n 0, 1) := by decide +kernel
theorem dX6_init_64 : decode cX6_init 64 = .ok (.sipush 180, 3) := by decide +kernel
theorem dX6_init_67 : decode cX6_init 67 = .ok (.newarray .int, 2) := by decide +kernel
theorem dX6_init_69 : decode cX6_init 69 = .ok (.putfield 31, 3) := by decide +kernel
theorem dX6_init_72 : decode cX6_init 72 = .ok (.aload_n 0, 1) := by decide +kernel
theorem dX6_init_73 : decode cX6_init 73 = .ok (.sipush 180, 3) := by decide +kernel
theorem dX6_init_76 : decode cX6_init 76 = .ok (.newarray .int, 2) := by decide +kernel
theorem dX6_init_78 : decode cX6_init 78 = .ok (.putfield 34, 3) := by decide +kernel
theorem dX6_init_81 : decode cX6_init 81 = .ok (.aload_n 0, 1) := by decide +kernel
theorem dX6_init_82 : decode cX6_init 82 = .ok (.bipush 20, 2) := by decide +kernel
theorem dX6_init_84 : decode cX6_init 84 = .ok (.newarray .int, 2) := by decide +kernel
theorem dX6_init_86 : decode cX6_init 86 = .ok (.putfield 37, 3) := by decide +kernel
theorem dX6_init_89 : decode cX6_init 89 = .ok (.aload_n 0, 1) := by decide +kernel
theorem dX6_init_90 : decode cX6_init 90 = .ok (.bipush 20, 2) := by decide +kernel
theorem dX6_init_92 : decode cX6_init 92 = .ok (.newarray .int, 2) := by decide +kernel
theorem dX6_init_94 : decode cX6_init 94 = .ok (.putfield 40, 3) := by decide +kernel
theorem dX6_init_97 : decode cX6_init 97 = .ok (.aload_n 0, 1) := by decide +kernel
theorem dX6_init_98 : decode cX6_init 98 = .ok (.bipush 20, 2) := by decide +kernel
theorem dX6_init_100 : decode cX6_init 100 = .ok (.newarray .int, 2) := by decide +kernel
theorem dX6_init_102 : decode cX6_init 102 = .ok (.putfield 43, 3) := by decide +kernel
theorem dX6_init_105 : decode cX6_init 105 = .ok (.aload_n 0, 1) := by decide +kernel
theorem dX6_init_106 : decode cX6_init 106 = .ok (.sipush 180, 3) := by decide +kernel
theorem dX6_init_109 : decode cX6_init 109 = .ok (.newarray .int, 2) := by decide +kernel
theorem dX6_init_111 : decode cX6_init 111 = .ok (.putfield 46, 3) := by decide +kernel
theorem dX6_init_114 : decode cX6_init 114 = .ok (.aload_n 0, 1) := by decide +kernel
theorem dX6_init_115 : decode cX6_init 115 = .ok (.iconst 4, 1) := by decide +kernel
theorem dX6_init_116 : decode cX6_init 116 = .ok (.newarray .int, 2) := by decide +kernel
theorem dX6_init_118 : decode cX6_init 118 = .ok (.putfield 49, 3) := by decide +kernel
theorem dX6_init_121 : decode cX6_init 121 = .ok (.aload_n 0, 1) := by decide +kernel
theorem dX6_init_122 : decode cX6_init 122 = .ok (.bipush 20, 2) := by decide +kernel
theorem dX6_init_124 : decode cX6_init 124 = .ok (.newarray .int, 2) := by decide +kernel
theorem dX6_init_126 : decode cX6_init 126 = .ok (.putfield 52, 3) := by decide +kernel
theorem dX6_init_129 : decode cX6_init 129 = .ok (.aload_n 0, 1) := by decide +kernel
theorem dX6_init_130 : decode cX6_init 130 = .ok (.iconst 5, 1) := by decide +kernel
theorem dX6_init_131 : decode cX6_init 131 = .ok (.newarray .int, 2) := by decide +kernel
theorem dX6_init_133 : decode cX6_init 133 = .ok (.putfield 55, 3) := by decide +kernel
theorem dX6_init_136 : decode cX6_init 136 = .ok (.aload_n 0, 1) := by decide +kernel
theorem dX6_init_137 : decode cX6_init 137 = .ok (.iconst 3, 1) := by decide +kernel
theorem dX6_init_138 : decode cX6_init 138 = .ok (.newarray .int, 2) := by decide +kernel
theorem dX6_init_140 : decode cX6_init 140 = .ok (.putfield 58, 3) := by decide +kernel
theorem dX6_init_143 : decode cX6_init 143 = .ok (.aload_n 0, 1) := by decide +kernel
theorem dX6_init_144 : decode cX6_init 144 = .ok (.iconst 3, 1) := by decide +kernel
theorem dX6_init_145 : decode cX6_init 145 = .ok (.newarray .int, 2) := by decide +kernel
theorem dX6_init_147 : decode cX6_init 147 = .ok (.putfield 61, 3) := by decide +kernel
theorem dX6_init_150 : decode cX6_init 150 = .ok (.aload_n 0, 1) := by decide +kernel
theorem dX6_init_151 : decode cX6_init 151 = .ok (.bipush 18, 2) := by decide +kernel
theorem dX6_init_153 : decode cX6_init 153 = .ok (.newarray .int, 2) := by decide +kernel
theorem dX6_init_155 : decode cX6_init 155 = .ok (.putfield 64, 3) := by decide +kernel
theorem dX6_init_158 : decode cX6_init 158 = .ok (.aload_n 0, 1) := by decide +kernel
theorem dX6_init_159 : decode cX6_init 159 = .ok (.bipush 18, 2) := by decide +kernel
theorem dX6_init_161 : decode cX6_init 161 = .ok (.newarray .int, 2) := by decide +kernel
theorem dX6_init_163 : decode cX6_init 163 = .ok (.putfield 67, 3) := by decide +kernel
theorem dX6_init_166 : decode cX6_init 166 = .ok (.aload_n 0, 1) := by decide +kernel
theorem dX6_init_167 : decode cX6_init 167 = .ok (.bipush 18, 2) := by decide +kernel
theorem dX6_init_169 : decode cX6_init 169 = .ok (.newarray .int, 2) := by decide +kernel
theorem dX6_init_171 : decode cX6_init 171 = .ok (.putfield 70, 3) := by decide +kernel
theorem dX6_init_174 : decode cX6_init 174 = .ok (.aload_n 0, 1) := by decide +kernel
theorem dX6_init_175 : decode cX6_init 175 = .ok (.getfield 16, 3) := by decide +kernel
theorem dX6_init_178 : decode cX6_init 178 = .ok (.iconst 0, 1) := by decide +kernel
theorem dX6_init_179 : decode cX6_init 179 = .ok (.iconst 4, 1) := by decide +kernel
theorem dX6_init_180 : decode cX6_init 180 = .ok (.iastore, 1) := by decide +kernel
theorem dX6_init_181 : decode cX6_init 181 = .ok (.aload_n 0, 1) := by decide +kernel
theorem dX6_init_182 : decode cX6_init 182 = .ok (.getfield 16, 3) := by decide +kernel
theorem dX6_init_185 : decode cX6_init 185 = .ok (.iconst 1, 1) := by decide +kernel
theorem dX6_init_186 : decode cX6_init 186 = .ok (.bipush 8, 2) := by decide +kernel
theorem dX6_init_188 : decode cX6_init 188 = .ok (.iastore, 1) := by decide +kernel
theorem dX6_init_189 : decode cX6_init 189 = .ok (.aload_n 0, 1) := by decide +kernel
theorem dX6_init_190 : decode cX6_init 190 = .ok (.getfield 16, 3) := by decide +kernel
theorem dX6_init_193 : decode cX6_init 193 = .ok (.iconst 2, 1) := by decide +kernel
theorem dX6_init_194 : decode cX6_init 194 = .ok (.iconst 1, 1) := by decide +kernel
theorem dX6_init_195 : decode cX6_init 195 = .ok (.iastore, 1) := by decide +kernel
theorem dX6_init_196 : decode cX6_init 196 = .ok (.iconst 0, 1) := by decide +kernel
theorem dX6_init_197 : decode cX6_init 197 = .ok (.istore_n 1, 1) := by decide +kernel
theorem dX6_init_198 : decode cX6_init 198 = .ok (.iload_n 1, 1) := by decide +kernel
theorem dX6_init_199 : decode cX6_init 199 = .ok (.bipush 20, 2) := by decide +kernel
theorem dX6_init_201 : decode cX6_init 201 = .ok (.if_icmp .ge 17, 3) := by decide +kernel
theorem dX6_init_204 : decode cX6_init 204 = .ok (.aload_n 0, 1) := by decide +kernel
theorem dX6_init_205 : decode cX6_init 205 = .ok (.getfield 13, 3) := by decide +kernel
theorem dX6_init_208 : decode cX6_init 208 = .ok (.iload_n 1, 1) := by decide +kernel
theorem dX6_init_209 : decode cX6_init 209 = .ok (.bipush (-9), 2) := by decide +kernel
theorem dX6_init_211 : decode cX6_init 211 = .ok (.iastore, 1) := by decide +kernel
theorem dX6_init_212 : decode cX6_init 212 = .ok (.iinc 1 1, 3) := by decide +kernel
theorem dX6_init_215 : decode cX6_init 215 = .ok (.goto (-17), 3) := by decide +kernel
theorem dX6_init_218 : decode cX6_init 218 = .ok (.return_, 1) := by decide +kernel
theorem dX6_within_0 : decode cX6_within 0 = .ok (.iload_n 0, 1) := by decide +kernel
theorem dX6_within_1 : decode cX6_within 1 = .ok (.iload_n 1, 1) := by decide +kernel
theorem dX6_within_2 : decode cX6_within 2 = .ok (.if_icmp .lt 12, 3) := by decide +kernel
theorem dX6_within_5 : decode cX6_within 5 = .ok (.iload_n 0, 1) := by decide +kernel
theorem dX6_within_6 : decode cX6_within 6 = .ok (.iload_n 2, 1) := by decide +kernel
theorem dX6_within_7 : decode cX6_within 7 = .ok (.if_icmp .gt 7, 3) := by decide +kernel
theorem dX6_within_10 : decode cX6_within 10 = .ok (.iconst 1, 1) := by decide +kernel
theorem dX6_within_11 : decode cX6_within 11 = .ok (.goto 4, 3) := by decide +kernel
theorem dX6_within_14 : decode cX6_within 14 = .ok (.iconst 0, 1) := by decide +kernel
theorem dX6_within_15 : decode cX6_within 15 = .ok (.ireturn, 1) := by decide +kernel
set_option maxRecDepth 20000 in
theorem ggX6_isLine_X6_within : GoodIn wsX6_isLine wsX6_within := goodIn_r _ [5] (by decide +kernel) (by decide +kernel)
set_option maxRecDepth 20000 in
theorem gX6_isLine_X6_within : GoodIn wsX6_isLine (va_wsS RX6 77 yX6_within wsX6_within) := goodIn_app (goodIn_of _ (by decide +kernel)) ggX6_isLine_X6_within
theorem dX6_isLine_0 : decode cX6_isLine 0 = .ok (.iload_n 1, 1) := by decide +kernel
theorem dX6_isLine_1 : decode cX6_isLine 1 = .ok (.iconst 0, 1) := by decide +kernel
theorem dX6_isLine_2 : decode cX6_isLine 2 = .ok (.aload_n 0, 1) := by decide +kernel
theorem dX6_isLine_3 : decode cX6_isLine 3 = .ok (.getfield 73, 3) := by decide +kernel
theorem dX6_isLine_6 : decode cX6_isLine 6 = .ok (.iconst 1, 1) := by decide +kernel
theorem dX6_isLine_7 : decode cX6_isLine 7 = .ok (.isub, 1) := by decide +kernel
theorem dX6_isLine_8 : decode cX6_isLine 8 = .ok (.invokestatic 77, 3) := by decide +kernel
theorem dX6_isLine_11 : decode cX6_isLine 11 = .ok (.ireturn, 1) := by decide +kernel
theorem dX6_lengthOf_0 : decode cX6_lengthOf 0 = .ok (.iconst 0, 1) := by decide +kernel
theorem dX6_lengthOf_1 : decode cX6_lengthOf 1 = .ok (.istore_n 1, 1) := by decide +kernel
theorem dX6_lengthOf_2 : decode cX6_lengthOf 2 = .ok (.iload_n 0, 1) := by decide +kernel
theorem dX6_lengthOf_3 : decode cX6_lengthOf 3 = .ok (.istore_n 2, 1) := by decide +kernel
theorem dX6_lengthOf_4 : decode cX6_lengthOf 4 = .ok (.iload_n 2, 1) := by decide +kernel
theorem dX6_lengthOf_5 : decode cX6_lengthOf 5 = .ok (.ifCond .le 14, 3) := by decide +kernel
theorem dX6_lengthOf_8 : decode cX6_lengthOf 8 = .ok (.iinc 1 1, 3) := by decide +kernel
theorem dX6_lengthOf_11 : decode cX6_lengthOf 11 = .ok (.iload_n 2, 1) := by decide +kernel
theorem dX6_lengthOf_12 : decode cX6_lengthOf 12 = .ok (.bipush 10, 2) := by decide +kernel
theorem dX6_lengthOf_14 : decode cX6_lengthOf 14 = .ok (.idiv, 1) := by decide +kernel
theorem dX6_lengthOf_15 : decode cX6_lengthOf 15 = .ok (.istore_n 2, 1) := by decide +kernel
theorem dX6_lengthOf_16 : decode cX6_lengthOf 16 = .ok (.goto (-12), 3) := by decide +kernel
theorem dX6_lengthOf_19 : decode cX6_lengthOf 19 = .ok (.iload_n 1, 1) := by decide +kernel
theorem dX6_lengthOf_20 : decode cX6_lengthOf 20 = .ok (.ireturn, 1) := by decide +kernel
set_option maxRecDepth 20000 in
theorem ggX6_areTokens_X6_lengthOf : GoodIn wsX6_areTokens wsX6_lengthOf := goodIn_r _ [4] (by decide +kernel) (by decide +kernel)
set_option maxRecDepth 20000 in
theorem gX6_areTokens_X6_lengthOf : GoodIn wsX6_areTokens (va_wsS RX6 81 yX6_lengthOf wsX6_lengthOf) := goodIn_app (goodIn_of _ (by decide +kernel)) ggX6_areTokens_X6_lengthOf
theorem dX6_areTokens_0 : decode cX6_areTokens 0 = .ok (.iload_n 0, 1) := by decide +kernel
theorem dX6_areTokens_1 : decode cX6_areTokens 1 = .ok (.istore_n 1, 1) := by decide +kernel
theorem dX6_areTokens_2 : decode cX6_areTokens 2 = .ok (.iload_n 1, 1) := by decide +kernel
theorem dX6_areTokens_3 : decode cX6_areTokens 3 = .ok (.ifCond .le 20, 3) := by decide +kernel
theorem dX6_areTokens_6 : decode cX6_areTokens 6 = .ok (.iload_n 1, 1) := by decide +kernel
theorem dX6_areTokens_7 : decode cX6_areTokens 7 = .ok (.bipush 10, 2) := by decide +kernel
theorem dX6_areTokens_9 : decode cX6_areTokens 9 = .ok (.irem, 1) := by decide +kernel
theorem dX6_areTokens_10 : decode cX6_areTokens 10 = .ok (.ifCond .ne 5, 3) := by decide +kernel
theorem dX6_areTokens_13 : decode cX6_areTokens 13 = .ok (.iconst 0, 1) := by decide +kernel
theorem dX6_areTokens_14 : decode cX6_areTokens 14 = .ok (.ireturn, 1) := by decide +kernel
theorem dX6_areTokens_15 : decode cX6_areTokens 15 = .ok (.iload_n 1, 1) := by decide +kernel
theorem dX6_areTokens_16 : decode cX6_areTokens 16 = .ok (.bipush 10, 2) := by decide +kernel
theorem dX6_areTokens_18 : decode cX6_areTokens 18 = .ok (.idiv, 1) := by decide +kernel
theorem dX6_areTokens_19 : decode cX6_areTokens 19 = .ok (.istore_n 1, 1) := by decide +kernel
theorem dX6_areTokens_20 : decode cX6_areTokens 20 = .ok (.goto (-18), 3) := by decide +kernel
theorem dX6_areTokens_23 : decode cX6_areTokens 23 = .ok (.iload_n 0, 1) := by decide +kernel
theorem dX6_areTokens_24 : decode cX6_areTokens 24 = .ok (.ifCond .lt 16, 3) := by decide +kernel
theorem dX6_areTokens_27 : decode cX6_areTokens 27 = .ok (.iload_n 0, 1) := by decide +kernel
theorem dX6_areTokens_28 : decode cX6_areTokens 28 = .ok (.invokestatic 81, 3) := by decide +kernel
theorem dX6_areTokens_31 : decode cX6_areTokens 31 = .ok (.bipush 9, 2) := by decide +kernel
theorem dX6_areTokens_33 : decode cX6_areTokens 33 = .ok (.if_icmp .gt 7, 3) := by decide +kernel
theorem dX6_areTokens_36 : decode cX6_areTokens 36 = .ok (.iconst 1, 1) := by decide +kernel
theorem dX6_areTokens_37 : decode cX6_areTokens 37 = .ok (.goto 4, 3) := by decide +kernel
theorem dX6_areTokens_40 : decode cX6_areTokens 40 = .ok (.iconst 0, 1) := by decide +kernel
theorem dX6_areTokens_41 : decode cX6_areTokens 41 = .ok (.ireturn, 1) := by decide +kernel
set_option maxRecDepth 20000 in
theorem ggX6_tokenAt_X6_lengthOf : GoodIn wsX6_tokenAt wsX6_lengthOf := goodIn_r _ [4] (by decide +kernel) (by decide +kernel)
set_option maxRecDepth 20000 in
theorem gX6_tokenAt_X6_lengthOf : GoodIn wsX6_tokenAt (va_wsS RX6 81 yX6_lengthOf wsX6_lengthOf) := goodIn_app (goodIn_of _ (by decide +kernel)) ggX6_tokenAt_X6_lengthOf
theorem dX6_tokenAt_0 : decode cX6_tokenAt 0 = .ok (.iload_n 0, 1) := by decide +kernel
theorem dX6_tokenAt_1 : decode cX6_tokenAt 1 = .ok (.istore_n 2, 1) := by decide +kernel
theorem dX6_tokenAt_2 : decode cX6_tokenAt 2 = .ok (.iload_n 0, 1) := by decide +kernel
theorem dX6_tokenAt_3 : decode cX6_tokenAt 3 = .ok (.invokestatic 81, 3) := by decide +kernel
theorem dX6_tokenAt_6 : decode cX6_tokenAt 6 = .ok (.iconst 1, 1) := by decide +kernel
theorem dX6_tokenAt_7 : decode cX6_tokenAt 7 = .ok (.isub, 1) := by decide +kernel
theorem dX6_tokenAt_8 : decode cX6_tokenAt 8 = .ok (.istore_n 3, 1) := by decide +kernel
theorem dX6_tokenAt_9 : decode cX6_tokenAt 9 = .ok (.iload_n 3, 1) := by decide +kernel
theorem dX6_tokenAt_10 : decode cX6_tokenAt 10 = .ok (.iload_n 1, 1) := by decide +kernel
theorem dX6_tokenAt_11 : decode cX6_tokenAt 11 = .ok (.if_icmp .le 14, 3) := by decide +kernel
theorem dX6_tokenAt_14 : decode cX6_tokenAt 14 = .ok (.iload_n 2, 1) := by decide +kernel
theorem dX6_tokenAt_15 : decode cX6_tokenAt 15 = .ok (.bipush 10, 2) := by decide +kernel
theorem dX6_tokenAt_17 : decode cX6_tokenAt 17 = .ok (.idiv, 1) := by decide +kernel
theorem dX6_tokenAt_18 : decode cX6_tokenAt 18 = .ok (.istore_n 2, 1) := by decide +kernel
theorem dX6_tokenAt_19 : decode cX6_tokenAt 19 = .ok (.iinc 3 (-1), 3) := by decide +kernel
theorem dX6_tokenAt_22 : decode cX6_tokenAt 22 = .ok (.goto (-13), 3) := by decide +kernel
theorem dX6_tokenAt_25 : decode cX6_tokenAt 25 = .ok (.iload_n 2, 1) := by decide +kernel
theorem dX6_tokenAt_26 : decode cX6_tokenAt 26 = .ok (.bipush 10, 2) := by decide +kernel
theorem dX6_tokenAt_28 : decode cX6_tokenAt 28 = .ok (.irem, 1) := by decide +kernel
theorem dX6_tokenAt_29 : decode cX6_tokenAt 29 = .ok (.ireturn, 1) := by decide +kernel
theorem dX6_widthOf_0 : decode cX6_widthOf 0 = .ok (.iload_n 0, 1) := by decide +kernel
theorem dX6_widthOf_1 : decode cX6_widthOf 1 = .ok (.iconst 1, 1) := by decide +kernel
theorem dX6_widthOf_2 : decode cX6_widthOf 2 = .ok (.if_icmp .ne 7, 3) := by decide +kernel
theorem dX6_widthOf_5 : decode cX6_widthOf 5 = .ok (.iconst 3, 1) := by decide +kernel
theorem dX6_widthOf_6 : decode cX6_widthOf 6 = .ok (.goto 24, 3) := by decide +kernel
theorem dX6_widthOf_9 : decode cX6_widthOf 9 = .ok (.iload_n 0, 1) := by decide +kernel
theorem dX6_widthOf_10 : decode cX6_widthOf 10 = .ok (.bipush 7, 2) := by decide +kernel
theorem dX6_widthOf_12 : decode cX6_widthOf 12 = .ok (.if_icmp .ne 7, 3) := by decide +kernel
theorem dX6_widthOf_15 : decode cX6_widthOf 15 = .ok (.iconst 2, 1) := by decide +kernel
theorem dX6_widthOf_16 : decode cX6_widthOf 16 = .ok (.goto 14, 3) := by decide +kernel
theorem dX6_widthOf_19 : decode cX6_widthOf 19 = .ok (.iload_n 0, 1) := by decide +kernel
theorem dX6_widthOf_20 : decode cX6_widthOf 20 = .ok (.bipush 9, 2) := by decide +kernel
theorem dX6_widthOf_22 : decode cX6_widthOf 22 = .ok (.if_icmp .ne 7, 3) := by decide +kernel
theorem dX6_widthOf_25 : decode cX6_widthOf 25 = .ok (.iconst 4, 1) := by decide +kernel
theorem dX6_widthOf_26 : decode cX6_widthOf 26 = .ok (.goto 4, 3) := by decide +kernel
theorem dX6_widthOf_29 : decode cX6_widthOf 29 = .ok (.iconst 1, 1) := by decide +kernel
theorem dX6_widthOf_30 : decode cX6_widthOf 30 = .ok (.ireturn, 1) := by decide +kernel
theorem dX6_top_0 : decode cX6_top 0 = .ok (.aload_n 0, 1) := by decide +kernel
theorem dX6_top_1 : decode cX6_top 1 = .ok (.getfield 85, 3) := by decide +kernel
theorem dX6_top_4 : decode cX6_top 4 = .ok (.ifCond .ne 8, 3) := by decide +kernel
theorem dX6_top_7 : decode cX6_top 7 = .ok (.bipush (-9), 2) := by decide +kernel
theorem dX6_top_9 : decode cX6_top 9 = .ok (.goto 14, 3) := by decide +kernel
theorem dX6_top_12 : decode cX6_top 12 = .ok (.aload_n 0, 1) := by decide +kernel
theorem dX6_top_13 : decode cX6_top 13 = .ok (.getfield 46, 3) := by decide +kernel
theorem dX6_top_16 : decode cX6_top 16 = .ok (.aload_n 0, 1) := by decide +kernel
theorem dX6_top_17 : decode cX6_top 17 = .ok (.getfield 85, 3) := by decide +kernel
theorem dX6_top_20 : decode cX6_top 20 = .ok (.iconst 1, 1) := by decide +kernel
theorem dX6_top_21 : decode cX6_top 21 = .ok (.isub, 1) := by decide +kernel
theorem dX6_top_22 : decode cX6_top 22 = .ok (.iaload, 1) := by decide +kernel
theorem dX6_top_23 : decode cX6_top 23 = .ok (.ireturn, 1) := by decide +kernel
set_option maxRecDepth 20000 in
theorem ggX6_columnFor_X6_top : GoodIn wsX6_columnFor wsX6_top := goodIn_r _ [10, 11, 12, 13, 14, 15, 16, 17, 18, 19, 20, 21, 22, 23, 24, 25, 26, 27, 28, 29, 30, 31, 32, 33, 34, 35, 36, 37] (by decide +kernel) (by decide +kernel)
set_option maxRecDepth 20000 in
theorem gX6_columnFor_X6_top : GoodIn wsX6_columnFor (wsV RX6 88 RX6 yX6_top wsX6_top) := goodIn_app (goodIn_of _ (by decide +kernel)) ggX6_columnFor_X6_top
theorem dX6_columnFor_0 : decode cX6_columnFor 0 = .ok (.aload_n 0, 1) := by decide +kernel
theorem dX6_columnFor_1 : decode cX6_columnFor 1 = .ok (.invokevirtual 88, 3) := by decide +kernel
theorem dX6_columnFor_4 : decode cX6_columnFor 4 = .ok (.istore_n 2, 1) := by decide +kernel
theorem dX6_columnFor_5 : decode cX6_columnFor 5 = .ok (.iload_n 2, 1) := by decide +kernel
theorem dX6_columnFor_6 : decode cX6_columnFor 6 = .ok (.bipush (-9), 2) := by decide +kernel
theorem dX6_columnFor_8 : decode cX6_columnFor 8 = .ok (.if_icmp .eq 17, 3) := by decide +kernel
theorem dX6_columnFor_11 : decode cX6_columnFor 11 = .ok (.aload_n 0, 1) := by decide +kernel
theorem dX6_columnFor_12 : decode cX6_columnFor 12 = .ok (.getfield 31, 3) := by decide +kernel
theorem dX6_columnFor_15 : decode cX6_columnFor 15 = .ok (.iload_n 2, 1) := by decide +kernel
theorem dX6_columnFor_16 : decode cX6_columnFor 16 = .ok (.iaload, 1) := by decide +kernel
theorem dX6_columnFor_17 : decode cX6_columnFor 17 = .ok (.iconst 1, 1) := by decide +kernel
theorem dX6_columnFor_18 : decode cX6_columnFor 18 = .ok (.if_icmp .ne 7, 3) := by decide +kernel
theorem dX6_columnFor_21 : decode cX6_columnFor 21 = .ok (.iconst 1, 1) := by decide +kernel
theorem dX6_columnFor_22 : decode cX6_columnFor 22 = .ok (.goto 4, 3) := by decide +kernel
theorem dX6_columnFor_25 : decode cX6_columnFor 25 = .ok (.iconst 0, 1) := by decide +kernel
theorem dX6_columnFor_26 : decode cX6_columnFor 26 = .ok (.istore_n 3, 1) := by decide +kernel
theorem dX6_columnFor_27 : decode cX6_columnFor 27 = .ok (.iload_n 1, 1) := by decide +kernel
theorem dX6_columnFor_28 : decode cX6_columnFor 28 = .ok (.iconst 3, 1) := by decide +kernel
theorem dX6_columnFor_29 : decode cX6_columnFor 29 = .ok (.if_icmp .ne 35, 3) := by decide +kernel
theorem dX6_columnFor_32 : decode cX6_columnFor 32 = .ok (.iload_n 3, 1) := by decide +kernel
theorem dX6_columnFor_33 : decode cX6_columnFor 33 = .ok (.ifCond .eq 31, 3) := by decide +kernel
theorem dX6_columnFor_36 : decode cX6_columnFor 36 = .ok (.aload_n 0, 1) := by decide +kernel
theorem dX6_columnFor_37 : decode cX6_columnFor 37 = .ok (.getfield 28, 3) := by decide +kernel
theorem dX6_columnFor_40 : decode cX6_columnFor 40 = .ok (.iload_n 2, 1) := by decide +kernel
theorem dX6_columnFor_41 : decode cX6_columnFor 41 = .ok (.iaload, 1) := by decide +kernel
theorem dX6_columnFor_42 : decode cX6_columnFor 42 = .ok (.aload_n 0, 1) := by decide +kernel
theorem dX6_columnFor_43 : decode cX6_columnFor 43 = .ok (.getfield 49, 3) := by decide +kernel
theorem dX6_columnFor_46 : decode cX6_columnFor 46 = .ok (.iconst 3, 1) := by decide +kernel
theorem dX6_columnFor_47 : decode cX6_columnFor 47 = .ok (.iaload, 1) := by decide +kernel
theorem dX6_columnFor_48 : decode cX6_columnFor 48 = .ok (.iconst 1, 1) := by decide +kernel
theorem dX6_columnFor_49 : decode cX6_columnFor 49 = .ok (.if_icmp .ne 12, 3) := by decide +kernel
theorem dX6_columnFor_52 : decode cX6_columnFor 52 = .ok (.aload_n 0, 1) := by decide +kernel
theorem dX6_columnFor_53 : decode cX6_columnFor 53 = .ok (.getfield 49, 3) := by decide +kernel
theorem dX6_columnFor_56 : decode cX6_columnFor 56 = .ok (.iconst 0, 1) := by decide +kernel
theorem dX6_columnFor_57 : decode cX6_columnFor 57 = .ok (.iaload, 1) := by decide +kernel
theorem dX6_columnFor_58 : decode cX6_columnFor 58 = .ok (.goto 4, 3) := by decide +kernel
theorem dX6_columnFor_61 : decode cX6_columnFor 61 = .ok (.iconst 0, 1) := by decide +kernel
theorem dX6_columnFor_62 : decode cX6_columnFor 62 = .ok (.iadd, 1) := by decide +kernel
theorem dX6_columnFor_63 : decode cX6_columnFor 63 = .ok (.ireturn, 1) := by decide +kernel
theorem dX6_columnFor_64 : decode cX6_columnFor 64 = .ok (.iload_n 2, 1) := by decide +kernel
theorem dX6_columnFor_65 : decode cX6_columnFor 65 = .ok (.bipush (-9), 2) := by decide +kernel
theorem dX6_columnFor_67 : decode cX6_columnFor 67 = .ok (.if_icmp .eq 72, 3) := by decide +kernel
theorem dX6_columnFor_70 : decode cX6_columnFor 70 = .ok (.iload_n 3, 1) := by decide +kernel
theorem dX6_columnFor_71 : decode cX6_columnFor 71 = .ok (.ifCond .ne 68, 3) := by decide +kernel
theorem dX6_columnFor_74 : decode cX6_columnFor 74 = .ok (.iload_n 1, 1) := by decide +kernel
theorem dX6_columnFor_75 : decode cX6_columnFor 75 = .ok (.iconst 5, 1) := by decide +kernel
theorem dX6_columnFor_76 : decode cX6_columnFor 76 = .ok (.if_icmp .ne 7, 3) := by decide +kernel
theorem dX6_columnFor_79 : decode cX6_columnFor 79 = .ok (.iconst 1, 1) := by decide +kernel
theorem dX6_columnFor_80 : decode cX6_columnFor 80 = .ok (.goto 4, 3) := by decide +kernel
theorem dX6_columnFor_83 : decode cX6_columnFor 83 = .ok (.iconst 0, 1) := by decide +kernel
theorem dX6_columnFor_84 : decode cX6_columnFor 84 = .ok (.istore 4, 2) := by decide +kernel
theorem dX6_columnFor_86 : decode cX6_columnFor 86 = .ok (.aload_n 0, 1) := by decide +kernel
theorem dX6_columnFor_87 : decode cX6_columnFor 87 = .ok (.getfield 31, 3) := by decide +kernel
theorem dX6_columnFor_90 : decode cX6_columnFor 90 = .ok (.iload_n 2, 1) := by decide +kernel
theorem dX6_columnFor_91 : decode cX6_columnFor 91 = .ok (.iaload, 1) := by decide +kernel
theorem dX6_columnFor_92 : decode cX6_columnFor 92 = .ok (.iconst 3, 1) := by decide +kernel
theorem dX6_columnFor_93 : decode cX6_columnFor 93 = .ok (.if_icmp .ne 23, 3) := by decide +kernel
theorem dX6_columnFor_96 : decode cX6_columnFor 96 = .ok (.aload_n 0, 1) := by decide +kernel
theorem dX6_columnFor_97 : decode cX6_columnFor 97 = .ok (.getfield 25, 3) := by decide +kernel
theorem dX6_columnFor_100 : decode cX6_columnFor 100 = .ok (.iload_n 2, 1) := by decide +kernel
theorem dX6_columnFor_101 : decode cX6_columnFor 101 = .ok (.iaload, 1) := by decide +kernel
theorem dX6_columnFor_102 : decode cX6_columnFor 102 = .ok (.iload 4, 2) := by decide +kernel
theorem dX6_columnFor_104 : decode cX6_columnFor 104 = .ok (.ifCond .eq 7, 3) := by decide +kernel
theorem dX6_columnFor_107 : decode cX6_columnFor 107 = .ok (.iconst 0, 1) := by decide +kernel
theorem dX6_columnFor_108 : decode cX6_columnFor 108 = .ok (.goto 4, 3) := by decide +kernel
theorem dX6_columnFor_111 : decode cX6_columnFor 111 = .ok (.iconst 1, 1) := by decide +kernel
theorem dX6_columnFor_112 : decode cX6_columnFor 112 = .ok (.iadd, 1) := by decide +kernel
theorem dX6_columnFor_113 : decode cX6_columnFor 113 = .ok (.goto 25, 3) := by decide +kernel
theorem dX6_columnFor_116 : decode cX6_columnFor 116 = .ok (.aload_n 0, 1) := by decide +kernel
theorem dX6_columnFor_117 : decode cX6_columnFor 117 = .ok (.getfield 28, 3) := by decide +kernel
theorem dX6_columnFor_120 : decode cX6_columnFor 120 = .ok (.iload_n 2, 1) := by decide +kernel
theorem dX6_columnFor_121 : decode cX6_columnFor 121 = .ok (.iaload, 1) := by decide +kernel
theorem dX6_columnFor_122 : decode cX6_columnFor 122 = .ok (.iload 4, 2) := by decide +kernel
theorem dX6_columnFor_124 : decode cX6_columnFor 124 = .ok (.ifCond .eq 7, 3) := by decide +kernel
theorem dX6_columnFor_127 : decode cX6_columnFor 127 = .ok (.iconst 0, 1) := by decide +kernel
theorem dX6_columnFor_128 : decode cX6_columnFor 128 = .ok (.goto 9, 3) := by decide +kernel
theorem dX6_columnFor_131 : decode cX6_columnFor 131 = .ok (.aload_n 0, 1) := by decide +kernel
theorem dX6_columnFor_132 : decode cX6_columnFor 132 = .ok (.getfield 49, 3) := by decide +kernel
theorem dX6_columnFor_135 : decode cX6_columnFor 135 = .ok (.iconst 1, 1) := by decide +kernel
theorem dX6_columnFor_136 : decode cX6_columnFor 136 = .ok (.iaload, 1) := by decide +kernel
theorem dX6_columnFor_137 : decode cX6_columnFor 137 = .ok (.iadd, 1) := by decide +kernel
theorem dX6_columnFor_138 : decode cX6_columnFor 138 = .ok (.ireturn, 1) := by decide +kernel
theorem dX6_columnFor_139 : decode cX6_columnFor 139 = .ok (.iload_n 3, 1) := by decide +kernel
theorem dX6_columnFor_140 : decode cX6_columnFor 140 = .ok (.ifCond .eq 19, 3) := by decide +kernel
theorem dX6_columnFor_143 : decode cX6_columnFor 143 = .ok (.aload_n 0, 1) := by decide +kernel
theorem dX6_columnFor_144 : decode cX6_columnFor 144 = .ok (.getfield 28, 3) := by decide +kernel
theorem dX6_columnFor_147 : decode cX6_columnFor 147 = .ok (.iload_n 2, 1) := by decide +kernel
theorem dX6_columnFor_148 : decode cX6_columnFor 148 = .ok (.iaload, 1) := by decide +kernel
theorem dX6_columnFor_149 : decode cX6_columnFor 149 = .ok (.aload_n 0, 1) := by decide +kernel
theorem dX6_columnFor_150 : decode cX6_columnFor 150 = .ok (.getfield 49, 3) := by decide +kernel
theorem dX6_columnFor_153 : decode cX6_columnFor 153 = .ok (.iconst 0, 1) := by decide +kernel
theorem dX6_columnFor_154 : decode cX6_columnFor 154 = .ok (.iaload, 1) := by decide +kernel
theorem dX6_columnFor_155 : decode cX6_columnFor 155 = .ok (.iadd, 1) := by decide +kernel
theorem dX6_columnFor_156 : decode cX6_columnFor 156 = .ok (.goto 4, 3) := by decide +kernel
theorem dX6_columnFor_159 : decode cX6_columnFor 159 = .ok (.iconst 0, 1) := by decide +kernel
theorem dX6_columnFor_160 : decode cX6_columnFor 160 = .ok (.istore 4, 2) := by decide +kernel
theorem dX6_columnFor_162 : decode cX6_columnFor 162 = .ok (.aload_n 0, 1) := by decide +kernel
theorem dX6_columnFor_163 : decode cX6_columnFor 163 = .ok (.getfield 92, 3) := by decide +kernel
theorem dX6_columnFor_166 : decode cX6_columnFor 166 = .ok (.iconst 1, 1) := by decide +kernel
theorem dX6_columnFor_167 : decode cX6_columnFor 167 = .ok (.if_icmp .eq 20, 3) := by decide +kernel
theorem dX6_columnFor_170 : decode cX6_columnFor 170 = .ok (.aload_n 0, 1) := by decide +kernel
theorem dX6_columnFor_171 : decode cX6_columnFor 171 = .ok (.getfield 92, 3) := by decide +kernel
theorem dX6_columnFor_174 : decode cX6_columnFor 174 = .ok (.iconst 5, 1) := by decide +kernel
theorem dX6_columnFor_175 : decode cX6_columnFor 175 = .ok (.if_icmp .eq 12, 3) := by decide +kernel
theorem dX6_columnFor_178 : decode cX6_columnFor 178 = .ok (.aload_n 0, 1) := by decide +kernel
theorem dX6_columnFor_179 : decode cX6_columnFor 179 = .ok (.getfield 92, 3) := by decide +kernel
theorem dX6_columnFor_182 : decode cX6_columnFor 182 = .ok (.bipush 6, 2) := by decide +kernel
theorem dX6_columnFor_184 : decode cX6_columnFor 184 = .ok (.if_icmp .ne 7, 3) := by decide +kernel
theorem dX6_columnFor_187 : decode cX6_columnFor 187 = .ok (.iconst 1, 1) := by decide +kernel
theorem dX6_columnFor_188 : decode cX6_columnFor 188 = .ok (.goto 4, 3) := by decide +kernel
theorem dX6_columnFor_191 : decode cX6_columnFor 191 = .ok (.iconst 0, 1) := by decide +kernel
theorem dX6_columnFor_192 : decode cX6_columnFor 192 = .ok (.istore 5, 2) := by decide +kernel
theorem dX6_columnFor_194 : decode cX6_columnFor 194 = .ok (.iload 5, 2) := by decide +kernel
theorem dX6_columnFor_196 : decode cX6_columnFor 196 = .ok (.ifCond .eq 15, 3) := by decide +kernel
theorem dX6_columnFor_199 : decode cX6_columnFor 199 = .ok (.iload 4, 2) := by decide +kernel
theorem dX6_columnFor_201 : decode cX6_columnFor 201 = .ok (.aload_n 0, 1) := by decide +kernel
theorem dX6_columnFor_202 : decode cX6_columnFor 202 = .ok (.getfield 49, 3) := by decide +kernel
theorem dX6_columnFor_205 : decode cX6_columnFor 205 = .ok (.iconst 1, 1) := by decide +kernel
theorem dX6_columnFor_206 : decode cX6_columnFor 206 = .ok (.iaload, 1) := by decide +kernel
theorem dX6_columnFor_207 : decode cX6_columnFor 207 = .ok (.iadd, 1) := by decide +kernel
theorem dX6_columnFor_208 : decode cX6_columnFor 208 = .ok (.goto 26, 3) := by decide +kernel
theorem dX6_columnFor_211 : decode cX6_columnFor 211 = .ok (.aload_n 0, 1) := by decide +kernel
theorem dX6_columnFor_212 : decode cX6_columnFor 212 = .ok (.getfield 92, 3) := by decide +kernel
theorem dX6_columnFor_215 : decode cX6_columnFor 215 = .ok (.bipush 7, 2) := by decide +kernel
theorem dX6_columnFor_217 : decode cX6_columnFor 217 = .ok (.if_icmp .ne 15, 3) := by decide +kernel
theorem dX6_columnFor_220 : decode cX6_columnFor 220 = .ok (.iload 4, 2) := by decide +kernel
theorem dX6_columnFor_222 : decode cX6_columnFor 222 = .ok (.aload_n 0, 1) := by decide +kernel
theorem dX6_columnFor_223 : decode cX6_columnFor 223 = .ok (.getfield 49, 3) := by decide +kernel
theorem dX6_columnFor_226 : decode cX6_columnFor 226 = .ok (.iconst 0, 1) := by decide +kernel
theorem dX6_columnFor_227 : decode cX6_columnFor 227 = .ok (.iaload, 1) := by decide +kernel
theorem dX6_columnFor_228 : decode cX6_columnFor 228 = .ok (.iadd, 1) := by decide +kernel
theorem dX6_columnFor_229 : decode cX6_columnFor 229 = .ok (.goto 5, 3) := by decide +kernel
theorem dX6_columnFor_232 : decode cX6_columnFor 232 = .ok (.iload 4, 2) := by decide +kernel
theorem dX6_columnFor_234 : decode cX6_columnFor 234 = .ok (.ireturn, 1) := by decide +kernel
theorem dX6_comes_0 : decode cX6_comes 0 = .ok (.aload_n 0, 1) := by decide +kernel
theorem dX6_comes_1 : decode cX6_comes 1 = .ok (.getfield 19, 3) := by decide +kernel
theorem dX6_comes_4 : decode cX6_comes 4 = .ok (.aload_n 0, 1) := by decide +kernel
theorem dX6_comes_5 : decode cX6_comes 5 = .ok (.getfield 95, 3) := by decide +kernel
theorem dX6_comes_8 : decode cX6_comes 8 = .ok (.iload_n 1, 1) := by decide +kernel
theorem dX6_comes_9 : decode cX6_comes 9 = .ok (.iastore, 1) := by decide +kernel
theorem dX6_comes_10 : decode cX6_comes 10 = .ok (.aload_n 0, 1) := by decide +kernel
theorem dX6_comes_11 : decode cX6_comes 11 = .ok (.getfield 22, 3) := by decide +kernel
theorem dX6_comes_14 : decode cX6_comes 14 = .ok (.aload_n 0, 1) := by decide +kernel
theorem dX6_comes_15 : decode cX6_comes 15 = .ok (.getfield 95, 3) := by decide +kernel
theorem dX6_comes_18 : decode cX6_comes 18 = .ok (.iload_n 2, 1) := by decide +kernel
theorem dX6_comes_19 : decode cX6_comes 19 = .ok (.iastore, 1) := by decide +kernel
theorem dX6_comes_20 : decode cX6_comes 20 = .ok (.aload_n 0, 1) := by decide +kernel
theorem dX6_comes_21 : decode cX6_comes 21 = .ok (.getfield 25, 3) := by decide +kernel
theorem dX6_comes_24 : decode cX6_comes 24 = .ok (.aload_n 0, 1) := by decide +kernel
theorem dX6_comes_25 : decode cX6_comes 25 = .ok (.getfield 95, 3) := by decide +kernel
theorem dX6_comes_28 : decode cX6_comes 28 = .ok (.iload_n 3, 1) := by decide +kernel
theorem dX6_comes_29 : decode cX6_comes 29 = .ok (.iastore, 1) := by decide +kernel
theorem dX6_comes_30 : decode cX6_comes 30 = .ok (.aload_n 0, 1) := by decide +kernel
theorem dX6_comes_31 : decode cX6_comes 31 = .ok (.getfield 28, 3) := by decide +kernel
theorem dX6_comes_34 : decode cX6_comes 34 = .ok (.aload_n 0, 1) := by decide +kernel
theorem dX6_comes_35 : decode cX6_comes 35 = .ok (.getfield 95, 3) := by decide +kernel
theorem dX6_comes_38 : decode cX6_comes 38 = .ok (.aload_n 0, 1) := by decide +kernel
theorem dX6_comes_39 : decode cX6_comes 39 = .ok (.getfield 37, 3) := by decide +kernel
theorem dX6_comes_42 : decode cX6_comes 42 = .ok (.iload_n 1, 1) := by decide +kernel
theorem dX6_comes_43 : decode cX6_comes 43 = .ok (.iaload, 1) := by decide +kernel
theorem dX6_comes_44 : decode cX6_comes 44 = .ok (.iastore, 1) := by decide +kernel
theorem dX6_comes_45 : decode cX6_comes 45 = .ok (.aload_n 0, 1) := by decide +kernel
theorem dX6_comes_46 : decode cX6_comes 46 = .ok (.getfield 31, 3) := by decide +kernel
theorem dX6_comes_49 : decode cX6_comes 49 = .ok (.aload_n 0, 1) := by decide +kernel
theorem dX6_comes_50 : decode cX6_comes 50 = .ok (.getfield 95, 3) := by decide +kernel
theorem dX6_comes_53 : decode cX6_comes 53 = .ok (.iload 4, 2) := by decide +kernel
theorem dX6_comes_55 : decode cX6_comes 55 = .ok (.iastore, 1) := by decide +kernel
theorem dX6_comes_56 : decode cX6_comes 56 = .ok (.aload_n 0, 1) := by decide +kernel
theorem dX6_comes_57 : decode cX6_comes 57 = .ok (.getfield 34, 3) := by decide +kernel
theorem dX6_comes_60 : decode cX6_comes 60 = .ok (.aload_n 0, 1) := by decide +kernel
theorem dX6_comes_61 : decode cX6_comes 61 = .ok (.getfield 95, 3) := by decide +kernel
theorem dX6_comes_64 : decode cX6_comes 64 = .ok (.bipush (-9), 2) := by decide +kernel
theorem dX6_comes_66 : decode cX6_comes 66 = .ok (.iastore, 1) := by decide +kernel
theorem dX6_comes_67 : decode cX6_comes 67 = .ok (.aload_n 0, 1) := by decide +kernel
theorem dX6_comes_68 : decode cX6_comes 68 = .ok (.getfield 46, 3) := by decide +kernel
theorem dX6_comes_71 : decode cX6_comes 71 = .ok (.aload_n 0, 1) := by decide +kernel
theorem dX6_comes_72 : decode cX6_comes 72 = .ok (.getfield 85, 3) := by decide +kernel
theorem dX6_comes_75 : decode cX6_comes 75 = .ok (.aload_n 0, 1) := by decide +kernel
theorem dX6_comes_76 : decode cX6_comes 76 = .ok (.getfield 95, 3) := by decide +kernel
theorem dX6_comes_79 : decode cX6_comes 79 = .ok (.iastore, 1) := by decide +kernel
theorem dX6_comes_80 : decode cX6_comes 80 = .ok (.aload_n 0, 1) := by decide +kernel
theorem dX6_comes_81 : decode cX6_comes 81 = .ok (.dup, 1) := by decide +kernel
theorem dX6_comes_82 : decode cX6_comes 82 = .ok (.getfield 85, 3) := by decide +kernel
theorem dX6_comes_85 : decode cX6_comes 85 = .ok (.iconst 1, 1) := by decide +kernel
theorem dX6_comes_86 : decode cX6_comes 86 = .ok (.iadd, 1) := by decide +kernel
theorem dX6_comes_87 : decode cX6_comes 87 = .ok (.putfield 85, 3) := by decide +kernel
theorem dX6_comes_90 : decode cX6_comes 90 = .ok (.aload_n 0, 1) := by decide +kernel
theorem dX6_comes_91 : decode cX6_comes 91 = .ok (.dup, 1) := by decide +kernel
theorem dX6_comes_92 : decode cX6_comes 92 = .ok (.getfield 95, 3) := by decide +kernel
theorem dX6_comes_95 : decode cX6_comes 95 = .ok (.iconst 1, 1) := by decide +kernel
theorem dX6_comes_96 : decode cX6_comes 96 = .ok (.iadd, 1) := by decide +kernel
theorem dX6_comes_97 : decode cX6_comes 97 = .ok (.putfield 95, 3) := by decide +kernel
theorem dX6_comes_100 : decode cX6_comes 100 = .ok (.return_, 1) := by decide +kernel
set_option maxRecDepth 20000 in
theorem ggX6_closes_X6_top : GoodIn wsX6_closes wsX6_top := goodIn_r _ [9, 3, 10, 11, 12, 13, 14, 15, 16, 17, 18, 19, 20, 21, 22, 23, 24, 25, 26, 27, 28, 29, 30, 31, 32, 33, 34, 35] (by decide +kernel) (by decide +kernel)
set_option maxRecDepth 20000 in
theorem gX6_closes_X6_top : GoodIn wsX6_closes (wsV RX6 88 RX6 yX6_top wsX6_top) := goodIn_app (goodIn_of _ (by decide +kernel)) ggX6_closes_X6_top
theorem dX6_closes_0 : decode cX6_closes 0 = .ok (.aload_n 0, 1) := by decide +kernel
theorem dX6_closes_1 : decode cX6_closes 1 = .ok (.invokevirtual 88, 3) := by decide +kernel
theorem dX6_closes_4 : decode cX6_closes 4 = .ok (.istore_n 3, 1) := by decide +kernel
theorem dX6_closes_5 : decode cX6_closes 5 = .ok (.iload_n 3, 1) := by decide +kernel
theorem dX6_closes_6 : decode cX6_closes 6 = .ok (.bipush (-9), 2) := by decide +kernel
theorem dX6_closes_8 : decode cX6_closes 8 = .ok (.if_icmp .eq 42, 3) := by decide +kernel
theorem dX6_closes_11 : decode cX6_closes 11 = .ok (.aload_n 0, 1) := by decide +kernel
theorem dX6_closes_12 : decode cX6_closes 12 = .ok (.getfield 31, 3) := by decide +kernel
theorem dX6_closes_15 : decode cX6_closes 15 = .ok (.iload_n 3, 1) := by decide +kernel
theorem dX6_closes_16 : decode cX6_closes 16 = .ok (.iaload, 1) := by decide +kernel
theorem dX6_closes_17 : decode cX6_closes 17 = .ok (.iconst 1, 1) := by decide +kernel
theorem dX6_closes_18 : decode cX6_closes 18 = .ok (.if_icmp .ne 7, 3) := by decide +kernel
theorem dX6_closes_21 : decode cX6_closes 21 = .ok (.iconst 1, 1) := by decide +kernel
theorem dX6_closes_22 : decode cX6_closes 22 = .ok (.goto 4, 3) := by decide +kernel
theorem dX6_closes_25 : decode cX6_closes 25 = .ok (.iconst 0, 1) := by decide +kernel
theorem dX6_closes_26 : decode cX6_closes 26 = .ok (.iload_n 2, 1) := by decide +kernel
theorem dX6_closes_27 : decode cX6_closes 27 = .ok (.if_icmp .ne 23, 3) := by decide +kernel
theorem dX6_closes_30 : decode cX6_closes 30 = .ok (.aload_n 0, 1) := by decide +kernel
theorem dX6_closes_31 : decode cX6_closes 31 = .ok (.getfield 34, 3) := by decide +kernel
theorem dX6_closes_34 : decode cX6_closes 34 = .ok (.iload_n 3, 1) := by decide +kernel
theorem dX6_closes_35 : decode cX6_closes 35 = .ok (.iload_n 1, 1) := by decide +kernel
theorem dX6_closes_36 : decode cX6_closes 36 = .ok (.iastore, 1) := by decide +kernel
theorem dX6_closes_37 : decode cX6_closes 37 = .ok (.aload_n 0, 1) := by decide +kernel
theorem dX6_closes_38 : decode cX6_closes 38 = .ok (.dup, 1) := by decide +kernel
theorem dX6_closes_39 : decode cX6_closes 39 = .ok (.getfield 85, 3) := by decide +kernel
theorem dX6_closes_42 : decode cX6_closes 42 = .ok (.iconst 1, 1) := by decide +kernel
theorem dX6_closes_43 : decode cX6_closes 43 = .ok (.isub, 1) := by decide +kernel
theorem dX6_closes_44 : decode cX6_closes 44 = .ok (.putfield 85, 3) := by decide +kernel
theorem dX6_closes_47 : decode cX6_closes 47 = .ok (.goto 13, 3) := by decide +kernel
theorem dX6_closes_50 : decode cX6_closes 50 = .ok (.aload_n 0, 1) := by decide +kernel
theorem dX6_closes_51 : decode cX6_closes 51 = .ok (.getfield 43, 3) := by decide +kernel
theorem dX6_closes_54 : decode cX6_closes 54 = .ok (.iload_n 1, 1) := by decide +kernel
theorem dX6_closes_55 : decode cX6_closes 55 = .ok (.dup2, 1) := by decide +kernel
theorem dX6_closes_56 : decode cX6_closes 56 = .ok (.iaload, 1) := by decide +kernel
theorem dX6_closes_57 : decode cX6_closes 57 = .ok (.iconst 1, 1) := by decide +kernel
theorem dX6_closes_58 : decode cX6_closes 58 = .ok (.iadd, 1) := by decide +kernel
theorem dX6_closes_59 : decode cX6_closes 59 = .ok (.iastore, 1) := by decide +kernel
theorem dX6_closes_60 : decode cX6_closes 60 = .ok (.return_, 1) := by decide +kernel
set_option maxRecDepth 20000 in
theorem ggX6_goesToken_X6_tokenAt : GoodIn wsX6_goesToken wsX6_tokenAt := goodIn_r _ [7, 8, 9, 6, 10] (by decide +kernel) (by decide +kernel)
set_option maxRecDepth 20000 in
theorem gX6_goesToken_X6_tokenAt : GoodIn wsX6_goesToken (va_wsS RX6 98 yX6_tokenAt wsX6_tokenAt) := goodIn_app (goodIn_of _ (by decide +kernel)) ggX6_goesToken_X6_tokenAt
set_option maxRecDepth 20000 in
theorem ggX6_goesToken_X6_comes : GoodIn wsX6_goesToken wsX6_comes := goodIn_r _ [14, 15, 16, 17, 18, 19, 20, 21, 22, 23, 24, 34, 35, 36, 37, 38, 39, 40, 41, 42, 43, 44, 45, 46, 47, 48, 49, 50, 51, 52, 53, 54, 55, 56, 57, 58] (by decide +kernel) (by decide +kernel)
set_option maxRecDepth 20000 in
theorem gX6_goesToken_X6_comes : GoodIn wsX6_goesToken (wsV RX6 102 RX6 yX6_comes wsX6_comes) := goodIn_app (goodIn_of _ (by decide +kernel)) ggX6_goesToken_X6_comes
set_option maxRecDepth 20000 in
theorem ggX6_goesToken_X6_closes : GoodIn wsX6_goesToken wsX6_closes := goodIn_r _ [28, 21, 22, 24, 29, 30, 31, 32, 6, 33, 23, 34, 35, 36, 37, 38, 39, 40, 41, 42, 43, 44, 45, 46, 47, 48, 49, 50, 51, 52, 53, 54, 55, 56, 57, 58] (by decide +kernel) (by decide +kernel)
set_option maxRecDepth 20000 in
theorem gX6_goesToken_X6_closes : GoodIn wsX6_goesToken (wsV RX6 106 RX6 yX6_closes wsX6_closes) := goodIn_app (goodIn_of _ (by decide +kernel)) ggX6_goesToken_X6_closes
theorem dX6_goesToken_0 : decode cX6_goesToken 0 = .ok (.aload_n 0, 1) := by decide +kernel
theorem dX6_goesToken_1 : decode cX6_goesToken 1 = .ok (.getfield 7, 3) := by decide +kernel
theorem dX6_goesToken_4 : decode cX6_goesToken 4 = .ok (.iload_n 1, 1) := by decide +kernel
theorem dX6_goesToken_5 : decode cX6_goesToken 5 = .ok (.iaload, 1) := by decide +kernel
theorem dX6_goesToken_6 : decode cX6_goesToken 6 = .ok (.iload_n 2, 1) := by decide +kernel
theorem dX6_goesToken_7 : decode cX6_goesToken 7 = .ok (.invokestatic 98, 3) := by decide +kernel
theorem dX6_goesToken_10 : decode cX6_goesToken 10 = .ok (.istore 5, 2) := by decide +kernel
theorem dX6_goesToken_12 : decode cX6_goesToken 12 = .ok (.iload 5, 2) := by decide +kernel
theorem dX6_goesToken_14 : decode cX6_goesToken 14 = .ok (.tableswitch 110 2 5 #[30, 42, 51, 101], 30) := by decide +kernel
theorem dX6_goesToken_44 : decode cX6_goesToken 44 = .ok (.aload_n 0, 1) := by decide +kernel
theorem dX6_goesToken_45 : decode cX6_goesToken 45 = .ok (.iload_n 1, 1) := by decide +kernel
theorem dX6_goesToken_46 : decode cX6_goesToken 46 = .ok (.iload_n 2, 1) := by decide +kernel
theorem dX6_goesToken_47 : decode cX6_goesToken 47 = .ok (.iload 4, 2) := by decide +kernel
theorem dX6_goesToken_49 : decode cX6_goesToken 49 = .ok (.iconst 1, 1) := by decide +kernel
theorem dX6_goesToken_50 : decode cX6_goesToken 50 = .ok (.invokevirtual 102, 3) := by decide +kernel
theorem dX6_goesToken_53 : decode cX6_goesToken 53 = .ok (.goto 71, 3) := by decide +kernel
theorem dX6_goesToken_56 : decode cX6_goesToken 56 = .ok (.aload_n 0, 1) := by decide +kernel
theorem dX6_goesToken_57 : decode cX6_goesToken 57 = .ok (.iload_n 1, 1) := by decide +kernel
theorem dX6_goesToken_58 : decode cX6_goesToken 58 = .ok (.iconst 1, 1) := by decide +kernel
theorem dX6_goesToken_59 : decode cX6_goesToken 59 = .ok (.invokevirtual 106, 3) := by decide +kernel
theorem dX6_goesToken_62 : decode cX6_goesToken 62 = .ok (.goto 62, 3) := by decide +kernel
theorem dX6_goesToken_65 : decode cX6_goesToken 65 = .ok (.aload_n 0, 1) := by decide +kernel
theorem dX6_goesToken_66 : decode cX6_goesToken 66 = .ok (.iload_n 1, 1) := by decide +kernel
theorem dX6_goesToken_67 : decode cX6_goesToken 67 = .ok (.iload_n 2, 1) := by decide +kernel
theorem dX6_goesToken_68 : decode cX6_goesToken 68 = .ok (.iload 4, 2) := by decide +kernel
theorem dX6_goesToken_70 : decode cX6_goesToken 70 = .ok (.aload_n 0, 1) := by decide +kernel
theorem dX6_goesToken_71 : decode cX6_goesToken 71 = .ok (.getfield 49, 3) := by decide +kernel
theorem dX6_goesToken_74 : decode cX6_goesToken 74 = .ok (.iconst 2, 1) := by decide +kernel
theorem dX6_goesToken_75 : decode cX6_goesToken 75 = .ok (.iaload, 1) := by decide +kernel
theorem dX6_goesToken_76 : decode cX6_goesToken 76 = .ok (.iconst 1, 1) := by decide +kernel
theorem dX6_goesToken_77 : decode cX6_goesToken 77 = .ok (.if_icmp .ne 31, 3) := by decide +kernel
theorem dX6_goesToken_80 : decode cX6_goesToken 80 = .ok (.iload_n 2, 1) := by decide +kernel
theorem dX6_goesToken_81 : decode cX6_goesToken 81 = .ok (.iconst 1, 1) := by decide +kernel
theorem dX6_goesToken_82 : decode cX6_goesToken 82 = .ok (.iadd, 1) := by decide +kernel
theorem dX6_goesToken_83 : decode cX6_goesToken 83 = .ok (.iload_n 3, 1) := by decide +kernel
theorem dX6_goesToken_84 : decode cX6_goesToken 84 = .ok (.if_icmp .ge 24, 3) := by decide +kernel
theorem dX6_goesToken_87 : decode cX6_goesToken 87 = .ok (.aload_n 0, 1) := by decide +kernel
theorem dX6_goesToken_88 : decode cX6_goesToken 88 = .ok (.getfield 7, 3) := by decide +kernel
theorem dX6_goesToken_91 : decode cX6_goesToken 91 = .ok (.iload_n 1, 1) := by decide +kernel
theorem dX6_goesToken_92 : decode cX6_goesToken 92 = .ok (.iaload, 1) := by decide +kernel
theorem dX6_goesToken_93 : decode cX6_goesToken 93 = .ok (.iload_n 2, 1) := by decide +kernel
theorem dX6_goesToken_94 : decode cX6_goesToken 94 = .ok (.iconst 1, 1) := by decide +kernel
theorem dX6_goesToken_95 : decode cX6_goesToken 95 = .ok (.iadd, 1) := by decide +kernel
theorem dX6_goesToken_96 : decode cX6_goesToken 96 = .ok (.invokestatic 98, 3) := by decide +kernel
theorem dX6_goesToken_99 : decode cX6_goesToken 99 = .ok (.bipush 9, 2) := by decide +kernel
theorem dX6_goesToken_101 : decode cX6_goesToken 101 = .ok (.if_icmp .eq 7, 3) := by decide +kernel
theorem dX6_goesToken_104 : decode cX6_goesToken 104 = .ok (.iconst 3, 1) := by decide +kernel
theorem dX6_goesToken_105 : decode cX6_goesToken 105 = .ok (.goto 4, 3) := by decide +kernel
theorem dX6_goesToken_108 : decode cX6_goesToken 108 = .ok (.iconst 2, 1) := by decide +kernel
theorem dX6_goesToken_109 : decode cX6_goesToken 109 = .ok (.invokevirtual 102, 3) := by decide +kernel
theorem dX6_goesToken_112 : decode cX6_goesToken 112 = .ok (.goto 12, 3) := by decide +kernel
theorem dX6_goesToken_115 : decode cX6_goesToken 115 = .ok (.aload_n 0, 1) := by decide +kernel
theorem dX6_goesToken_116 : decode cX6_goesToken 116 = .ok (.iload_n 1, 1) := by decide +kernel
theorem dX6_goesToken_117 : decode cX6_goesToken 117 = .ok (.iconst 0, 1) := by decide +kernel
theorem dX6_goesToken_118 : decode cX6_goesToken 118 = .ok (.invokevirtual 106, 3) := by decide +kernel
theorem dX6_goesToken_121 : decode cX6_goesToken 121 = .ok (.goto 3, 3) := by decide +kernel
theorem dX6_goesToken_124 : decode cX6_goesToken 124 = .ok (.aload_n 0, 1) := by decide +kernel
theorem dX6_goesToken_125 : decode cX6_goesToken 125 = .ok (.iload 5, 2) := by decide +kernel
theorem dX6_goesToken_127 : decode cX6_goesToken 127 = .ok (.bipush 9, 2) := by decide +kernel
theorem dX6_goesToken_129 : decode cX6_goesToken 129 = .ok (.if_icmp .ne 10, 3) := by decide +kernel
theorem dX6_goesToken_132 : decode cX6_goesToken 132 = .ok (.aload_n 0, 1) := by decide +kernel
theorem dX6_goesToken_133 : decode cX6_goesToken 133 = .ok (.getfield 92, 3) := by decide +kernel
theorem dX6_goesToken_136 : decode cX6_goesToken 136 = .ok (.goto 5, 3) := by decide +kernel
theorem dX6_goesToken_139 : decode cX6_goesToken 139 = .ok (.iload 5, 2) := by decide +kernel
theorem dX6_goesToken_141 : decode cX6_goesToken 141 = .ok (.putfield 92, 3) := by decide +kernel
theorem dX6_goesToken_144 : decode cX6_goesToken 144 = .ok (.return_, 1) := by decide +kernel
set_option maxRecDepth 20000 in
theorem ggX6_goesLine_X6_lengthOf : GoodIn wsX6_goesLine wsX6_lengthOf := goodIn_r _ [9] (by decide +kernel) (by decide +kernel)
set_option maxRecDepth 20000 in
theorem gX6_goesLine_X6_lengthOf : GoodIn wsX6_goesLine (va_wsS RX6 81 yX6_lengthOf wsX6_lengthOf) := goodIn_app (goodIn_of _ (by decide +kernel)) ggX6_goesLine_X6_lengthOf
set_option maxRecDepth 20000 in
theorem ggX6_goesLine_X6_tokenAt : GoodIn wsX6_goesLine wsX6_tokenAt := goodIn_r _ [12, 6, 7, 8, 9] (by decide +kernel) (by decide +kernel)
set_option maxRecDepth 20000 in
theorem gX6_goesLine_X6_tokenAt : GoodIn wsX6_goesLine (va_wsS RX6 98 yX6_tokenAt wsX6_tokenAt) := goodIn_app (goodIn_of _ (by decide +kernel)) ggX6_goesLine_X6_tokenAt
set_option maxRecDepth 20000 in
theorem ggX6_goesLine_X6_columnFor : GoodIn wsX6_goesLine wsX6_columnFor := goodIn_r _ [16, 17, 18, 19, 20, 21, 22, 23, 24, 8, 25, 3, 26, 46, 47, 48, 49, 50, 51, 52, 53, 54, 55, 56, 57, 58, 59, 60, 61, 62, 63, 64, 65, 66, 67, 68, 69, 70] (by decide +kernel) (by decide +kernel)
set_option maxRecDepth 20000 in
theorem gX6_goesLine_X6_columnFor : GoodIn wsX6_goesLine (wsV RX6 110 RX6 yX6_columnFor wsX6_columnFor) := goodIn_app (goodIn_of _ (by decide +kernel)) ggX6_goesLine_X6_columnFor
set_option maxRecDepth 20000 in
theorem ggX6_goesLine_X6_goesToken : GoodIn wsX6_goesLine wsX6_goesToken := goodIn_r _ [30, 1, 19, 21, 10, 11, 8, 12, 6, 7, 9, 31, 32, 33, 34, 35, 36, 37, 20, 18, 5, 17, 38, 26, 3, 39, 40, 41, 42, 4, 22, 23, 24, 25, 46, 47, 48, 49, 50, 51, 52, 53, 54, 55, 56, 57, 58, 59, 60, 61, 62, 63, 64, 65, 66, 67, 68, 69, 70] (by decide +kernel) (by decide +kernel)
set_option maxRecDepth 20000 in
theorem gX6_goesLine_X6_goesToken : GoodIn wsX6_goesLine (wsV RX6 113 RX6 yX6_goesToken wsX6_goesToken) := goodIn_app (goodIn_of _ (by decide +kernel)) ggX6_goesLine_X6_goesToken
set_option maxRecDepth 20000 in
theorem ggX6_goesLine_X6_widthOf : GoodIn wsX6_goesLine wsX6_widthOf := goodIn_r _ [45] (by decide +kernel) (by decide +kernel)
set_option maxRecDepth 20000 in
theorem gX6_goesLine_X6_widthOf : GoodIn wsX6_goesLine (va_wsS RX6 116 yX6_widthOf wsX6_widthOf) := goodIn_app (goodIn_of _ (by decide +kernel)) ggX6_goesLine_X6_widthOf
theorem dX6_goesLine_0 : decode cX6_goesLine 0 = .ok (.aload_n 0, 1) := by decide +kernel
theorem dX6_goesLine_1 : decode cX6_goesLine 1 = .ok (.getfield 7, 3) := by decide +kernel
theorem dX6_goesLine_4 : decode cX6_goesLine 4 = .ok (.iload_n 1, 1) := by decide +kernel
theorem dX6_goesLine_5 : decode cX6_goesLine 5 = .ok (.iaload, 1) := by decide +kernel
theorem dX6_goesLine_6 : decode cX6_goesLine 6 = .ok (.invokestatic 81, 3) := by decide +kernel
theorem dX6_goesLine_9 : decode cX6_goesLine 9 = .ok (.istore_n 2, 1) := by decide +kernel
theorem dX6_goesLine_10 : decode cX6_goesLine 10 = .ok (.aload_n 0, 1) := by decide +kernel
theorem dX6_goesLine_11 : decode cX6_goesLine 11 = .ok (.getfield 40, 3) := by decide +kernel
theorem dX6_goesLine_14 : decode cX6_goesLine 14 = .ok (.iload_n 1, 1) := by decide +kernel
theorem dX6_goesLine_15 : decode cX6_goesLine 15 = .ok (.aload_n 0, 1) := by decide +kernel
theorem dX6_goesLine_16 : decode cX6_goesLine 16 = .ok (.getfield 85, 3) := by decide +kernel
theorem dX6_goesLine_19 : decode cX6_goesLine 19 = .ok (.iastore, 1) := by decide +kernel
theorem dX6_goesLine_20 : decode cX6_goesLine 20 = .ok (.aload_n 0, 1) := by decide +kernel
theorem dX6_goesLine_21 : decode cX6_goesLine 21 = .ok (.getfield 43, 3) := by decide +kernel
theorem dX6_goesLine_24 : decode cX6_goesLine 24 = .ok (.iload_n 1, 1) := by decide +kernel
theorem dX6_goesLine_25 : decode cX6_goesLine 25 = .ok (.iconst 0, 1) := by decide +kernel
theorem dX6_goesLine_26 : decode cX6_goesLine 26 = .ok (.iastore, 1) := by decide +kernel
theorem dX6_goesLine_27 : decode cX6_goesLine 27 = .ok (.aload_n 0, 1) := by decide +kernel
theorem dX6_goesLine_28 : decode cX6_goesLine 28 = .ok (.getfield 37, 3) := by decide +kernel
theorem dX6_goesLine_31 : decode cX6_goesLine 31 = .ok (.iload_n 1, 1) := by decide +kernel
theorem dX6_goesLine_32 : decode cX6_goesLine 32 = .ok (.iload_n 2, 1) := by decide +kernel
theorem dX6_goesLine_33 : decode cX6_goesLine 33 = .ok (.ifCond .ne 7, 3) := by decide +kernel
theorem dX6_goesLine_36 : decode cX6_goesLine 36 = .ok (.iconst 0, 1) := by decide +kernel
theorem dX6_goesLine_37 : decode cX6_goesLine 37 = .ok (.goto 17, 3) := by decide +kernel
theorem dX6_goesLine_40 : decode cX6_goesLine 40 = .ok (.aload_n 0, 1) := by decide +kernel
theorem dX6_goesLine_41 : decode cX6_goesLine 41 = .ok (.aload_n 0, 1) := by decide +kernel
theorem dX6_goesLine_42 : decode cX6_goesLine 42 = .ok (.getfield 7, 3) := by decide +kernel
theorem dX6_goesLine_45 : decode cX6_goesLine 45 = .ok (.iload_n 1, 1) := by decide +kernel
theorem dX6_goesLine_46 : decode cX6_goesLine 46 = .ok (.iaload, 1) := by decide +kernel
theorem dX6_goesLine_47 : decode cX6_goesLine 47 = .ok (.iconst 0, 1) := by decide +kernel
theorem dX6_goesLine_48 : decode cX6_goesLine 48 = .ok (.invokestatic 98, 3) := by decide +kernel
theorem dX6_goesLine_51 : decode cX6_goesLine 51 = .ok (.invokevirtual 110, 3) := by decide +kernel
theorem dX6_goesLine_54 : decode cX6_goesLine 54 = .ok (.iastore, 1) := by decide +kernel
theorem dX6_goesLine_55 : decode cX6_goesLine 55 = .ok (.aload_n 0, 1) := by decide +kernel
theorem dX6_goesLine_56 : decode cX6_goesLine 56 = .ok (.getfield 37, 3) := by decide +kernel
theorem dX6_goesLine_59 : decode cX6_goesLine 59 = .ok (.iload_n 1, 1) := by decide +kernel
theorem dX6_goesLine_60 : decode cX6_goesLine 60 = .ok (.iaload, 1) := by decide +kernel
theorem dX6_goesLine_61 : decode cX6_goesLine 61 = .ok (.istore_n 3, 1) := by decide +kernel
theorem dX6_goesLine_62 : decode cX6_goesLine 62 = .ok (.iconst 1, 1) := by decide +kernel
theorem dX6_goesLine_63 : decode cX6_goesLine 63 = .ok (.istore 4, 2) := by decide +kernel
theorem dX6_goesLine_65 : decode cX6_goesLine 65 = .ok (.iconst 0, 1) := by decide +kernel
theorem dX6_goesLine_66 : decode cX6_goesLine 66 = .ok (.istore 5, 2) := by decide +kernel
theorem dX6_goesLine_68 : decode cX6_goesLine 68 = .ok (.iload 5, 2) := by decide +kernel
theorem dX6_goesLine_70 : decode cX6_goesLine 70 = .ok (.iload_n 2, 1) := by decide +kernel
theorem dX6_goesLine_71 : decode cX6_goesLine 71 = .ok (.if_icmp .ge 63, 3) := by decide +kernel
theorem dX6_goesLine_74 : decode cX6_goesLine 74 = .ok (.iload 4, 2) := by decide +kernel
theorem dX6_goesLine_76 : decode cX6_goesLine 76 = .ok (.ifCond .eq 58, 3) := by decide +kernel
theorem dX6_goesLine_79 : decode cX6_goesLine 79 = .ok (.aload_n 0, 1) := by decide +kernel
theorem dX6_goesLine_80 : decode cX6_goesLine 80 = .ok (.iload_n 1, 1) := by decide +kernel
theorem dX6_goesLine_81 : decode cX6_goesLine 81 = .ok (.iload 5, 2) := by decide +kernel
theorem dX6_goesLine_83 : decode cX6_goesLine 83 = .ok (.iload_n 2, 1) := by decide +kernel
theorem dX6_goesLine_84 : decode cX6_goesLine 84 = .ok (.iload_n 3, 1) := by decide +kernel
theorem dX6_goesLine_85 : decode cX6_goesLine 85 = .ok (.invokevirtual 113, 3) := by decide +kernel
theorem dX6_goesLine_88 : decode cX6_goesLine 88 = .ok (.iload_n 3, 1) := by decide +kernel
theorem dX6_goesLine_89 : decode cX6_goesLine 89 = .ok (.aload_n 0, 1) := by decide +kernel
theorem dX6_goesLine_90 : decode cX6_goesLine 90 = .ok (.getfield 7, 3) := by decide +kernel
theorem dX6_goesLine_93 : decode cX6_goesLine 93 = .ok (.iload_n 1, 1) := by decide +kernel
theorem dX6_goesLine_94 : decode cX6_goesLine 94 = .ok (.iaload, 1) := by decide +kernel
theorem dX6_goesLine_95 : decode cX6_goesLine 95 = .ok (.iload 5, 2) := by decide +kernel
theorem dX6_goesLine_97 : decode cX6_goesLine 97 = .ok (.invokestatic 98, 3) := by decide +kernel
theorem dX6_goesLine_100 : decode cX6_goesLine 100 = .ok (.invokestatic 116, 3) := by decide +kernel
theorem dX6_goesLine_103 : decode cX6_goesLine 103 = .ok (.iadd, 1) := by decide +kernel
theorem dX6_goesLine_104 : decode cX6_goesLine 104 = .ok (.istore_n 3, 1) := by decide +kernel
theorem dX6_goesLine_105 : decode cX6_goesLine 105 = .ok (.aload_n 0, 1) := by decide +kernel
theorem dX6_goesLine_106 : decode cX6_goesLine 106 = .ok (.getfield 7, 3) := by decide +kernel
theorem dX6_goesLine_109 : decode cX6_goesLine 109 = .ok (.iload_n 1, 1) := by decide +kernel
theorem dX6_goesLine_110 : decode cX6_goesLine 110 = .ok (.iaload, 1) := by decide +kernel
theorem dX6_goesLine_111 : decode cX6_goesLine 111 = .ok (.iload 5, 2) := by decide +kernel
theorem dX6_goesLine_113 : decode cX6_goesLine 113 = .ok (.invokestatic 98, 3) := by decide +kernel
theorem dX6_goesLine_116 : decode cX6_goesLine 116 = .ok (.bipush 9, 2) := by decide +kernel
theorem dX6_goesLine_118 : decode cX6_goesLine 118 = .ok (.if_icmp .eq 7, 3) := by decide +kernel
theorem dX6_goesLine_121 : decode cX6_goesLine 121 = .ok (.iconst 1, 1) := by decide +kernel
theorem dX6_goesLine_122 : decode cX6_goesLine 122 = .ok (.goto 4, 3) := by decide +kernel
theorem dX6_goesLine_125 : decode cX6_goesLine 125 = .ok (.iconst 0, 1) := by decide +kernel
theorem dX6_goesLine_126 : decode cX6_goesLine 126 = .ok (.istore 4, 2) := by decide +kernel
theorem dX6_goesLine_128 : decode cX6_goesLine 128 = .ok (.iinc 5 1, 3) := by decide +kernel
theorem dX6_goesLine_131 : decode cX6_goesLine 131 = .ok (.goto (-63), 3) := by decide +kernel
theorem dX6_goesLine_134 : decode cX6_goesLine 134 = .ok (.return_, 1) := by decide +kernel
set_option maxRecDepth 20000 in
theorem ggX6_goesBy_X6_goesLine : GoodIn wsX6_goesBy wsX6_goesLine := goodIn_r _ [10, 11, 12, 3, 13, 14, 15, 16, 9, 17, 18, 19, 20, 21, 22, 23, 24, 25, 26, 1, 27, 4, 28, 29, 30, 31, 32, 33, 34, 35, 36, 37, 38, 39, 40, 41, 2, 42, 43, 44, 45, 46, 47, 48, 49, 50, 51, 52, 53, 54, 55, 56, 57, 58, 59, 60, 61, 62, 63, 64, 65, 66, 67, 68, 69, 70, 71, 72, 73, 74, 75] (by decide +kernel) (by decide +kernel)
set_option maxRecDepth 20000 in
theorem gX6_goesBy_X6_goesLine : GoodIn wsX6_goesBy (wsV RX6 119 RX6 yX6_goesLine wsX6_goesLine) := goodIn_app (goodIn_of _ (by decide +kernel)) ggX6_goesBy_X6_goesLine
theorem dX6_goesBy_0 : decode cX6_goesBy 0 = .ok (.aload_n 0, 1) := by decide +kernel
theorem dX6_goesBy_1 : decode cX6_goesBy 1 = .ok (.getfield 49, 3) := by decide +kernel
theorem dX6_goesBy_4 : decode cX6_goesBy 4 = .ok (.iconst 0, 1) := by decide +kernel
theorem dX6_goesBy_5 : decode cX6_goesBy 5 = .ok (.iload_n 1, 1) := by decide +kernel
theorem dX6_goesBy_6 : decode cX6_goesBy 6 = .ok (.iastore, 1) := by decide +kernel
theorem dX6_goesBy_7 : decode cX6_goesBy 7 = .ok (.aload_n 0, 1) := by decide +kernel
theorem dX6_goesBy_8 : decode cX6_goesBy 8 = .ok (.getfield 49, 3) := by decide +kernel
theorem dX6_goesBy_11 : decode cX6_goesBy 11 = .ok (.iconst 1, 1) := by decide +kernel
theorem dX6_goesBy_12 : decode cX6_goesBy 12 = .ok (.iload_n 2, 1) := by decide +kernel
theorem dX6_goesBy_13 : decode cX6_goesBy 13 = .ok (.iastore, 1) := by decide +kernel
theorem dX6_goesBy_14 : decode cX6_goesBy 14 = .ok (.aload_n 0, 1) := by decide +kernel
theorem dX6_goesBy_15 : decode cX6_goesBy 15 = .ok (.getfield 49, 3) := by decide +kernel
theorem dX6_goesBy_18 : decode cX6_goesBy 18 = .ok (.iconst 2, 1) := by decide +kernel
theorem dX6_goesBy_19 : decode cX6_goesBy 19 = .ok (.iload_n 3, 1) := by decide +kernel
theorem dX6_goesBy_20 : decode cX6_goesBy 20 = .ok (.iastore, 1) := by decide +kernel
theorem dX6_goesBy_21 : decode cX6_goesBy 21 = .ok (.aload_n 0, 1) := by decide +kernel
theorem dX6_goesBy_22 : decode cX6_goesBy 22 = .ok (.getfield 49, 3) := by decide +kernel
theorem dX6_goesBy_25 : decode cX6_goesBy 25 = .ok (.iconst 3, 1) := by decide +kernel
theorem dX6_goesBy_26 : decode cX6_goesBy 26 = .ok (.iload 4, 2) := by decide +kernel
theorem dX6_goesBy_28 : decode cX6_goesBy 28 = .ok (.iastore, 1) := by decide +kernel
theorem dX6_goesBy_29 : decode cX6_goesBy 29 = .ok (.aload_n 0, 1) := by decide +kernel
theorem dX6_goesBy_30 : decode cX6_goesBy 30 = .ok (.iconst 0, 1) := by decide +kernel
theorem dX6_goesBy_31 : decode cX6_goesBy 31 = .ok (.putfield 95, 3) := by decide +kernel
theorem dX6_goesBy_34 : decode cX6_goesBy 34 = .ok (.aload_n 0, 1) := by decide +kernel
theorem dX6_goesBy_35 : decode cX6_goesBy 35 = .ok (.iconst 0, 1) := by decide +kernel
theorem dX6_goesBy_36 : decode cX6_goesBy 36 = .ok (.putfield 85, 3) := by decide +kernel
theorem dX6_goesBy_39 : decode cX6_goesBy 39 = .ok (.aload_n 0, 1) := by decide +kernel
theorem dX6_goesBy_40 : decode cX6_goesBy 40 = .ok (.iconst 0, 1) := by decide +kernel
theorem dX6_goesBy_41 : decode cX6_goesBy 41 = .ok (.putfield 92, 3) := by decide +kernel
theorem dX6_goesBy_44 : decode cX6_goesBy 44 = .ok (.iconst 0, 1) := by decide +kernel
theorem dX6_goesBy_45 : decode cX6_goesBy 45 = .ok (.istore 5, 2) := by decide +kernel
theorem dX6_goesBy_47 : decode cX6_goesBy 47 = .ok (.iload 5, 2) := by decide +kernel
theorem dX6_goesBy_49 : decode cX6_goesBy 49 = .ok (.aload_n 0, 1) := by decide +kernel
theorem dX6_goesBy_50 : decode cX6_goesBy 50 = .ok (.getfield 73, 3) := by decide +kernel
theorem dX6_goesBy_53 : decode cX6_goesBy 53 = .ok (.if_icmp .ge 15, 3) := by decide +kernel
theorem dX6_goesBy_56 : decode cX6_goesBy 56 = .ok (.aload_n 0, 1) := by decide +kernel
theorem dX6_goesBy_57 : decode cX6_goesBy 57 = .ok (.iload 5, 2) := by decide +kernel
theorem dX6_goesBy_59 : decode cX6_goesBy 59 = .ok (.invokevirtual 119, 3) := by decide +kernel
theorem dX6_goesBy_62 : decode cX6_goesBy 62 = .ok (.iinc 5 1, 3) := by decide +kernel
theorem dX6_goesBy_65 : decode cX6_goesBy 65 = .ok (.goto (-18), 3) := by decide +kernel
theorem dX6_goesBy_68 : decode cX6_goesBy 68 = .ok (.return_, 1) := by decide +kernel
set_option maxRecDepth 20000 in
theorem ggX6_goes_X6_goesBy : GoodIn wsX6_goes wsX6_goesBy := goodIn_r _ [6, 7, 8, 9, 10, 11, 12, 13, 14, 5, 15, 16, 17, 18, 19, 20, 21, 22, 23, 24, 25, 26, 27, 28, 29, 30, 31, 32, 33, 34, 35, 36, 37, 38, 39, 40, 41, 42, 43, 44, 45, 46, 47, 48, 49, 50, 51, 52, 53, 54, 55, 56, 57, 58, 59, 60, 61, 62, 63, 64, 65, 66, 67, 68, 69, 70, 71, 72, 73, 74, 75, 76, 77, 78, 79, 80] (by decide +kernel) (by decide +kernel)
set_option maxRecDepth 20000 in
theorem gX6_goes_X6_goesBy : GoodIn wsX6_goes (wsV RX6 123 RX6 yX6_goesBy wsX6_goesBy) := goodIn_app (goodIn_of _ (by decide +kernel)) ggX6_goes_X6_goesBy
theorem dX6_goes_0 : decode cX6_goes 0 = .ok (.aload_n 0, 1) := by decide +kernel
theorem dX6_goes_1 : decode cX6_goes 1 = .ok (.aload_n 0, 1) := by decide +kernel
theorem dX6_goes_2 : decode cX6_goes 2 = .ok (.getfield 16, 3) := by decide +kernel
theorem dX6_goes_5 : decode cX6_goes 5 = .ok (.iconst 0, 1) := by decide +kernel
theorem dX6_goes_6 : decode cX6_goes 6 = .ok (.iaload, 1) := by decide +kernel
theorem dX6_goes_7 : decode cX6_goes 7 = .ok (.aload_n 0, 1) := by decide +kernel
theorem dX6_goes_8 : decode cX6_goes 8 = .ok (.getfield 16, 3) := by decide +kernel
theorem dX6_goes_11 : decode cX6_goes 11 = .ok (.iconst 1, 1) := by decide +kernel
theorem dX6_goes_12 : decode cX6_goes 12 = .ok (.iaload, 1) := by decide +kernel
theorem dX6_goes_13 : decode cX6_goes 13 = .ok (.aload_n 0, 1) := by decide +kernel
theorem dX6_goes_14 : decode cX6_goes 14 = .ok (.getfield 16, 3) := by decide +kernel
theorem dX6_goes_17 : decode cX6_goes 17 = .ok (.iconst 2, 1) := by decide +kernel
theorem dX6_goes_18 : decode cX6_goes 18 = .ok (.iaload, 1) := by decide +kernel
theorem dX6_goes_19 : decode cX6_goes 19 = .ok (.aload_n 0, 1) := by decide +kernel
theorem dX6_goes_20 : decode cX6_goes 20 = .ok (.getfield 16, 3) := by decide +kernel
theorem dX6_goes_23 : decode cX6_goes 23 = .ok (.iconst 3, 1) := by decide +kernel
theorem dX6_goes_24 : decode cX6_goes 24 = .ok (.iaload, 1) := by decide +kernel
theorem dX6_goes_25 : decode cX6_goes 25 = .ok (.invokevirtual 123, 3) := by decide +kernel
theorem dX6_goes_28 : decode cX6_goes 28 = .ok (.return_, 1) := by decide +kernel
set_option maxRecDepth 20000 in
theorem ggX6_notes_X6_goes : GoodIn wsX6_notes wsX6_goes := goodIn_r _ [8, 9, 10, 11, 12, 7, 13, 14, 15, 16, 17, 1, 18, 19, 20, 21, 22, 23, 24, 3, 25, 26, 27, 28, 29, 30, 31, 32, 33, 34, 35, 36, 37, 38, 39, 40, 41, 42, 43, 44, 45, 46, 47, 48, 49, 50, 51, 52, 53, 54, 55, 56, 57, 58, 59, 60, 61, 62, 63, 64, 65, 66, 67, 68, 69, 70, 71, 72, 73, 74, 75, 76, 77, 78, 79, 80, 81, 82, 83, 84, 85] (by decide +kernel) (by decide +kernel)
set_option maxRecDepth 20000 in
theorem gX6_notes_X6_goes : GoodIn wsX6_notes (wsV RX6 126 RX6 yX6_goes wsX6_goes) := goodIn_app (goodIn_of _ (by decide +kernel)) ggX6_notes_X6_goes
theorem dX6_notes_0 : decode cX6_notes 0 = .ok (.aload_n 0, 1) := by decide +kernel
theorem dX6_notes_1 : decode cX6_notes 1 = .ok (.invokevirtual 126, 3) := by decide +kernel
theorem dX6_notes_4 : decode cX6_notes 4 = .ok (.iconst 0, 1) := by decide +kernel
theorem dX6_notes_5 : decode cX6_notes 5 = .ok (.istore_n 1, 1) := by decide +kernel
theorem dX6_notes_6 : decode cX6_notes 6 = .ok (.iload_n 1, 1) := by decide +kernel
theorem dX6_notes_7 : decode cX6_notes 7 = .ok (.aload_n 0, 1) := by decide +kernel
theorem dX6_notes_8 : decode cX6_notes 8 = .ok (.getfield 73, 3) := by decide +kernel
theorem dX6_notes_11 : decode cX6_notes 11 = .ok (.if_icmp .ge 21, 3) := by decide +kernel
theorem dX6_notes_14 : decode cX6_notes 14 = .ok (.aload_n 0, 1) := by decide +kernel
theorem dX6_notes_15 : decode cX6_notes 15 = .ok (.getfield 52, 3) := by decide +kernel
theorem dX6_notes_18 : decode cX6_notes 18 = .ok (.iload_n 1, 1) := by decide +kernel
theorem dX6_notes_19 : decode cX6_notes 19 = .ok (.aload_n 0, 1) := by decide +kernel
theorem dX6_notes_20 : decode cX6_notes 20 = .ok (.getfield 37, 3) := by decide +kernel
theorem dX6_notes_23 : decode cX6_notes 23 = .ok (.iload_n 1, 1) := by decide +kernel
theorem dX6_notes_24 : decode cX6_notes 24 = .ok (.iaload, 1) := by decide +kernel
theorem dX6_notes_25 : decode cX6_notes 25 = .ok (.iastore, 1) := by decide +kernel
theorem dX6_notes_26 : decode cX6_notes 26 = .ok (.iinc 1 1, 3) := by decide +kernel
theorem dX6_notes_29 : decode cX6_notes 29 = .ok (.goto (-23), 3) := by decide +kernel
theorem dX6_notes_32 : decode cX6_notes 32 = .ok (.return_, 1) := by decide +kernel
set_option maxRecDepth 20000 in
theorem ggX6_moved_X6_goes : GoodIn wsX6_moved wsX6_goes := goodIn_r _ [8, 9, 10, 11, 12, 7, 13, 14, 15, 16, 17, 1, 18, 19, 20, 21, 22, 23, 24, 2, 25, 26, 27, 28, 29, 30, 31, 32, 33, 34, 35, 36, 37, 38, 39, 40, 41, 42, 43, 44, 45, 46, 47, 48, 49, 50, 51, 52, 53, 54, 55, 56, 57, 58, 59, 60, 61, 62, 63, 64, 65, 66, 67, 68, 69, 70, 71, 72, 73, 74, 75, 76, 77, 78, 79, 80, 81, 82, 83, 84, 85] (by decide +kernel) (by decide +kernel)
set_option maxRecDepth 20000 in
theorem gX6_moved_X6_goes : GoodIn wsX6_moved (wsV RX6 126 RX6 yX6_goes wsX6_goes) := goodIn_app (goodIn_of _ (by decide +kernel)) ggX6_moved_X6_goes
theorem dX6_moved_0 : decode cX6_moved 0 = .ok (.aload_n 0, 1) := by decide +kernel
theorem dX6_moved_1 : decode cX6_moved 1 = .ok (.invokevirtual 126, 3) := by decide +kernel
theorem dX6_moved_4 : decode cX6_moved 4 = .ok (.iconst 0, 1) := by decide +kernel
theorem dX6_moved_5 : decode cX6_moved 5 = .ok (.istore_n 2, 1) := by decide +kernel
theorem dX6_moved_6 : decode cX6_moved 6 = .ok (.iconst 0, 1) := by decide +kernel
theorem dX6_moved_7 : decode cX6_moved 7 = .ok (.istore_n 3, 1) := by decide +kernel
theorem dX6_moved_8 : decode cX6_moved 8 = .ok (.iload_n 3, 1) := by decide +kernel
theorem dX6_moved_9 : decode cX6_moved 9 = .ok (.aload_n 0, 1) := by decide +kernel
theorem dX6_moved_10 : decode cX6_moved 10 = .ok (.getfield 73, 3) := by decide +kernel
theorem dX6_moved_13 : decode cX6_moved 13 = .ok (.if_icmp .ge 37, 3) := by decide +kernel
theorem dX6_moved_16 : decode cX6_moved 16 = .ok (.iload_n 2, 1) := by decide +kernel
theorem dX6_moved_17 : decode cX6_moved 17 = .ok (.iload_n 3, 1) := by decide +kernel
theorem dX6_moved_18 : decode cX6_moved 18 = .ok (.iload_n 1, 1) := by decide +kernel
theorem dX6_moved_19 : decode cX6_moved 19 = .ok (.if_icmp .eq 22, 3) := by decide +kernel
theorem dX6_moved_22 : decode cX6_moved 22 = .ok (.aload_n 0, 1) := by decide +kernel
theorem dX6_moved_23 : decode cX6_moved 23 = .ok (.getfield 37, 3) := by decide +kernel
theorem dX6_moved_26 : decode cX6_moved 26 = .ok (.iload_n 3, 1) := by decide +kernel
theorem dX6_moved_27 : decode cX6_moved 27 = .ok (.iaload, 1) := by decide +kernel
theorem dX6_moved_28 : decode cX6_moved 28 = .ok (.aload_n 0, 1) := by decide +kernel
theorem dX6_moved_29 : decode cX6_moved 29 = .ok (.getfield 52, 3) := by decide +kernel
theorem dX6_moved_32 : decode cX6_moved 32 = .ok (.iload_n 3, 1) := by decide +kernel
theorem dX6_moved_33 : decode cX6_moved 33 = .ok (.iaload, 1) := by decide +kernel
theorem dX6_moved_34 : decode cX6_moved 34 = .ok (.if_icmp .eq 7, 3) := by decide +kernel
theorem dX6_moved_37 : decode cX6_moved 37 = .ok (.iconst 1, 1) := by decide +kernel
theorem dX6_moved_38 : decode cX6_moved 38 = .ok (.goto 4, 3) := by decide +kernel
theorem dX6_moved_41 : decode cX6_moved 41 = .ok (.iconst 0, 1) := by decide +kernel
theorem dX6_moved_42 : decode cX6_moved 42 = .ok (.iadd, 1) := by decide +kernel
theorem dX6_moved_43 : decode cX6_moved 43 = .ok (.istore_n 2, 1) := by decide +kernel
theorem dX6_moved_44 : decode cX6_moved 44 = .ok (.iinc 3 1, 3) := by decide +kernel
theorem dX6_moved_47 : decode cX6_moved 47 = .ok (.goto (-39), 3) := by decide +kernel
theorem dX6_moved_50 : decode cX6_moved 50 = .ok (.iload_n 2, 1) := by decide +kernel
theorem dX6_moved_51 : decode cX6_moved 51 = .ok (.ireturn, 1) := by decide +kernel
set_option maxRecDepth 20000 in
theorem ggX6_put_X6_within : GoodIn wsX6_put wsX6_within := goodIn_r _ [8] (by decide +kernel) (by decide +kernel)
set_option maxRecDepth 20000 in
theorem gX6_put_X6_within : GoodIn wsX6_put (va_wsS RX6 77 yX6_within wsX6_within) := goodIn_app (goodIn_of _ (by decide +kernel)) ggX6_put_X6_within
set_option maxRecDepth 20000 in
theorem ggX6_put_X6_areTokens : GoodIn wsX6_put wsX6_areTokens := goodIn_r _ [11, 12, 13, 7, 14] (by decide +kernel) (by decide +kernel)
set_option maxRecDepth 20000 in
theorem gX6_put_X6_areTokens : GoodIn wsX6_put (va_wsS RX6 129 yX6_areTokens wsX6_areTokens) := goodIn_app (goodIn_of _ (by decide +kernel)) ggX6_put_X6_areTokens
set_option maxRecDepth 20000 in
theorem ggX6_put_X6_notes : GoodIn wsX6_put wsX6_notes := goodIn_r _ [18, 1, 4, 19, 20, 21, 22, 7, 23, 24, 25, 26, 27, 28, 29, 30, 31, 32, 33, 34, 35, 36, 2, 37, 38, 12, 13, 14, 39, 40, 41, 42, 43, 44, 45, 46, 47, 48, 49, 50, 51, 52, 53, 54, 55, 56, 57, 58, 59, 60, 61, 62, 63, 64, 65, 66, 67, 68, 69, 70, 71, 76, 77, 78, 79, 80, 81, 82, 83, 84, 85, 86, 87, 88, 89, 90, 91, 92, 93, 94, 95, 96, 97, 98, 99, 100] (by decide +kernel) (by decide +kernel)
set_option maxRecDepth 20000 in
theorem gX6_put_X6_notes : GoodIn wsX6_put (wsV RX6 133 RX6 yX6_notes wsX6_notes) := goodIn_app (goodIn_of _ (by decide +kernel)) ggX6_put_X6_notes
set_option maxRecDepth 20000 in
theorem ggX6_put_X6_moved : GoodIn wsX6_put wsX6_moved := goodIn_r _ [75, 1, 19, 4, 20, 21, 22, 7, 23, 24, 25, 26, 27, 28, 29, 30, 31, 32, 33, 34, 35, 36, 2, 37, 38, 12, 13, 14, 39, 40, 41, 42, 43, 44, 45, 46, 47, 48, 49, 50, 51, 52, 53, 54, 55, 56, 57, 58, 59, 60, 61, 62, 63, 64, 65, 66, 67, 68, 69, 70, 71, 76, 77, 78, 79, 80, 81, 82, 83, 84, 85, 86, 87, 88, 89, 90, 91, 92, 93, 94, 95, 96, 97, 98, 99, 100] (by decide +kernel) (by decide +kernel)
set_option maxRecDepth 20000 in
theorem gX6_put_X6_moved : GoodIn wsX6_put (wsV RX6 136 RX6 yX6_moved wsX6_moved) := goodIn_app (goodIn_of _ (by decide +kernel)) ggX6_put_X6_moved
theorem dX6_put_0 : decode cX6_put 0 = .ok (.iload_n 1, 1) := by decide +kernel
theorem dX6_put_1 : decode cX6_put 1 = .ok (.iconst 0, 1) := by decide +kernel
theorem dX6_put_2 : decode cX6_put 2 = .ok (.aload_n 0, 1) := by decide +kernel
theorem dX6_put_3 : decode cX6_put 3 = .ok (.getfield 73, 3) := by decide +kernel
theorem dX6_put_6 : decode cX6_put 6 = .ok (.invokestatic 77, 3) := by decide +kernel
theorem dX6_put_9 : decode cX6_put 9 = .ok (.ifCond .ne 5, 3) := by decide +kernel
theorem dX6_put_12 : decode cX6_put 12 = .ok (.iconst (-1), 1) := by decide +kernel
theorem dX6_put_13 : decode cX6_put 13 = .ok (.ireturn, 1) := by decide +kernel
theorem dX6_put_14 : decode cX6_put 14 = .ok (.iload_n 2, 1) := by decide +kernel
theorem dX6_put_15 : decode cX6_put 15 = .ok (.invokestatic 129, 3) := by decide +kernel
theorem dX6_put_18 : decode cX6_put 18 = .ok (.ifCond .ne 6, 3) := by decide +kernel
theorem dX6_put_21 : decode cX6_put 21 = .ok (.bipush (-2), 2) := by decide +kernel
theorem dX6_put_23 : decode cX6_put 23 = .ok (.ireturn, 1) := by decide +kernel
theorem dX6_put_24 : decode cX6_put 24 = .ok (.aload_n 0, 1) := by decide +kernel
theorem dX6_put_25 : decode cX6_put 25 = .ok (.getfield 73, 3) := by decide +kernel
theorem dX6_put_28 : decode cX6_put 28 = .ok (.bipush 20, 2) := by decide +kernel
theorem dX6_put_30 : decode cX6_put 30 = .ok (.if_icmp .ne 6, 3) := by decide +kernel
theorem dX6_put_33 : decode cX6_put 33 = .ok (.bipush (-4), 2) := by decide +kernel
theorem dX6_put_35 : decode cX6_put 35 = .ok (.ireturn, 1) := by decide +kernel
theorem dX6_put_36 : decode cX6_put 36 = .ok (.aload_n 0, 1) := by decide +kernel
theorem dX6_put_37 : decode cX6_put 37 = .ok (.invokevirtual 133, 3) := by decide +kernel
theorem dX6_put_40 : decode cX6_put 40 = .ok (.aload_n 0, 1) := by decide +kernel
theorem dX6_put_41 : decode cX6_put 41 = .ok (.getfield 73, 3) := by decide +kernel
theorem dX6_put_44 : decode cX6_put 44 = .ok (.istore_n 3, 1) := by decide +kernel
theorem dX6_put_45 : decode cX6_put 45 = .ok (.iload_n 3, 1) := by decide +kernel
theorem dX6_put_46 : decode cX6_put 46 = .ok (.iload_n 1, 1) := by decide +kernel
theorem dX6_put_47 : decode cX6_put 47 = .ok (.if_icmp .le 51, 3) := by decide +kernel
theorem dX6_put_50 : decode cX6_put 50 = .ok (.aload_n 0, 1) := by decide +kernel
theorem dX6_put_51 : decode cX6_put 51 = .ok (.getfield 7, 3) := by decide +kernel
theorem dX6_put_54 : decode cX6_put 54 = .ok (.iload_n 3, 1) := by decide +kernel
theorem dX6_put_55 : decode cX6_put 55 = .ok (.aload_n 0, 1) := by decide +kernel
theorem dX6_put_56 : decode cX6_put 56 = .ok (.getfield 7, 3) := by decide +kernel
theorem dX6_put_59 : decode cX6_put 59 = .ok (.iload_n 3, 1) := by decide +kernel
theorem dX6_put_60 : decode cX6_put 60 = .ok (.iconst 1, 1) := by decide +kernel
theorem dX6_put_61 : decode cX6_put 61 = .ok (.isub, 1) := by decide +kernel
theorem dX6_put_62 : decode cX6_put 62 = .ok (.iaload, 1) := by decide +kernel
theorem dX6_put_63 : decode cX6_put 63 = .ok (.iastore, 1) := by decide +kernel
theorem dX6_put_64 : decode cX6_put 64 = .ok (.aload_n 0, 1) := by decide +kernel
theorem dX6_put_65 : decode cX6_put 65 = .ok (.getfield 13, 3) := by decide +kernel
theorem dX6_put_68 : decode cX6_put 68 = .ok (.iload_n 3, 1) := by decide +kernel
theorem dX6_put_69 : decode cX6_put 69 = .ok (.aload_n 0, 1) := by decide +kernel
theorem dX6_put_70 : decode cX6_put 70 = .ok (.getfield 13, 3) := by decide +kernel
theorem dX6_put_73 : decode cX6_put 73 = .ok (.iload_n 3, 1) := by decide +kernel
theorem dX6_put_74 : decode cX6_put 74 = .ok (.iconst 1, 1) := by decide +kernel
theorem dX6_put_75 : decode cX6_put 75 = .ok (.isub, 1) := by decide +kernel
theorem dX6_put_76 : decode cX6_put 76 = .ok (.iaload, 1) := by decide +kernel
theorem dX6_put_77 : decode cX6_put 77 = .ok (.iastore, 1) := by decide +kernel
theorem dX6_put_78 : decode cX6_put 78 = .ok (.aload_n 0, 1) := by decide +kernel
theorem dX6_put_79 : decode cX6_put 79 = .ok (.getfield 52, 3) := by decide +kernel
theorem dX6_put_82 : decode cX6_put 82 = .ok (.iload_n 3, 1) := by decide +kernel
theorem dX6_put_83 : decode cX6_put 83 = .ok (.aload_n 0, 1) := by decide +kernel
theorem dX6_put_84 : decode cX6_put 84 = .ok (.getfield 52, 3) := by decide +kernel
theorem dX6_put_87 : decode cX6_put 87 = .ok (.iload_n 3, 1) := by decide +kernel
theorem dX6_put_88 : decode cX6_put 88 = .ok (.iconst 1, 1) := by decide +kernel
theorem dX6_put_89 : decode cX6_put 89 = .ok (.isub, 1) := by decide +kernel
theorem dX6_put_90 : decode cX6_put 90 = .ok (.iaload, 1) := by decide +kernel
theorem dX6_put_91 : decode cX6_put 91 = .ok (.iastore, 1) := by decide +kernel
theorem dX6_put_92 : decode cX6_put 92 = .ok (.iinc 3 (-1), 3) := by decide +kernel
theorem dX6_put_95 : decode cX6_put 95 = .ok (.goto (-50), 3) := by decide +kernel
theorem dX6_put_98 : decode cX6_put 98 = .ok (.aload_n 0, 1) := by decide +kernel
theorem dX6_put_99 : decode cX6_put 99 = .ok (.getfield 7, 3) := by decide +kernel
theorem dX6_put_102 : decode cX6_put 102 = .ok (.iload_n 1, 1) := by decide +kernel
theorem dX6_put_103 : decode cX6_put 103 = .ok (.iload_n 2, 1) := by decide +kernel
theorem dX6_put_104 : decode cX6_put 104 = .ok (.iastore, 1) := by decide +kernel
theorem dX6_put_105 : decode cX6_put 105 = .ok (.aload_n 0, 1) := by decide +kernel
theorem dX6_put_106 : decode cX6_put 106 = .ok (.getfield 13, 3) := by decide +kernel
theorem dX6_put_109 : decode cX6_put 109 = .ok (.iload_n 1, 1) := by decide +kernel
theorem dX6_put_110 : decode cX6_put 110 = .ok (.bipush (-9), 2) := by decide +kernel
theorem dX6_put_112 : decode cX6_put 112 = .ok (.iastore, 1) := by decide +kernel
theorem dX6_put_113 : decode cX6_put 113 = .ok (.aload_n 0, 1) := by decide +kernel
theorem dX6_put_114 : decode cX6_put 114 = .ok (.dup, 1) := by decide +kernel
theorem dX6_put_115 : decode cX6_put 115 = .ok (.getfield 73, 3) := by decide +kernel
theorem dX6_put_118 : decode cX6_put 118 = .ok (.iconst 1, 1) := by decide +kernel
theorem dX6_put_119 : decode cX6_put 119 = .ok (.iadd, 1) := by decide +kernel
theorem dX6_put_120 : decode cX6_put 120 = .ok (.putfield 73, 3) := by decide +kernel
theorem dX6_put_123 : decode cX6_put 123 = .ok (.aload_n 0, 1) := by decide +kernel
theorem dX6_put_124 : decode cX6_put 124 = .ok (.iload_n 1, 1) := by decide +kernel
theorem dX6_put_125 : decode cX6_put 125 = .ok (.invokevirtual 136, 3) := by decide +kernel
theorem dX6_put_128 : decode cX6_put 128 = .ok (.ireturn, 1) := by decide +kernel
set_option maxRecDepth 20000 in
theorem ggX6_change_X6_isLine : GoodIn wsX6_change wsX6_isLine := goodIn_r _ [6, 7, 8, 9, 5, 10, 79, 80, 81, 82, 83, 84, 85, 86, 87, 88, 89, 90, 91, 92, 93, 94, 95, 96, 97, 98, 99, 100, 101, 102, 103] (by decide +kernel) (by decide +kernel)
set_option maxRecDepth 20000 in
theorem gX6_change_X6_isLine : GoodIn wsX6_change (wsV RX6 139 RX6 yX6_isLine wsX6_isLine) := goodIn_app (goodIn_of _ (by decide +kernel)) ggX6_change_X6_isLine
set_option maxRecDepth 20000 in
theorem ggX6_change_X6_areTokens : GoodIn wsX6_change wsX6_areTokens := goodIn_r _ [13, 14, 15, 5, 16] (by decide +kernel) (by decide +kernel)
set_option maxRecDepth 20000 in
theorem gX6_change_X6_areTokens : GoodIn wsX6_change (va_wsS RX6 129 yX6_areTokens wsX6_areTokens) := goodIn_app (goodIn_of _ (by decide +kernel)) ggX6_change_X6_areTokens
set_option maxRecDepth 20000 in
theorem ggX6_change_X6_notes : GoodIn wsX6_change wsX6_notes := goodIn_r _ [20, 7, 21, 22, 23, 24, 25, 5, 26, 27, 28, 29, 30, 31, 32, 33, 34, 35, 36, 37, 38, 39, 1, 40, 41, 14, 15, 16, 42, 43, 44, 45, 46, 47, 48, 49, 50, 51, 52, 53, 54, 55, 56, 57, 58, 59, 60, 61, 62, 63, 64, 65, 66, 67, 68, 69, 70, 71, 72, 73, 74, 79, 80, 81, 82, 83, 84, 85, 86, 87, 88, 89, 90, 91, 92, 93, 94, 95, 96, 97, 98, 99, 100, 101, 102, 103] (by decide +kernel) (by decide +kernel)
set_option maxRecDepth 20000 in
theorem gX6_change_X6_notes : GoodIn wsX6_change (wsV RX6 133 RX6 yX6_notes wsX6_notes) := goodIn_app (goodIn_of _ (by decide +kernel)) ggX6_change_X6_notes
set_option maxRecDepth 20000 in
theorem ggX6_change_X6_moved : GoodIn wsX6_change wsX6_moved := goodIn_r _ [78, 7, 22, 21, 23, 24, 25, 5, 26, 27, 28, 29, 30, 31, 32, 33, 34, 35, 36, 37, 38, 39, 1, 40, 41, 14, 15, 16, 42, 43, 44, 45, 46, 47, 48, 49, 50, 51, 52, 53, 54, 55, 56, 57, 58, 59, 60, 61, 62, 63, 64, 65, 66, 67, 68, 69, 70, 71, 72, 73, 74, 79, 80, 81, 82, 83, 84, 85, 86, 87, 88, 89, 90, 91, 92, 93, 94, 95, 96, 97, 98, 99, 100, 101, 102, 103] (by decide +kernel) (by decide +kernel)
set_option maxRecDepth 20000 in
theorem gX6_change_X6_moved : GoodIn wsX6_change (wsV RX6 136 RX6 yX6_moved wsX6_moved) := goodIn_app (goodIn_of _ (by decide +kernel)) ggX6_change_X6_moved
theorem dX6_change_0 : decode cX6_change 0 = .ok (.aload_n 0, 1) := by decide +kernel
theorem dX6_change_1 : decode cX6_change 1 = .ok (.iload_n 1, 1) := by decide +kernel
theorem dX6_change_2 : decode cX6_change 2 = .ok (.invokevirtual 139, 3) := by decide +kernel
theorem dX6_change_5 : decode cX6_change 5 = .ok (.ifCond .ne 5, 3) := by decide +kernel
theorem dX6_change_8 : decode cX6_change 8 = .ok (.iconst (-1), 1) := by decide +kernel
theorem dX6_change_9 : decode cX6_change 9 = .ok (.ireturn, 1) := by decide +kernel
theorem dX6_change_10 : decode cX6_change 10 = .ok (.iload_n 2, 1) := by decide +kernel
theorem dX6_change_11 : decode cX6_change 11 = .ok (.invokestatic 129, 3) := by decide +kernel
theorem dX6_change_14 : decode cX6_change 14 = .ok (.ifCond .ne 6, 3) := by decide +kernel
theorem dX6_change_17 : decode cX6_change 17 = .ok (.bipush (-2), 2) := by decide +kernel
theorem dX6_change_19 : decode cX6_change 19 = .ok (.ireturn, 1) := by decide +kernel
theorem dX6_change_20 : decode cX6_change 20 = .ok (.aload_n 0, 1) := by decide +kernel
theorem dX6_change_21 : decode cX6_change 21 = .ok (.invokevirtual 133, 3) := by decide +kernel
theorem dX6_change_24 : decode cX6_change 24 = .ok (.aload_n 0, 1) := by decide +kernel
theorem dX6_change_25 : decode cX6_change 25 = .ok (.getfield 7, 3) := by decide +kernel
theorem dX6_change_28 : decode cX6_change 28 = .ok (.iload_n 1, 1) := by decide +kernel
theorem dX6_change_29 : decode cX6_change 29 = .ok (.iload_n 2, 1) := by decide +kernel
theorem dX6_change_30 : decode cX6_change 30 = .ok (.iastore, 1) := by decide +kernel
theorem dX6_change_31 : decode cX6_change 31 = .ok (.aload_n 0, 1) := by decide +kernel
theorem dX6_change_32 : decode cX6_change 32 = .ok (.iload_n 1, 1) := by decide +kernel
theorem dX6_change_33 : decode cX6_change 33 = .ok (.invokevirtual 136, 3) := by decide +kernel
theorem dX6_change_36 : decode cX6_change 36 = .ok (.ireturn, 1) := by decide +kernel
set_option maxRecDepth 20000 in
theorem ggX6_take_X6_isLine : GoodIn wsX6_take wsX6_isLine := goodIn_r _ [9, 1, 10, 11, 8, 12, 77, 78, 79, 80, 81, 82, 83, 84, 85, 86, 87, 88, 89, 90, 91, 92, 93, 94, 95, 96, 97, 98, 99, 100, 101] (by decide +kernel) (by decide +kernel)
set_option maxRecDepth 20000 in
theorem gX6_take_X6_isLine : GoodIn wsX6_take (wsV RX6 139 RX6 yX6_isLine wsX6_isLine) := goodIn_app (goodIn_of _ (by decide +kernel)) ggX6_take_X6_isLine
set_option maxRecDepth 20000 in
theorem ggX6_take_X6_notes : GoodIn wsX6_take wsX6_notes := goodIn_r _ [16, 1, 4, 17, 18, 19, 20, 8, 21, 22, 23, 24, 25, 26, 27, 28, 29, 30, 31, 32, 33, 34, 2, 35, 36, 37, 38, 39, 40, 41, 42, 43, 44, 45, 46, 47, 48, 49, 50, 51, 52, 53, 54, 55, 56, 57, 58, 59, 60, 61, 62, 63, 64, 65, 66, 67, 68, 69, 70, 71, 72, 77, 78, 79, 80, 81, 82, 83, 84, 85, 86, 87, 88, 89, 90, 91, 92, 93, 94, 95, 96, 97, 98, 99, 100, 101] (by decide +kernel) (by decide +kernel)
set_option maxRecDepth 20000 in
theorem gX6_take_X6_notes : GoodIn wsX6_take (wsV RX6 133 RX6 yX6_notes wsX6_notes) := goodIn_app (goodIn_of _ (by decide +kernel)) ggX6_take_X6_notes
set_option maxRecDepth 20000 in
theorem ggX6_take_X6_moved : GoodIn wsX6_take wsX6_moved := goodIn_r _ [76, 1, 17, 4, 18, 19, 20, 8, 21, 22, 23, 24, 25, 26, 27, 28, 29, 30, 31, 32, 33, 34, 2, 35, 36, 37, 38, 39, 40, 41, 42, 43, 44, 45, 46, 47, 48, 49, 50, 51, 52, 53, 54, 55, 56, 57, 58, 59, 60, 61, 62, 63, 64, 65, 66, 67, 68, 69, 70, 71, 72, 77, 78, 79, 80, 81, 82, 83, 84, 85, 86, 87, 88, 89, 90, 91, 92, 93, 94, 95, 96, 97, 98, 99, 100, 101] (by decide +kernel) (by decide +kernel)
set_option maxRecDepth 20000 in
theorem gX6_take_X6_moved : GoodIn wsX6_take (wsV RX6 136 RX6 yX6_moved wsX6_moved) := goodIn_app (goodIn_of _ (by decide +kernel)) ggX6_take_X6_moved
theorem dX6_take_0 : decode cX6_take 0 = .ok (.aload_n 0, 1) := by decide +kernel
theorem dX6_take_1 : decode cX6_take 1 = .ok (.iload_n 1, 1) := by decide +kernel
theorem dX6_take_2 : decode cX6_take 2 = .ok (.invokevirtual 139, 3) := by decide +kernel
theorem dX6_take_5 : decode cX6_take 5 = .ok (.ifCond .ne 5, 3) := by decide +kernel
theorem dX6_take_8 : decode cX6_take 8 = .ok (.iconst (-1), 1) := by decide +kernel
theorem dX6_take_9 : decode cX6_take 9 = .ok (.ireturn, 1) := by decide +kernel
theorem dX6_take_10 : decode cX6_take 10 = .ok (.aload_n 0, 1) := by decide +kernel
theorem dX6_take_11 : decode cX6_take 11 = .ok (.invokevirtual 133, 3) := by decide +kernel
theorem dX6_take_14 : decode cX6_take 14 = .ok (.aload_n 0, 1) := by decide +kernel
theorem dX6_take_15 : decode cX6_take 15 = .ok (.dup, 1) := by decide +kernel
theorem dX6_take_16 : decode cX6_take 16 = .ok (.getfield 73, 3) := by decide +kernel
theorem dX6_take_19 : decode cX6_take 19 = .ok (.iconst 1, 1) := by decide +kernel
theorem dX6_take_20 : decode cX6_take 20 = .ok (.isub, 1) := by decide +kernel
theorem dX6_take_21 : decode cX6_take 21 = .ok (.putfield 73, 3) := by decide +kernel
theorem dX6_take_24 : decode cX6_take 24 = .ok (.iload_n 1, 1) := by decide +kernel
theorem dX6_take_25 : decode cX6_take 25 = .ok (.istore_n 2, 1) := by decide +kernel
theorem dX6_take_26 : decode cX6_take 26 = .ok (.iload_n 2, 1) := by decide +kernel
theorem dX6_take_27 : decode cX6_take 27 = .ok (.aload_n 0, 1) := by decide +kernel
theorem dX6_take_28 : decode cX6_take 28 = .ok (.getfield 73, 3) := by decide +kernel
theorem dX6_take_31 : decode cX6_take 31 = .ok (.if_icmp .ge 51, 3) := by decide +kernel
theorem dX6_take_34 : decode cX6_take 34 = .ok (.aload_n 0, 1) := by decide +kernel
theorem dX6_take_35 : decode cX6_take 35 = .ok (.getfield 7, 3) := by decide +kernel
theorem dX6_take_38 : decode cX6_take 38 = .ok (.iload_n 2, 1) := by decide +kernel
theorem dX6_take_39 : decode cX6_take 39 = .ok (.aload_n 0, 1) := by decide +kernel
theorem dX6_take_40 : decode cX6_take 40 = .ok (.getfield 7, 3) := by decide +kernel
theorem dX6_take_43 : decode cX6_take 43 = .ok (.iload_n 2, 1) := by decide +kernel
theorem dX6_take_44 : decode cX6_take 44 = .ok (.iconst 1, 1) := by decide +kernel
theorem dX6_take_45 : decode cX6_take 45 = .ok (.iadd, 1) := by decide +kernel
theorem dX6_take_46 : decode cX6_take 46 = .ok (.iaload, 1) := by decide +kernel
theorem dX6_take_47 : decode cX6_take 47 = .ok (.iastore, 1) := by decide +kernel
theorem dX6_take_48 : decode cX6_take 48 = .ok (.aload_n 0, 1) := by decide +kernel
theorem dX6_take_49 : decode cX6_take 49 = .ok (.getfield 13, 3) := by decide +kernel
theorem dX6_take_52 : decode cX6_take 52 = .ok (.iload_n 2, 1) := by decide +kernel
theorem dX6_take_53 : decode cX6_take 53 = .ok (.aload_n 0, 1) := by decide +kernel
theorem dX6_take_54 : decode cX6_take 54 = .ok (.getfield 13, 3) := by decide +kernel
theorem dX6_take_57 : decode cX6_take 57 = .ok (.iload_n 2, 1) := by decide +kernel
theorem dX6_take_58 : decode cX6_take 58 = .ok (.iconst 1, 1) := by decide +kernel
theorem dX6_take_59 : decode cX6_take 59 = .ok (.iadd, 1) := by decide +kernel
theorem dX6_take_60 : decode cX6_take 60 = .ok (.iaload, 1) := by decide +kernel
theorem dX6_take_61 : decode cX6_take 61 = .ok (.iastore, 1) := by decide +kernel
theorem dX6_take_62 : decode cX6_take 62 = .ok (.aload_n 0, 1) := by decide +kernel
theorem dX6_take_63 : decode cX6_take 63 = .ok (.getfield 52, 3) := by decide +kernel
theorem dX6_take_66 : decode cX6_take 66 = .ok (.iload_n 2, 1) := by decide +kernel
theorem dX6_take_67 : decode cX6_take 67 = .ok (.aload_n 0, 1) := by decide +kernel
theorem dX6_take_68 : decode cX6_take 68 = .ok (.getfield 52, 3) := by decide +kernel
theorem dX6_take_71 : decode cX6_take 71 = .ok (.iload_n 2, 1) := by decide +kernel
theorem dX6_take_72 : decode cX6_take 72 = .ok (.iconst 1, 1) := by decide +kernel
theorem dX6_take_73 : decode cX6_take 73 = .ok (.iadd, 1) := by decide +kernel
theorem dX6_take_74 : decode cX6_take 74 = .ok (.iaload, 1) := by decide +kernel
theorem dX6_take_75 : decode cX6_take 75 = .ok (.iastore, 1) := by decide +kernel
theorem dX6_take_76 : decode cX6_take 76 = .ok (.iinc 2 1, 3) := by decide +kernel
theorem dX6_take_79 : decode cX6_take 79 = .ok (.goto (-53), 3) := by decide +kernel
theorem dX6_take_82 : decode cX6_take 82 = .ok (.aload_n 0, 1) := by decide +kernel
theorem dX6_take_83 : decode cX6_take 83 = .ok (.bipush (-9), 2) := by decide +kernel
theorem dX6_take_85 : decode cX6_take 85 = .ok (.invokevirtual 136, 3) := by decide +kernel
theorem dX6_take_88 : decode cX6_take 88 = .ok (.ireturn, 1) := by decide +kernel
set_option maxRecDepth 20000 in
theorem ggX6_maySet_X6_within : GoodIn wsX6_maySet wsX6_within := goodIn_r _ [4] (by decide +kernel) (by decide +kernel)
set_option maxRecDepth 20000 in
theorem gX6_maySet_X6_within : GoodIn wsX6_maySet (va_wsS RX6 77 yX6_within wsX6_within) := goodIn_app (goodIn_of _ (by decide +kernel)) ggX6_maySet_X6_within
theorem dX6_maySet_0 : decode cX6_maySet 0 = .ok (.iload_n 0, 1) := by decide +kernel
theorem dX6_maySet_1 : decode cX6_maySet 1 = .ok (.iconst 2, 1) := by decide +kernel
theorem dX6_maySet_2 : decode cX6_maySet 2 = .ok (.if_icmp .ge 13, 3) := by decide +kernel
theorem dX6_maySet_5 : decode cX6_maySet 5 = .ok (.iload_n 1, 1) := by decide +kernel
theorem dX6_maySet_6 : decode cX6_maySet 6 = .ok (.iconst 1, 1) := by decide +kernel
theorem dX6_maySet_7 : decode cX6_maySet 7 = .ok (.bipush 8, 2) := by decide +kernel
theorem dX6_maySet_9 : decode cX6_maySet 9 = .ok (.invokestatic 77, 3) := by decide +kernel
theorem dX6_maySet_12 : decode cX6_maySet 12 = .ok (.goto 9, 3) := by decide +kernel
theorem dX6_maySet_15 : decode cX6_maySet 15 = .ok (.iload_n 1, 1) := by decide +kernel
theorem dX6_maySet_16 : decode cX6_maySet 16 = .ok (.iconst 0, 1) := by decide +kernel
theorem dX6_maySet_17 : decode cX6_maySet 17 = .ok (.iconst 1, 1) := by decide +kernel
theorem dX6_maySet_18 : decode cX6_maySet 18 = .ok (.invokestatic 77, 3) := by decide +kernel
theorem dX6_maySet_21 : decode cX6_maySet 21 = .ok (.ireturn, 1) := by decide +kernel
set_option maxRecDepth 20000 in
theorem ggX6_style_X6_within : GoodIn wsX6_style wsX6_within := goodIn_r _ [5] (by decide +kernel) (by decide +kernel)
set_option maxRecDepth 20000 in
theorem gX6_style_X6_within : GoodIn wsX6_style (va_wsS RX6 77 yX6_within wsX6_within) := goodIn_app (goodIn_of _ (by decide +kernel)) ggX6_style_X6_within
set_option maxRecDepth 20000 in
theorem ggX6_style_X6_maySet : GoodIn wsX6_style wsX6_maySet := goodIn_r _ [8, 2, 3, 4, 5] (by decide +kernel) (by decide +kernel)
set_option maxRecDepth 20000 in
theorem gX6_style_X6_maySet : GoodIn wsX6_style (va_wsS RX6 142 yX6_maySet wsX6_maySet) := goodIn_app (goodIn_of _ (by decide +kernel)) ggX6_style_X6_maySet
theorem dX6_style_0 : decode cX6_style 0 = .ok (.iload_n 1, 1) := by decide +kernel
theorem dX6_style_1 : decode cX6_style 1 = .ok (.iconst 0, 1) := by decide +kernel
theorem dX6_style_2 : decode cX6_style 2 = .ok (.iconst 3, 1) := by decide +kernel
theorem dX6_style_3 : decode cX6_style 3 = .ok (.invokestatic 77, 3) := by decide +kernel
theorem dX6_style_6 : decode cX6_style 6 = .ok (.ifCond .ne 5, 3) := by decide +kernel
theorem dX6_style_9 : decode cX6_style 9 = .ok (.iconst (-1), 1) := by decide +kernel
theorem dX6_style_10 : decode cX6_style 10 = .ok (.ireturn, 1) := by decide +kernel
theorem dX6_style_11 : decode cX6_style 11 = .ok (.iload_n 1, 1) := by decide +kernel
theorem dX6_style_12 : decode cX6_style 12 = .ok (.iload_n 2, 1) := by decide +kernel
theorem dX6_style_13 : decode cX6_style 13 = .ok (.invokestatic 142, 3) := by decide +kernel
theorem dX6_style_16 : decode cX6_style 16 = .ok (.ifCond .ne 6, 3) := by decide +kernel
theorem dX6_style_19 : decode cX6_style 19 = .ok (.bipush (-2), 2) := by decide +kernel
theorem dX6_style_21 : decode cX6_style 21 = .ok (.ireturn, 1) := by decide +kernel
theorem dX6_style_22 : decode cX6_style 22 = .ok (.aload_n 0, 1) := by decide +kernel
theorem dX6_style_23 : decode cX6_style 23 = .ok (.getfield 16, 3) := by decide +kernel
theorem dX6_style_26 : decode cX6_style 26 = .ok (.iload_n 1, 1) := by decide +kernel
theorem dX6_style_27 : decode cX6_style 27 = .ok (.iaload, 1) := by decide +kernel
theorem dX6_style_28 : decode cX6_style 28 = .ok (.istore_n 3, 1) := by decide +kernel
theorem dX6_style_29 : decode cX6_style 29 = .ok (.aload_n 0, 1) := by decide +kernel
theorem dX6_style_30 : decode cX6_style 30 = .ok (.getfield 16, 3) := by decide +kernel
theorem dX6_style_33 : decode cX6_style 33 = .ok (.iload_n 1, 1) := by decide +kernel
theorem dX6_style_34 : decode cX6_style 34 = .ok (.iload_n 2, 1) := by decide +kernel
theorem dX6_style_35 : decode cX6_style 35 = .ok (.iastore, 1) := by decide +kernel
theorem dX6_style_36 : decode cX6_style 36 = .ok (.iload_n 3, 1) := by decide +kernel
theorem dX6_style_37 : decode cX6_style 37 = .ok (.ireturn, 1) := by decide +kernel
set_option maxRecDepth 20000 in
theorem ggX6_widthsOf_X6_lengthOf : GoodIn wsX6_widthsOf wsX6_lengthOf := goodIn_r _ [4] (by decide +kernel) (by decide +kernel)
set_option maxRecDepth 20000 in
theorem gX6_widthsOf_X6_lengthOf : GoodIn wsX6_widthsOf (va_wsS RX6 81 yX6_lengthOf wsX6_lengthOf) := goodIn_app (goodIn_of _ (by decide +kernel)) ggX6_widthsOf_X6_lengthOf
set_option maxRecDepth 20000 in
theorem ggX6_widthsOf_X6_tokenAt : GoodIn wsX6_widthsOf wsX6_tokenAt := goodIn_r _ [7, 1, 2, 3, 4] (by decide +kernel) (by decide +kernel)
set_option maxRecDepth 20000 in
theorem gX6_widthsOf_X6_tokenAt : GoodIn wsX6_widthsOf (va_wsS RX6 98 yX6_tokenAt wsX6_tokenAt) := goodIn_app (goodIn_of _ (by decide +kernel)) ggX6_widthsOf_X6_tokenAt
set_option maxRecDepth 20000 in
theorem ggX6_widthsOf_X6_widthOf : GoodIn wsX6_widthsOf wsX6_widthOf := goodIn_r _ [10] (by decide +kernel) (by decide +kernel)
set_option maxRecDepth 20000 in
theorem gX6_widthsOf_X6_widthOf : GoodIn wsX6_widthsOf (va_wsS RX6 116 yX6_widthOf wsX6_widthOf) := goodIn_app (goodIn_of _ (by decide +kernel)) ggX6_widthsOf_X6_widthOf
theorem dX6_widthsOf_0 : decode cX6_widthsOf 0 = .ok (.iconst 0, 1) := by decide +kernel
theorem dX6_widthsOf_1 : decode cX6_widthsOf 1 = .ok (.istore_n 2, 1) := by decide +kernel
theorem dX6_widthsOf_2 : decode cX6_widthsOf 2 = .ok (.iconst 0, 1) := by decide +kernel
theorem dX6_widthsOf_3 : decode cX6_widthsOf 3 = .ok (.istore_n 3, 1) := by decide +kernel
theorem dX6_widthsOf_4 : decode cX6_widthsOf 4 = .ok (.iload_n 3, 1) := by decide +kernel
theorem dX6_widthsOf_5 : decode cX6_widthsOf 5 = .ok (.iload_n 1, 1) := by decide +kernel
theorem dX6_widthsOf_6 : decode cX6_widthsOf 6 = .ok (.invokestatic 81, 3) := by decide +kernel
theorem dX6_widthsOf_9 : decode cX6_widthsOf 9 = .ok (.if_icmp .ge 20, 3) := by decide +kernel
theorem dX6_widthsOf_12 : decode cX6_widthsOf 12 = .ok (.iload_n 2, 1) := by decide +kernel
theorem dX6_widthsOf_13 : decode cX6_widthsOf 13 = .ok (.iload_n 1, 1) := by decide +kernel
theorem dX6_widthsOf_14 : decode cX6_widthsOf 14 = .ok (.iload_n 3, 1) := by decide +kernel
theorem dX6_widthsOf_15 : decode cX6_widthsOf 15 = .ok (.invokestatic 98, 3) := by decide +kernel
theorem dX6_widthsOf_18 : decode cX6_widthsOf 18 = .ok (.invokestatic 116, 3) := by decide +kernel
theorem dX6_widthsOf_21 : decode cX6_widthsOf 21 = .ok (.iadd, 1) := by decide +kernel
theorem dX6_widthsOf_22 : decode cX6_widthsOf 22 = .ok (.istore_n 2, 1) := by decide +kernel
theorem dX6_widthsOf_23 : decode cX6_widthsOf 23 = .ok (.iinc 3 1, 3) := by decide +kernel
theorem dX6_widthsOf_26 : decode cX6_widthsOf 26 = .ok (.goto (-22), 3) := by decide +kernel
theorem dX6_widthsOf_29 : decode cX6_widthsOf 29 = .ok (.iload_n 2, 1) := by decide +kernel
theorem dX6_widthsOf_30 : decode cX6_widthsOf 30 = .ok (.ireturn, 1) := by decide +kernel
set_option maxRecDepth 20000 in
theorem ggX6_ofLine_X6_isLine : GoodIn wsX6_ofLine wsX6_isLine := goodIn_r _ [10, 11, 12, 13, 9, 14, 72, 73, 74, 75, 76, 77, 78, 79, 80, 81, 82, 83, 84, 85, 86, 87, 88, 89, 90, 91, 92, 93, 94, 95, 96] (by decide +kernel) (by decide +kernel)
set_option maxRecDepth 20000 in
theorem gX6_ofLine_X6_isLine : GoodIn wsX6_ofLine (wsV RX6 139 RX6 yX6_isLine wsX6_isLine) := goodIn_app (goodIn_of _ (by decide +kernel)) ggX6_ofLine_X6_isLine
set_option maxRecDepth 20000 in
theorem ggX6_ofLine_X6_goes : GoodIn wsX6_ofLine wsX6_goes := goodIn_r _ [18, 19, 20, 21, 22, 9, 23, 24, 25, 26, 27, 11, 28, 29, 30, 31, 1, 3, 4, 2, 32, 33, 34, 35, 36, 37, 38, 39, 40, 41, 42, 43, 44, 45, 46, 47, 48, 49, 50, 51, 52, 53, 54, 55, 56, 57, 58, 59, 60, 61, 62, 63, 64, 65, 66, 67, 72, 73, 74, 75, 76, 77, 78, 79, 80, 81, 82, 83, 84, 85, 86, 87, 88, 89, 90, 91, 92, 93, 94, 95, 96] (by decide +kernel) (by decide +kernel)
set_option maxRecDepth 20000 in
theorem gX6_ofLine_X6_goes : GoodIn wsX6_ofLine (wsV RX6 126 RX6 yX6_goes wsX6_goes) := goodIn_app (goodIn_of _ (by decide +kernel)) ggX6_ofLine_X6_goes
set_option maxRecDepth 20000 in
theorem ggX6_ofLine_X6_widthsOf : GoodIn wsX6_ofLine wsX6_widthsOf := goodIn_r _ [71, 32, 33, 9, 34, 35, 36, 37, 65, 66, 67] (by decide +kernel) (by decide +kernel)
set_option maxRecDepth 20000 in
theorem gX6_ofLine_X6_widthsOf : GoodIn wsX6_ofLine (wsV RX6 146 RX6 yX6_widthsOf wsX6_widthsOf) := goodIn_app (goodIn_of _ (by decide +kernel)) ggX6_ofLine_X6_widthsOf
theorem dX6_ofLine_0 : decode cX6_ofLine 0 = .ok (.aload_n 0, 1) := by decide +kernel
theorem dX6_ofLine_1 : decode cX6_ofLine 1 = .ok (.iload_n 1, 1) := by decide +kernel
theorem dX6_ofLine_2 : decode cX6_ofLine 2 = .ok (.invokevirtual 139, 3) := by decide +kernel
theorem dX6_ofLine_5 : decode cX6_ofLine 5 = .ok (.ifCond .ne 5, 3) := by decide +kernel
theorem dX6_ofLine_8 : decode cX6_ofLine 8 = .ok (.iconst (-1), 1) := by decide +kernel
theorem dX6_ofLine_9 : decode cX6_ofLine 9 = .ok (.ireturn, 1) := by decide +kernel
theorem dX6_ofLine_10 : decode cX6_ofLine 10 = .ok (.aload_n 0, 1) := by decide +kernel
theorem dX6_ofLine_11 : decode cX6_ofLine 11 = .ok (.invokevirtual 126, 3) := by decide +kernel
theorem dX6_ofLine_14 : decode cX6_ofLine 14 = .ok (.iload_n 2, 1) := by decide +kernel
theorem dX6_ofLine_15 : decode cX6_ofLine 15 = .ok (.tableswitch 103 0 5 #[37, 44, 51, 82, 89, 96], 37) := by decide +kernel
theorem dX6_ofLine_52 : decode cX6_ofLine 52 = .ok (.aload_n 0, 1) := by decide +kernel
theorem dX6_ofLine_53 : decode cX6_ofLine 53 = .ok (.getfield 7, 3) := by decide +kernel
theorem dX6_ofLine_56 : decode cX6_ofLine 56 = .ok (.iload_n 1, 1) := by decide +kernel
theorem dX6_ofLine_57 : decode cX6_ofLine 57 = .ok (.iaload, 1) := by decide +kernel
theorem dX6_ofLine_58 : decode cX6_ofLine 58 = .ok (.ireturn, 1) := by decide +kernel
theorem dX6_ofLine_59 : decode cX6_ofLine 59 = .ok (.aload_n 0, 1) := by decide +kernel
theorem dX6_ofLine_60 : decode cX6_ofLine 60 = .ok (.getfield 37, 3) := by decide +kernel
theorem dX6_ofLine_63 : decode cX6_ofLine 63 = .ok (.iload_n 1, 1) := by decide +kernel
theorem dX6_ofLine_64 : decode cX6_ofLine 64 = .ok (.iaload, 1) := by decide +kernel
theorem dX6_ofLine_65 : decode cX6_ofLine 65 = .ok (.ireturn, 1) := by decide +kernel
theorem dX6_ofLine_66 : decode cX6_ofLine 66 = .ok (.aload_n 0, 1) := by decide +kernel
theorem dX6_ofLine_67 : decode cX6_ofLine 67 = .ok (.getfield 7, 3) := by decide +kernel
theorem dX6_ofLine_70 : decode cX6_ofLine 70 = .ok (.iload_n 1, 1) := by decide +kernel
theorem dX6_ofLine_71 : decode cX6_ofLine 71 = .ok (.iaload, 1) := by decide +kernel
theorem dX6_ofLine_72 : decode cX6_ofLine 72 = .ok (.ifCond .ne 7, 3) := by decide +kernel
theorem dX6_ofLine_75 : decode cX6_ofLine 75 = .ok (.iconst 0, 1) := by decide +kernel
theorem dX6_ofLine_76 : decode cX6_ofLine 76 = .ok (.goto 20, 3) := by decide +kernel
theorem dX6_ofLine_79 : decode cX6_ofLine 79 = .ok (.aload_n 0, 1) := by decide +kernel
theorem dX6_ofLine_80 : decode cX6_ofLine 80 = .ok (.getfield 37, 3) := by decide +kernel
theorem dX6_ofLine_83 : decode cX6_ofLine 83 = .ok (.iload_n 1, 1) := by decide +kernel
theorem dX6_ofLine_84 : decode cX6_ofLine 84 = .ok (.iaload, 1) := by decide +kernel
theorem dX6_ofLine_85 : decode cX6_ofLine 85 = .ok (.aload_n 0, 1) := by decide +kernel
theorem dX6_ofLine_86 : decode cX6_ofLine 86 = .ok (.aload_n 0, 1) := by decide +kernel
theorem dX6_ofLine_87 : decode cX6_ofLine 87 = .ok (.getfield 7, 3) := by decide +kernel
theorem dX6_ofLine_90 : decode cX6_ofLine 90 = .ok (.iload_n 1, 1) := by decide +kernel
theorem dX6_ofLine_91 : decode cX6_ofLine 91 = .ok (.iaload, 1) := by decide +kernel
theorem dX6_ofLine_92 : decode cX6_ofLine 92 = .ok (.invokevirtual 146, 3) := by decide +kernel
theorem dX6_ofLine_95 : decode cX6_ofLine 95 = .ok (.iadd, 1) := by decide +kernel
theorem dX6_ofLine_96 : decode cX6_ofLine 96 = .ok (.ireturn, 1) := by decide +kernel
theorem dX6_ofLine_97 : decode cX6_ofLine 97 = .ok (.aload_n 0, 1) := by decide +kernel
theorem dX6_ofLine_98 : decode cX6_ofLine 98 = .ok (.getfield 40, 3) := by decide +kernel
theorem dX6_ofLine_101 : decode cX6_ofLine 101 = .ok (.iload_n 1, 1) := by decide +kernel
theorem dX6_ofLine_102 : decode cX6_ofLine 102 = .ok (.iaload, 1) := by decide +kernel
theorem dX6_ofLine_103 : decode cX6_ofLine 103 = .ok (.ireturn, 1) := by decide +kernel
theorem dX6_ofLine_104 : decode cX6_ofLine 104 = .ok (.aload_n 0, 1) := by decide +kernel
theorem dX6_ofLine_105 : decode cX6_ofLine 105 = .ok (.getfield 43, 3) := by decide +kernel
theorem dX6_ofLine_108 : decode cX6_ofLine 108 = .ok (.iload_n 1, 1) := by decide +kernel
theorem dX6_ofLine_109 : decode cX6_ofLine 109 = .ok (.iaload, 1) := by decide +kernel
theorem dX6_ofLine_110 : decode cX6_ofLine 110 = .ok (.ireturn, 1) := by decide +kernel
theorem dX6_ofLine_111 : decode cX6_ofLine 111 = .ok (.aload_n 0, 1) := by decide +kernel
theorem dX6_ofLine_112 : decode cX6_ofLine 112 = .ok (.getfield 13, 3) := by decide +kernel
theorem dX6_ofLine_115 : decode cX6_ofLine 115 = .ok (.iload_n 1, 1) := by decide +kernel
theorem dX6_ofLine_116 : decode cX6_ofLine 116 = .ok (.iaload, 1) := by decide +kernel
theorem dX6_ofLine_117 : decode cX6_ofLine 117 = .ok (.ireturn, 1) := by decide +kernel
theorem dX6_ofLine_118 : decode cX6_ofLine 118 = .ok (.bipush (-2), 2) := by decide +kernel
theorem dX6_ofLine_120 : decode cX6_ofLine 120 = .ok (.ireturn, 1) := by decide +kernel
set_option maxRecDepth 20000 in
theorem ggX6_opener_X6_goes : GoodIn wsX6_opener wsX6_goes := goodIn_r _ [12, 13, 14, 15, 16, 11, 17, 18, 1, 19, 20, 21, 22, 23, 24, 25, 26, 27, 28, 29, 30, 31, 32, 33, 34, 35, 36, 37, 38, 39, 6, 5, 4, 40, 41, 42, 43, 44, 45, 46, 47, 48, 49, 50, 51, 52, 2, 3, 7, 53, 54, 55, 56, 57, 58, 59, 63, 64, 65, 66, 67, 68, 69, 70, 71, 72, 73, 74, 75, 76, 77, 78, 79, 80, 81, 82, 83, 84, 85, 86, 87] (by decide +kernel) (by decide +kernel)
set_option maxRecDepth 20000 in
theorem gX6_opener_X6_goes : GoodIn wsX6_opener (wsV RX6 126 RX6 yX6_goes wsX6_goes) := goodIn_app (goodIn_of _ (by decide +kernel)) ggX6_opener_X6_goes
set_option maxRecDepth 20000 in
theorem ggX6_opener_X6_within : GoodIn wsX6_opener wsX6_within := goodIn_r _ [62] (by decide +kernel) (by decide +kernel)
set_option maxRecDepth 20000 in
theorem gX6_opener_X6_within : GoodIn wsX6_opener (va_wsS RX6 77 yX6_within wsX6_within) := goodIn_app (goodIn_of _ (by decide +kernel)) ggX6_opener_X6_within
theorem dX6_opener_0 : decode cX6_opener 0 = .ok (.aload_n 0, 1) := by decide +kernel
theorem dX6_opener_1 : decode cX6_opener 1 = .ok (.invokevirtual 126, 3) := by decide +kernel
theorem dX6_opener_4 : decode cX6_opener 4 = .ok (.iload_n 1, 1) := by decide +kernel
theorem dX6_opener_5 : decode cX6_opener 5 = .ok (.iconst 0, 1) := by decide +kernel
theorem dX6_opener_6 : decode cX6_opener 6 = .ok (.aload_n 0, 1) := by decide +kernel
theorem dX6_opener_7 : decode cX6_opener 7 = .ok (.getfield 95, 3) := by decide +kernel
theorem dX6_opener_10 : decode cX6_opener 10 = .ok (.iconst 1, 1) := by decide +kernel
theorem dX6_opener_11 : decode cX6_opener 11 = .ok (.isub, 1) := by decide +kernel
theorem dX6_opener_12 : decode cX6_opener 12 = .ok (.invokestatic 77, 3) := by decide +kernel
theorem dX6_opener_15 : decode cX6_opener 15 = .ok (.ifCond .ne 5, 3) := by decide +kernel
theorem dX6_opener_18 : decode cX6_opener 18 = .ok (.iconst (-1), 1) := by decide +kernel
theorem dX6_opener_19 : decode cX6_opener 19 = .ok (.ireturn, 1) := by decide +kernel
theorem dX6_opener_20 : decode cX6_opener 20 = .ok (.iload_n 2, 1) := by decide +kernel
theorem dX6_opener_21 : decode cX6_opener 21 = .ok (.tableswitch 81 0 5 #[39, 46, 53, 60, 67, 74], 39) := by decide +kernel
theorem dX6_opener_60 : decode cX6_opener 60 = .ok (.aload_n 0, 1) := by decide +kernel
theorem dX6_opener_61 : decode cX6_opener 61 = .ok (.getfield 19, 3) := by decide +kernel
theorem dX6_opener_64 : decode cX6_opener 64 = .ok (.iload_n 1, 1) := by decide +kernel
theorem dX6_opener_65 : decode cX6_opener 65 = .ok (.iaload, 1) := by decide +kernel
theorem dX6_opener_66 : decode cX6_opener 66 = .ok (.ireturn, 1) := by decide +kernel
theorem dX6_opener_67 : decode cX6_opener 67 = .ok (.aload_n 0, 1) := by decide +kernel
theorem dX6_opener_68 : decode cX6_opener 68 = .ok (.getfield 22, 3) := by decide +kernel
theorem dX6_opener_71 : decode cX6_opener 71 = .ok (.iload_n 1, 1) := by decide +kernel
theorem dX6_opener_72 : decode cX6_opener 72 = .ok (.iaload, 1) := by decide +kernel
theorem dX6_opener_73 : decode cX6_opener 73 = .ok (.ireturn, 1) := by decide +kernel
theorem dX6_opener_74 : decode cX6_opener 74 = .ok (.aload_n 0, 1) := by decide +kernel
theorem dX6_opener_75 : decode cX6_opener 75 = .ok (.getfield 25, 3) := by decide +kernel
theorem dX6_opener_78 : decode cX6_opener 78 = .ok (.iload_n 1, 1) := by decide +kernel
theorem dX6_opener_79 : decode cX6_opener 79 = .ok (.iaload, 1) := by decide +kernel
theorem dX6_opener_80 : decode cX6_opener 80 = .ok (.ireturn, 1) := by decide +kernel
theorem dX6_opener_81 : decode cX6_opener 81 = .ok (.aload_n 0, 1) := by decide +kernel
theorem dX6_opener_82 : decode cX6_opener 82 = .ok (.getfield 28, 3) := by decide +kernel
theorem dX6_opener_85 : decode cX6_opener 85 = .ok (.iload_n 1, 1) := by decide +kernel
theorem dX6_opener_86 : decode cX6_opener 86 = .ok (.iaload, 1) := by decide +kernel
theorem dX6_opener_87 : decode cX6_opener 87 = .ok (.ireturn, 1) := by decide +kernel
theorem dX6_opener_88 : decode cX6_opener 88 = .ok (.aload_n 0, 1) := by decide +kernel
theorem dX6_opener_89 : decode cX6_opener 89 = .ok (.getfield 31, 3) := by decide +kernel
theorem dX6_opener_92 : decode cX6_opener 92 = .ok (.iload_n 1, 1) := by decide +kernel
theorem dX6_opener_93 : decode cX6_opener 93 = .ok (.iaload, 1) := by decide +kernel
theorem dX6_opener_94 : decode cX6_opener 94 = .ok (.ireturn, 1) := by decide +kernel
theorem dX6_opener_95 : decode cX6_opener 95 = .ok (.aload_n 0, 1) := by decide +kernel
theorem dX6_opener_96 : decode cX6_opener 96 = .ok (.getfield 34, 3) := by decide +kernel
theorem dX6_opener_99 : decode cX6_opener 99 = .ok (.iload_n 1, 1) := by decide +kernel
theorem dX6_opener_100 : decode cX6_opener 100 = .ok (.iaload, 1) := by decide +kernel
theorem dX6_opener_101 : decode cX6_opener 101 = .ok (.ireturn, 1) := by decide +kernel
theorem dX6_opener_102 : decode cX6_opener 102 = .ok (.bipush (-2), 2) := by decide +kernel
theorem dX6_opener_104 : decode cX6_opener 104 = .ok (.ireturn, 1) := by decide +kernel
theorem dX6_counts_0 : decode cX6_counts 0 = .ok (.aload_n 0, 1) := by decide +kernel
theorem dX6_counts_1 : decode cX6_counts 1 = .ok (.getfield 13, 3) := by decide +kernel
theorem dX6_counts_4 : decode cX6_counts 4 = .ok (.iload_n 1, 1) := by decide +kernel
theorem dX6_counts_5 : decode cX6_counts 5 = .ok (.iaload, 1) := by decide +kernel
theorem dX6_counts_6 : decode cX6_counts 6 = .ok (.bipush (-9), 2) := by decide +kernel
theorem dX6_counts_8 : decode cX6_counts 8 = .ok (.if_icmp .eq 16, 3) := by decide +kernel
theorem dX6_counts_11 : decode cX6_counts 11 = .ok (.aload_n 0, 1) := by decide +kernel
theorem dX6_counts_12 : decode cX6_counts 12 = .ok (.getfield 7, 3) := by decide +kernel
theorem dX6_counts_15 : decode cX6_counts 15 = .ok (.iload_n 1, 1) := by decide +kernel
theorem dX6_counts_16 : decode cX6_counts 16 = .ok (.iaload, 1) := by decide +kernel
theorem dX6_counts_17 : decode cX6_counts 17 = .ok (.ifCond .eq 7, 3) := by decide +kernel
theorem dX6_counts_20 : decode cX6_counts 20 = .ok (.iconst 1, 1) := by decide +kernel
theorem dX6_counts_21 : decode cX6_counts 21 = .ok (.goto 4, 3) := by decide +kernel
theorem dX6_counts_24 : decode cX6_counts 24 = .ok (.iconst 0, 1) := by decide +kernel
theorem dX6_counts_25 : decode cX6_counts 25 = .ok (.ireturn, 1) := by decide +kernel
set_option maxRecDepth 20000 in
theorem ggX6_unlike_X6_isLine : GoodIn wsX6_unlike wsX6_isLine := goodIn_r _ [8, 1, 9, 10, 7, 11, 72, 73, 74, 75, 76, 77, 78, 79, 80, 81, 82, 83, 84, 85, 86, 87, 88, 89, 90, 91, 92, 93, 94, 95, 96] (by decide +kernel) (by decide +kernel)
set_option maxRecDepth 20000 in
theorem gX6_unlike_X6_isLine : GoodIn wsX6_unlike (wsV RX6 139 RX6 yX6_isLine wsX6_isLine) := goodIn_app (goodIn_of _ (by decide +kernel)) ggX6_unlike_X6_isLine
set_option maxRecDepth 20000 in
theorem ggX6_unlike_X6_goes : GoodIn wsX6_unlike wsX6_goes := goodIn_r _ [15, 16, 17, 18, 19, 7, 20, 21, 22, 23, 24, 1, 25, 26, 27, 28, 29, 30, 31, 2, 32, 33, 34, 35, 36, 37, 38, 39, 40, 41, 42, 43, 44, 45, 46, 47, 48, 49, 50, 51, 52, 53, 54, 55, 56, 57, 58, 59, 60, 61, 62, 63, 64, 65, 66, 67, 72, 73, 74, 75, 76, 77, 78, 79, 80, 81, 82, 83, 84, 85, 86, 87, 88, 89, 90, 91, 92, 93, 94, 95, 96] (by decide +kernel) (by decide +kernel)
set_option maxRecDepth 20000 in
theorem gX6_unlike_X6_goes : GoodIn wsX6_unlike (wsV RX6 126 RX6 yX6_goes wsX6_goes) := goodIn_app (goodIn_of _ (by decide +kernel)) ggX6_unlike_X6_goes
set_option maxRecDepth 20000 in
theorem ggX6_unlike_X6_counts : GoodIn wsX6_unlike wsX6_counts := goodIn_r _ [71, 3, 29, 72, 73, 74, 75, 76, 77, 78, 79, 80, 81, 82, 83, 84, 85, 86, 87, 88, 89, 90, 91, 92, 93, 94, 95, 96] (by decide +kernel) (by decide +kernel)
set_option maxRecDepth 20000 in
theorem gX6_unlike_X6_counts : GoodIn wsX6_unlike (wsV RX6 149 RX6 yX6_counts wsX6_counts) := goodIn_app (goodIn_of _ (by decide +kernel)) ggX6_unlike_X6_counts
theorem dX6_unlike_0 : decode cX6_unlike 0 = .ok (.aload_n 0, 1) := by decide +kernel
theorem dX6_unlike_1 : decode cX6_unlike 1 = .ok (.iload_n 1, 1) := by decide +kernel
theorem dX6_unlike_2 : decode cX6_unlike 2 = .ok (.invokevirtual 139, 3) := by decide +kernel
theorem dX6_unlike_5 : decode cX6_unlike 5 = .ok (.ifCond .ne 5, 3) := by decide +kernel
theorem dX6_unlike_8 : decode cX6_unlike 8 = .ok (.iconst (-1), 1) := by decide +kernel
theorem dX6_unlike_9 : decode cX6_unlike 9 = .ok (.ireturn, 1) := by decide +kernel
theorem dX6_unlike_10 : decode cX6_unlike 10 = .ok (.aload_n 0, 1) := by decide +kernel
theorem dX6_unlike_11 : decode cX6_unlike 11 = .ok (.invokevirtual 126, 3) := by decide +kernel
theorem dX6_unlike_14 : decode cX6_unlike 14 = .ok (.iload_n 1, 1) := by decide +kernel
theorem dX6_unlike_15 : decode cX6_unlike 15 = .ok (.istore_n 2, 1) := by decide +kernel
theorem dX6_unlike_16 : decode cX6_unlike 16 = .ok (.iload_n 2, 1) := by decide +kernel
theorem dX6_unlike_17 : decode cX6_unlike 17 = .ok (.aload_n 0, 1) := by decide +kernel
theorem dX6_unlike_18 : decode cX6_unlike 18 = .ok (.getfield 73, 3) := by decide +kernel
theorem dX6_unlike_21 : decode cX6_unlike 21 = .ok (.if_icmp .ge 34, 3) := by decide +kernel
theorem dX6_unlike_24 : decode cX6_unlike 24 = .ok (.aload_n 0, 1) := by decide +kernel
theorem dX6_unlike_25 : decode cX6_unlike 25 = .ok (.iload_n 2, 1) := by decide +kernel
theorem dX6_unlike_26 : decode cX6_unlike 26 = .ok (.invokevirtual 149, 3) := by decide +kernel
theorem dX6_unlike_29 : decode cX6_unlike 29 = .ok (.ifCond .eq 20, 3) := by decide +kernel
theorem dX6_unlike_32 : decode cX6_unlike 32 = .ok (.aload_n 0, 1) := by decide +kernel
theorem dX6_unlike_33 : decode cX6_unlike 33 = .ok (.getfield 37, 3) := by decide +kernel
theorem dX6_unlike_36 : decode cX6_unlike 36 = .ok (.iload_n 2, 1) := by decide +kernel
theorem dX6_unlike_37 : decode cX6_unlike 37 = .ok (.iaload, 1) := by decide +kernel
theorem dX6_unlike_38 : decode cX6_unlike 38 = .ok (.aload_n 0, 1) := by decide +kernel
theorem dX6_unlike_39 : decode cX6_unlike 39 = .ok (.getfield 13, 3) := by decide +kernel
theorem dX6_unlike_42 : decode cX6_unlike 42 = .ok (.iload_n 2, 1) := by decide +kernel
theorem dX6_unlike_43 : decode cX6_unlike 43 = .ok (.iaload, 1) := by decide +kernel
theorem dX6_unlike_44 : decode cX6_unlike 44 = .ok (.if_icmp .eq 5, 3) := by decide +kernel
theorem dX6_unlike_47 : decode cX6_unlike 47 = .ok (.iload_n 2, 1) := by decide +kernel
theorem dX6_unlike_48 : decode cX6_unlike 48 = .ok (.ireturn, 1) := by decide +kernel
theorem dX6_unlike_49 : decode cX6_unlike 49 = .ok (.iinc 2 1, 3) := by decide +kernel
theorem dX6_unlike_52 : decode cX6_unlike 52 = .ok (.goto (-36), 3) := by decide +kernel
theorem dX6_unlike_55 : decode cX6_unlike 55 = .ok (.bipush (-9), 2) := by decide +kernel
theorem dX6_unlike_57 : decode cX6_unlike 57 = .ok (.ireturn, 1) := by decide +kernel
set_option maxRecDepth 20000 in
theorem ggX6_see_X6_isLine : GoodIn wsX6_see wsX6_isLine := goodIn_r _ [6, 7, 8, 9, 5, 10, 11, 12, 13, 14, 15, 16, 17, 18, 19, 20, 21, 22, 23, 24, 25, 26, 27, 28, 29, 30, 31, 32, 33, 34, 35] (by decide +kernel) (by decide +kernel)
set_option maxRecDepth 20000 in
theorem gX6_see_X6_isLine : GoodIn wsX6_see (wsV RX6 139 RX6 yX6_isLine wsX6_isLine) := goodIn_app (goodIn_of _ (by decide +kernel)) ggX6_see_X6_isLine
set_option maxRecDepth 20000 in
theorem ggX6_see_X6_within : GoodIn wsX6_see wsX6_within := goodIn_r _ [10] (by decide +kernel) (by decide +kernel)
set_option maxRecDepth 20000 in
theorem gX6_see_X6_within : GoodIn wsX6_see (va_wsS RX6 77 yX6_within wsX6_within) := goodIn_app (goodIn_of _ (by decide +kernel)) ggX6_see_X6_within
theorem dX6_see_0 : decode cX6_see 0 = .ok (.aload_n 0, 1) := by decide +kernel
theorem dX6_see_1 : decode cX6_see 1 = .ok (.iload_n 1, 1) := by decide +kernel
theorem dX6_see_2 : decode cX6_see 2 = .ok (.invokevirtual 139, 3) := by decide +kernel
theorem dX6_see_5 : decode cX6_see 5 = .ok (.ifCond .ne 5, 3) := by decide +kernel
theorem dX6_see_8 : decode cX6_see 8 = .ok (.iconst (-1), 1) := by decide +kernel
theorem dX6_see_9 : decode cX6_see 9 = .ok (.ireturn, 1) := by decide +kernel
theorem dX6_see_10 : decode cX6_see 10 = .ok (.iload_n 2, 1) := by decide +kernel
theorem dX6_see_11 : decode cX6_see 11 = .ok (.bipush (-9), 2) := by decide +kernel
theorem dX6_see_13 : decode cX6_see 13 = .ok (.if_icmp .eq 17, 3) := by decide +kernel
theorem dX6_see_16 : decode cX6_see 16 = .ok (.iload_n 2, 1) := by decide +kernel
theorem dX6_see_17 : decode cX6_see 17 = .ok (.iconst 0, 1) := by decide +kernel
theorem dX6_see_18 : decode cX6_see 18 = .ok (.sipush 200, 3) := by decide +kernel
theorem dX6_see_21 : decode cX6_see 21 = .ok (.invokestatic 77, 3) := by decide +kernel
theorem dX6_see_24 : decode cX6_see 24 = .ok (.ifCond .ne 6, 3) := by decide +kernel
theorem dX6_see_27 : decode cX6_see 27 = .ok (.bipush (-2), 2) := by decide +kernel
theorem dX6_see_29 : decode cX6_see 29 = .ok (.ireturn, 1) := by decide +kernel
theorem dX6_see_30 : decode cX6_see 30 = .ok (.aload_n 0, 1) := by decide +kernel
theorem dX6_see_31 : decode cX6_see 31 = .ok (.getfield 13, 3) := by decide +kernel
theorem dX6_see_34 : decode cX6_see 34 = .ok (.iload_n 1, 1) := by decide +kernel
theorem dX6_see_35 : decode cX6_see 35 = .ok (.iaload, 1) := by decide +kernel
theorem dX6_see_36 : decode cX6_see 36 = .ok (.istore_n 3, 1) := by decide +kernel
theorem dX6_see_37 : decode cX6_see 37 = .ok (.aload_n 0, 1) := by decide +kernel
theorem dX6_see_38 : decode cX6_see 38 = .ok (.getfield 13, 3) := by decide +kernel
theorem dX6_see_41 : decode cX6_see 41 = .ok (.iload_n 1, 1) := by decide +kernel
theorem dX6_see_42 : decode cX6_see 42 = .ok (.iload_n 2, 1) := by decide +kernel
theorem dX6_see_43 : decode cX6_see 43 = .ok (.iastore, 1) := by decide +kernel
theorem dX6_see_44 : decode cX6_see 44 = .ok (.iload_n 3, 1) := by decide +kernel
theorem dX6_see_45 : decode cX6_see 45 = .ok (.ireturn, 1) := by decide +kernel
set_option maxRecDepth 20000 in
theorem ggX6_isStyle_X6_maySet : GoodIn wsX6_isStyle wsX6_maySet := goodIn_r _ [4, 5, 6, 3, 7] (by decide +kernel) (by decide +kernel)
set_option maxRecDepth 20000 in
theorem gX6_isStyle_X6_maySet : GoodIn wsX6_isStyle (va_wsS RX6 142 yX6_maySet wsX6_maySet) := goodIn_app (goodIn_of _ (by decide +kernel)) ggX6_isStyle_X6_maySet
theorem dX6_isStyle_0 : decode cX6_isStyle 0 = .ok (.iconst 0, 1) := by decide +kernel
theorem dX6_isStyle_1 : decode cX6_isStyle 1 = .ok (.iload_n 0, 1) := by decide +kernel
theorem dX6_isStyle_2 : decode cX6_isStyle 2 = .ok (.invokestatic 142, 3) := by decide +kernel
theorem dX6_isStyle_5 : decode cX6_isStyle 5 = .ok (.ifCond .eq 31, 3) := by decide +kernel
theorem dX6_isStyle_8 : decode cX6_isStyle 8 = .ok (.iconst 1, 1) := by decide +kernel
theorem dX6_isStyle_9 : decode cX6_isStyle 9 = .ok (.iload_n 1, 1) := by decide +kernel
theorem dX6_isStyle_10 : decode cX6_isStyle 10 = .ok (.invokestatic 142, 3) := by decide +kernel
theorem dX6_isStyle_13 : decode cX6_isStyle 13 = .ok (.ifCond .eq 23, 3) := by decide +kernel
theorem dX6_isStyle_16 : decode cX6_isStyle 16 = .ok (.iconst 2, 1) := by decide +kernel
theorem dX6_isStyle_17 : decode cX6_isStyle 17 = .ok (.iload_n 2, 1) := by decide +kernel
theorem dX6_isStyle_18 : decode cX6_isStyle 18 = .ok (.invokestatic 142, 3) := by decide +kernel
theorem dX6_isStyle_21 : decode cX6_isStyle 21 = .ok (.ifCond .eq 15, 3) := by decide +kernel
theorem dX6_isStyle_24 : decode cX6_isStyle 24 = .ok (.iconst 3, 1) := by decide +kernel
theorem dX6_isStyle_25 : decode cX6_isStyle 25 = .ok (.iload_n 3, 1) := by decide +kernel
theorem dX6_isStyle_26 : decode cX6_isStyle 26 = .ok (.invokestatic 142, 3) := by decide +kernel
theorem dX6_isStyle_29 : decode cX6_isStyle 29 = .ok (.ifCond .eq 7, 3) := by decide +kernel
theorem dX6_isStyle_32 : decode cX6_isStyle 32 = .ok (.iconst 1, 1) := by decide +kernel
theorem dX6_isStyle_33 : decode cX6_isStyle 33 = .ok (.goto 4, 3) := by decide +kernel
theorem dX6_isStyle_36 : decode cX6_isStyle 36 = .ok (.iconst 0, 1) := by decide +kernel
theorem dX6_isStyle_37 : decode cX6_isStyle 37 = .ok (.ireturn, 1) := by decide +kernel
set_option maxRecDepth 20000 in
theorem ggX6_fits_X6_isStyle : GoodIn wsX6_fits wsX6_isStyle := goodIn_r _ [7, 8, 9, 6, 10, 11, 12, 13] (by decide +kernel) (by decide +kernel)
set_option maxRecDepth 20000 in
theorem gX6_fits_X6_isStyle : GoodIn wsX6_fits (va_wsS RX6 152 yX6_isStyle wsX6_isStyle) := goodIn_app (goodIn_of _ (by decide +kernel)) ggX6_fits_X6_isStyle
set_option maxRecDepth 20000 in
theorem ggX6_fits_X6_goesBy : GoodIn wsX6_fits wsX6_goesBy := goodIn_r _ [17, 18, 19, 20, 21, 1, 22, 23, 24, 6, 25, 26, 27, 28, 2, 29, 30, 31, 32, 33, 34, 35, 36, 37, 38, 39, 40, 41, 42, 43, 44, 45, 46, 47, 48, 49, 50, 51, 52, 53, 54, 55, 56, 57, 58, 59, 60, 61, 62, 63, 64, 69, 70, 71, 72, 73, 74, 75, 76, 77, 78, 79, 80, 81, 82, 83, 84, 85, 86, 87, 88, 89, 90, 91, 92, 93] (by decide +kernel) (by decide +kernel)
set_option maxRecDepth 20000 in
theorem gX6_fits_X6_goesBy : GoodIn wsX6_fits (wsV RX6 123 RX6 yX6_goesBy wsX6_goesBy) := goodIn_app (goodIn_of _ (by decide +kernel)) ggX6_fits_X6_goesBy
set_option maxRecDepth 20000 in
theorem ggX6_fits_X6_counts : GoodIn wsX6_fits wsX6_counts := goodIn_r _ [68, 3, 26, 69, 70, 71, 72, 73, 74, 75, 76, 77, 78, 79, 80, 81, 82, 83, 84, 85, 86, 87, 88, 89, 90, 91, 92, 93] (by decide +kernel) (by decide +kernel)
set_option maxRecDepth 20000 in
theorem gX6_fits_X6_counts : GoodIn wsX6_fits (wsV RX6 149 RX6 yX6_counts wsX6_counts) := goodIn_app (goodIn_of _ (by decide +kernel)) ggX6_fits_X6_counts
theorem dX6_fits_0 : decode cX6_fits 0 = .ok (.iload_n 1, 1) := by decide +kernel
theorem dX6_fits_1 : decode cX6_fits 1 = .ok (.iload_n 2, 1) := by decide +kernel
theorem dX6_fits_2 : decode cX6_fits 2 = .ok (.iload_n 3, 1) := by decide +kernel
theorem dX6_fits_3 : decode cX6_fits 3 = .ok (.iload 4, 2) := by decide +kernel
theorem dX6_fits_5 : decode cX6_fits 5 = .ok (.invokestatic 152, 3) := by decide +kernel
theorem dX6_fits_8 : decode cX6_fits 8 = .ok (.ifCond .ne 6, 3) := by decide +kernel
theorem dX6_fits_11 : decode cX6_fits 11 = .ok (.bipush (-2), 2) := by decide +kernel
theorem dX6_fits_13 : decode cX6_fits 13 = .ok (.ireturn, 1) := by decide +kernel
theorem dX6_fits_14 : decode cX6_fits 14 = .ok (.aload_n 0, 1) := by decide +kernel
theorem dX6_fits_15 : decode cX6_fits 15 = .ok (.iload_n 1, 1) := by decide +kernel
theorem dX6_fits_16 : decode cX6_fits 16 = .ok (.iload_n 2, 1) := by decide +kernel
theorem dX6_fits_17 : decode cX6_fits 17 = .ok (.iload_n 3, 1) := by decide +kernel
theorem dX6_fits_18 : decode cX6_fits 18 = .ok (.iload 4, 2) := by decide +kernel
theorem dX6_fits_20 : decode cX6_fits 20 = .ok (.invokevirtual 123, 3) := by decide +kernel
theorem dX6_fits_23 : decode cX6_fits 23 = .ok (.iconst 0, 1) := by decide +kernel
theorem dX6_fits_24 : decode cX6_fits 24 = .ok (.istore 5, 2) := by decide +kernel
theorem dX6_fits_26 : decode cX6_fits 26 = .ok (.iconst 0, 1) := by decide +kernel
theorem dX6_fits_27 : decode cX6_fits 27 = .ok (.istore 6, 2) := by decide +kernel
theorem dX6_fits_29 : decode cX6_fits 29 = .ok (.iload 6, 2) := by decide +kernel
theorem dX6_fits_31 : decode cX6_fits 31 = .ok (.aload_n 0, 1) := by decide +kernel
theorem dX6_fits_32 : decode cX6_fits 32 = .ok (.getfield 73, 3) := by decide +kernel
theorem dX6_fits_35 : decode cX6_fits 35 = .ok (.if_icmp .ge 45, 3) := by decide +kernel
theorem dX6_fits_38 : decode cX6_fits 38 = .ok (.iload 5, 2) := by decide +kernel
theorem dX6_fits_40 : decode cX6_fits 40 = .ok (.aload_n 0, 1) := by decide +kernel
theorem dX6_fits_41 : decode cX6_fits 41 = .ok (.iload 6, 2) := by decide +kernel
theorem dX6_fits_43 : decode cX6_fits 43 = .ok (.invokevirtual 149, 3) := by decide +kernel
theorem dX6_fits_46 : decode cX6_fits 46 = .ok (.ifCond .eq 24, 3) := by decide +kernel
theorem dX6_fits_49 : decode cX6_fits 49 = .ok (.aload_n 0, 1) := by decide +kernel
theorem dX6_fits_50 : decode cX6_fits 50 = .ok (.getfield 37, 3) := by decide +kernel
theorem dX6_fits_53 : decode cX6_fits 53 = .ok (.iload 6, 2) := by decide +kernel
theorem dX6_fits_55 : decode cX6_fits 55 = .ok (.iaload, 1) := by decide +kernel
theorem dX6_fits_56 : decode cX6_fits 56 = .ok (.aload_n 0, 1) := by decide +kernel
theorem dX6_fits_57 : decode cX6_fits 57 = .ok (.getfield 13, 3) := by decide +kernel
theorem dX6_fits_60 : decode cX6_fits 60 = .ok (.iload 6, 2) := by decide +kernel
theorem dX6_fits_62 : decode cX6_fits 62 = .ok (.iaload, 1) := by decide +kernel
theorem dX6_fits_63 : decode cX6_fits 63 = .ok (.if_icmp .ne 7, 3) := by decide +kernel
theorem dX6_fits_66 : decode cX6_fits 66 = .ok (.iconst 1, 1) := by decide +kernel
theorem dX6_fits_67 : decode cX6_fits 67 = .ok (.goto 4, 3) := by decide +kernel
theorem dX6_fits_70 : decode cX6_fits 70 = .ok (.iconst 0, 1) := by decide +kernel
theorem dX6_fits_71 : decode cX6_fits 71 = .ok (.iadd, 1) := by decide +kernel
theorem dX6_fits_72 : decode cX6_fits 72 = .ok (.istore 5, 2) := by decide +kernel
theorem dX6_fits_74 : decode cX6_fits 74 = .ok (.iinc 6 1, 3) := by decide +kernel
theorem dX6_fits_77 : decode cX6_fits 77 = .ok (.goto (-48), 3) := by decide +kernel
theorem dX6_fits_80 : decode cX6_fits 80 = .ok (.iload 5, 2) := by decide +kernel
theorem dX6_fits_82 : decode cX6_fits 82 = .ok (.ireturn, 1) := by decide +kernel
set_option maxRecDepth 20000 in
theorem ggX6_scoreBy_X6_goesBy : GoodIn wsX6_scoreBy wsX6_goesBy := goodIn_r _ [9, 10, 11, 12, 13, 1, 14, 15, 16, 8, 17, 18, 2, 19, 3, 20, 21, 22, 23, 24, 25, 26, 27, 28, 29, 30, 31, 32, 33, 34, 35, 36, 37, 38, 39, 40, 41, 42, 43, 44, 45, 46, 47, 48, 49, 50, 51, 52, 53, 54, 55, 60, 61, 62, 63, 64, 65, 66, 67, 68, 69, 70, 71, 72, 73, 74, 75, 76, 77, 78, 79, 80, 81, 82, 83, 84] (by decide +kernel) (by decide +kernel)
set_option maxRecDepth 20000 in
theorem gX6_scoreBy_X6_goesBy : GoodIn wsX6_scoreBy (wsV RX6 123 RX6 yX6_goesBy wsX6_goesBy) := goodIn_app (goodIn_of _ (by decide +kernel)) ggX6_scoreBy_X6_goesBy
set_option maxRecDepth 20000 in
theorem ggX6_scoreBy_X6_counts : GoodIn wsX6_scoreBy wsX6_counts := goodIn_r _ [59, 4, 18, 60, 61, 62, 63, 64, 65, 66, 67, 68, 69, 70, 71, 72, 73, 74, 75, 76, 77, 78, 79, 80, 81, 82, 83, 84] (by decide +kernel) (by decide +kernel)
set_option maxRecDepth 20000 in
theorem gX6_scoreBy_X6_counts : GoodIn wsX6_scoreBy (wsV RX6 149 RX6 yX6_counts wsX6_counts) := goodIn_app (goodIn_of _ (by decide +kernel)) ggX6_scoreBy_X6_counts
theorem dX6_scoreBy_0 : decode cX6_scoreBy 0 = .ok (.aload_n 0, 1) := by decide +kernel
theorem dX6_scoreBy_1 : decode cX6_scoreBy 1 = .ok (.iload_n 1, 1) := by decide +kernel
theorem dX6_scoreBy_2 : decode cX6_scoreBy 2 = .ok (.iload_n 2, 1) := by decide +kernel
theorem dX6_scoreBy_3 : decode cX6_scoreBy 3 = .ok (.iload_n 3, 1) := by decide +kernel
theorem dX6_scoreBy_4 : decode cX6_scoreBy 4 = .ok (.iload 4, 2) := by decide +kernel
theorem dX6_scoreBy_6 : decode cX6_scoreBy 6 = .ok (.invokevirtual 123, 3) := by decide +kernel
theorem dX6_scoreBy_9 : decode cX6_scoreBy 9 = .ok (.iconst 0, 1) := by decide +kernel
theorem dX6_scoreBy_10 : decode cX6_scoreBy 10 = .ok (.istore 5, 2) := by decide +kernel
theorem dX6_scoreBy_12 : decode cX6_scoreBy 12 = .ok (.iconst 0, 1) := by decide +kernel
theorem dX6_scoreBy_13 : decode cX6_scoreBy 13 = .ok (.istore 6, 2) := by decide +kernel
theorem dX6_scoreBy_15 : decode cX6_scoreBy 15 = .ok (.iload 6, 2) := by decide +kernel
theorem dX6_scoreBy_17 : decode cX6_scoreBy 17 = .ok (.aload_n 0, 1) := by decide +kernel
theorem dX6_scoreBy_18 : decode cX6_scoreBy 18 = .ok (.getfield 73, 3) := by decide +kernel
theorem dX6_scoreBy_21 : decode cX6_scoreBy 21 = .ok (.if_icmp .ge 77, 3) := by decide +kernel
theorem dX6_scoreBy_24 : decode cX6_scoreBy 24 = .ok (.aload_n 0, 1) := by decide +kernel
theorem dX6_scoreBy_25 : decode cX6_scoreBy 25 = .ok (.getfield 40, 3) := by decide +kernel
theorem dX6_scoreBy_28 : decode cX6_scoreBy 28 = .ok (.iload 6, 2) := by decide +kernel
theorem dX6_scoreBy_30 : decode cX6_scoreBy 30 = .ok (.iaload, 1) := by decide +kernel
theorem dX6_scoreBy_31 : decode cX6_scoreBy 31 = .ok (.bipush 12, 2) := by decide +kernel
theorem dX6_scoreBy_33 : decode cX6_scoreBy 33 = .ok (.if_icmp .ge 13, 3) := by decide +kernel
theorem dX6_scoreBy_36 : decode cX6_scoreBy 36 = .ok (.aload_n 0, 1) := by decide +kernel
theorem dX6_scoreBy_37 : decode cX6_scoreBy 37 = .ok (.getfield 40, 3) := by decide +kernel
theorem dX6_scoreBy_40 : decode cX6_scoreBy 40 = .ok (.iload 6, 2) := by decide +kernel
theorem dX6_scoreBy_42 : decode cX6_scoreBy 42 = .ok (.iaload, 1) := by decide +kernel
theorem dX6_scoreBy_43 : decode cX6_scoreBy 43 = .ok (.goto 5, 3) := by decide +kernel
theorem dX6_scoreBy_46 : decode cX6_scoreBy 46 = .ok (.bipush 12, 2) := by decide +kernel
theorem dX6_scoreBy_48 : decode cX6_scoreBy 48 = .ok (.istore 7, 2) := by decide +kernel
theorem dX6_scoreBy_50 : decode cX6_scoreBy 50 = .ok (.iload 5, 2) := by decide +kernel
theorem dX6_scoreBy_52 : decode cX6_scoreBy 52 = .ok (.aload_n 0, 1) := by decide +kernel
theorem dX6_scoreBy_53 : decode cX6_scoreBy 53 = .ok (.iload 6, 2) := by decide +kernel
theorem dX6_scoreBy_55 : decode cX6_scoreBy 55 = .ok (.invokevirtual 149, 3) := by decide +kernel
theorem dX6_scoreBy_58 : decode cX6_scoreBy 58 = .ok (.ifCond .eq 30, 3) := by decide +kernel
theorem dX6_scoreBy_61 : decode cX6_scoreBy 61 = .ok (.aload_n 0, 1) := by decide +kernel
theorem dX6_scoreBy_62 : decode cX6_scoreBy 62 = .ok (.getfield 37, 3) := by decide +kernel
theorem dX6_scoreBy_65 : decode cX6_scoreBy 65 = .ok (.iload 6, 2) := by decide +kernel
theorem dX6_scoreBy_67 : decode cX6_scoreBy 67 = .ok (.iaload, 1) := by decide +kernel
theorem dX6_scoreBy_68 : decode cX6_scoreBy 68 = .ok (.aload_n 0, 1) := by decide +kernel
theorem dX6_scoreBy_69 : decode cX6_scoreBy 69 = .ok (.getfield 13, 3) := by decide +kernel
theorem dX6_scoreBy_72 : decode cX6_scoreBy 72 = .ok (.iload 6, 2) := by decide +kernel
theorem dX6_scoreBy_74 : decode cX6_scoreBy 74 = .ok (.iaload, 1) := by decide +kernel
theorem dX6_scoreBy_75 : decode cX6_scoreBy 75 = .ok (.if_icmp .ne 13, 3) := by decide +kernel
theorem dX6_scoreBy_78 : decode cX6_scoreBy 78 = .ok (.iconst 1, 1) := by decide +kernel
theorem dX6_scoreBy_79 : decode cX6_scoreBy 79 = .ok (.bipush 12, 2) := by decide +kernel
theorem dX6_scoreBy_81 : decode cX6_scoreBy 81 = .ok (.iload 7, 2) := by decide +kernel
theorem dX6_scoreBy_83 : decode cX6_scoreBy 83 = .ok (.isub, 1) := by decide +kernel
theorem dX6_scoreBy_84 : decode cX6_scoreBy 84 = .ok (.ishl, 1) := by decide +kernel
theorem dX6_scoreBy_85 : decode cX6_scoreBy 85 = .ok (.goto 4, 3) := by decide +kernel
theorem dX6_scoreBy_88 : decode cX6_scoreBy 88 = .ok (.iconst 0, 1) := by decide +kernel
theorem dX6_scoreBy_89 : decode cX6_scoreBy 89 = .ok (.iadd, 1) := by decide +kernel
theorem dX6_scoreBy_90 : decode cX6_scoreBy 90 = .ok (.istore 5, 2) := by decide +kernel
theorem dX6_scoreBy_92 : decode cX6_scoreBy 92 = .ok (.iinc 6 1, 3) := by decide +kernel
theorem dX6_scoreBy_95 : decode cX6_scoreBy 95 = .ok (.goto (-80), 3) := by decide +kernel
theorem dX6_scoreBy_98 : decode cX6_scoreBy 98 = .ok (.iload 5, 2) := by decide +kernel
theorem dX6_scoreBy_100 : decode cX6_scoreBy 100 = .ok (.ireturn, 1) := by decide +kernel
theorem dX6_bitsOf_0 : decode cX6_bitsOf 0 = .ok (.iload_n 0, 1) := by decide +kernel
theorem dX6_bitsOf_1 : decode cX6_bitsOf 1 = .ok (.ifCond .ne 5, 3) := by decide +kernel
theorem dX6_bitsOf_4 : decode cX6_bitsOf 4 = .ok (.iconst 0, 1) := by decide +kernel
theorem dX6_bitsOf_5 : decode cX6_bitsOf 5 = .ok (.ireturn, 1) := by decide +kernel
theorem dX6_bitsOf_6 : decode cX6_bitsOf 6 = .ok (.iconst 0, 1) := by decide +kernel
theorem dX6_bitsOf_7 : decode cX6_bitsOf 7 = .ok (.istore_n 1, 1) := by decide +kernel
theorem dX6_bitsOf_8 : decode cX6_bitsOf 8 = .ok (.iload_n 0, 1) := by decide +kernel
theorem dX6_bitsOf_9 : decode cX6_bitsOf 9 = .ok (.iload_n 1, 1) := by decide +kernel
theorem dX6_bitsOf_10 : decode cX6_bitsOf 10 = .ok (.iconst 1, 1) := by decide +kernel
theorem dX6_bitsOf_11 : decode cX6_bitsOf 11 = .ok (.iadd, 1) := by decide +kernel
theorem dX6_bitsOf_12 : decode cX6_bitsOf 12 = .ok (.ishr, 1) := by decide +kernel
theorem dX6_bitsOf_13 : decode cX6_bitsOf 13 = .ok (.ifCond .le 9, 3) := by decide +kernel
theorem dX6_bitsOf_16 : decode cX6_bitsOf 16 = .ok (.iinc 1 1, 3) := by decide +kernel
theorem dX6_bitsOf_19 : decode cX6_bitsOf 19 = .ok (.goto (-11), 3) := by decide +kernel
theorem dX6_bitsOf_22 : decode cX6_bitsOf 22 = .ok (.bipush 127, 2) := by decide +kernel
theorem dX6_bitsOf_24 : decode cX6_bitsOf 24 = .ok (.iload_n 1, 1) := by decide +kernel
theorem dX6_bitsOf_25 : decode cX6_bitsOf 25 = .ok (.iadd, 1) := by decide +kernel
theorem dX6_bitsOf_26 : decode cX6_bitsOf 26 = .ok (.bipush 12, 2) := by decide +kernel
theorem dX6_bitsOf_28 : decode cX6_bitsOf 28 = .ok (.isub, 1) := by decide +kernel
theorem dX6_bitsOf_29 : decode cX6_bitsOf 29 = .ok (.bipush 23, 2) := by decide +kernel
theorem dX6_bitsOf_31 : decode cX6_bitsOf 31 = .ok (.ishl, 1) := by decide +kernel
theorem dX6_bitsOf_32 : decode cX6_bitsOf 32 = .ok (.iload_n 0, 1) := by decide +kernel
theorem dX6_bitsOf_33 : decode cX6_bitsOf 33 = .ok (.bipush 23, 2) := by decide +kernel
theorem dX6_bitsOf_35 : decode cX6_bitsOf 35 = .ok (.iload_n 1, 1) := by decide +kernel
theorem dX6_bitsOf_36 : decode cX6_bitsOf 36 = .ok (.isub, 1) := by decide +kernel
theorem dX6_bitsOf_37 : decode cX6_bitsOf 37 = .ok (.ishl, 1) := by decide +kernel
theorem dX6_bitsOf_38 : decode cX6_bitsOf 38 = .ok (.ldc 156, 2) := by decide +kernel
theorem dX6_bitsOf_40 : decode cX6_bitsOf 40 = .ok (.iand, 1) := by decide +kernel
theorem dX6_bitsOf_41 : decode cX6_bitsOf 41 = .ok (.ior, 1) := by decide +kernel
theorem dX6_bitsOf_42 : decode cX6_bitsOf 42 = .ok (.ireturn, 1) := by decide +kernel
set_option maxRecDepth 20000 in
theorem ggX6_score_X6_isStyle : GoodIn wsX6_score wsX6_isStyle := goodIn_r _ [4, 5, 6, 3, 7, 8, 9, 10] (by decide +kernel) (by decide +kernel)
set_option maxRecDepth 20000 in
theorem gX6_score_X6_isStyle : GoodIn wsX6_score (va_wsS RX6 152 yX6_isStyle wsX6_isStyle) := goodIn_app (goodIn_of _ (by decide +kernel)) ggX6_score_X6_isStyle
set_option maxRecDepth 20000 in
theorem ggX6_score_X6_within : GoodIn wsX6_score wsX6_within := goodIn_r _ [10] (by decide +kernel) (by decide +kernel)
set_option maxRecDepth 20000 in
theorem gX6_score_X6_within : GoodIn wsX6_score (va_wsS RX6 77 yX6_within wsX6_within) := goodIn_app (goodIn_of _ (by decide +kernel)) ggX6_score_X6_within
set_option maxRecDepth 20000 in
theorem ggX6_score_X6_scoreBy : GoodIn wsX6_score wsX6_scoreBy := goodIn_r _ [14, 15, 16, 17, 18, 19, 20, 21, 3, 22, 23, 24, 25, 26, 27, 28, 29, 30, 31, 32, 33, 34, 35, 36, 37, 38, 39, 40, 41, 42, 43, 44, 45, 46, 47, 48, 49, 50, 51, 52, 53, 54, 55, 56, 57, 58, 59, 60, 61, 62, 63, 64, 65, 66, 67, 68, 69, 70, 71, 72, 77, 78, 79, 80, 81, 82, 83, 84, 85, 86, 87, 88, 89, 90, 91, 92, 93, 94, 95, 96, 97, 98, 99, 100, 101] (by decide +kernel) (by decide +kernel)
set_option maxRecDepth 20000 in
theorem gX6_score_X6_scoreBy : GoodIn wsX6_score (wsV RX6 157 RX6 yX6_scoreBy wsX6_scoreBy) := goodIn_app (goodIn_of _ (by decide +kernel)) ggX6_score_X6_scoreBy
set_option maxRecDepth 20000 in
theorem ggX6_score_X6_bitsOf : GoodIn wsX6_score wsX6_bitsOf := goodIn_r _ [75, 76] (by decide +kernel) (by decide +kernel)
set_option maxRecDepth 20000 in
theorem gX6_score_X6_bitsOf : GoodIn wsX6_score (va_wsS RX6 161 yX6_bitsOf wsX6_bitsOf) := goodIn_app (goodIn_of _ (by decide +kernel)) ggX6_score_X6_bitsOf
theorem dX6_score_0 : decode cX6_score 0 = .ok (.iload_n 1, 1) := by decide +kernel
theorem dX6_score_1 : decode cX6_score 1 = .ok (.iload_n 2, 1) := by decide +kernel
theorem dX6_score_2 : decode cX6_score 2 = .ok (.iload_n 3, 1) := by decide +kernel
theorem dX6_score_3 : decode cX6_score 3 = .ok (.iload 4, 2) := by decide +kernel
theorem dX6_score_5 : decode cX6_score 5 = .ok (.invokestatic 152, 3) := by decide +kernel
theorem dX6_score_8 : decode cX6_score 8 = .ok (.ifCond .eq 13, 3) := by decide +kernel
theorem dX6_score_11 : decode cX6_score 11 = .ok (.iload 5, 2) := by decide +kernel
theorem dX6_score_13 : decode cX6_score 13 = .ok (.iconst 0, 1) := by decide +kernel
theorem dX6_score_14 : decode cX6_score 14 = .ok (.iconst 1, 1) := by decide +kernel
theorem dX6_score_15 : decode cX6_score 15 = .ok (.invokestatic 77, 3) := by decide +kernel
theorem dX6_score_18 : decode cX6_score 18 = .ok (.ifCond .ne 6, 3) := by decide +kernel
theorem dX6_score_21 : decode cX6_score 21 = .ok (.bipush (-2), 2) := by decide +kernel
theorem dX6_score_23 : decode cX6_score 23 = .ok (.ireturn, 1) := by decide +kernel
theorem dX6_score_24 : decode cX6_score 24 = .ok (.aload_n 0, 1) := by decide +kernel
theorem dX6_score_25 : decode cX6_score 25 = .ok (.iload_n 1, 1) := by decide +kernel
theorem dX6_score_26 : decode cX6_score 26 = .ok (.iload_n 2, 1) := by decide +kernel
theorem dX6_score_27 : decode cX6_score 27 = .ok (.iload_n 3, 1) := by decide +kernel
theorem dX6_score_28 : decode cX6_score 28 = .ok (.iload 4, 2) := by decide +kernel
theorem dX6_score_30 : decode cX6_score 30 = .ok (.invokevirtual 157, 3) := by decide +kernel
theorem dX6_score_33 : decode cX6_score 33 = .ok (.istore 6, 2) := by decide +kernel
theorem dX6_score_35 : decode cX6_score 35 = .ok (.iload 5, 2) := by decide +kernel
theorem dX6_score_37 : decode cX6_score 37 = .ok (.ifCond .ne 11, 3) := by decide +kernel
theorem dX6_score_40 : decode cX6_score 40 = .ok (.iload 6, 2) := by decide +kernel
theorem dX6_score_42 : decode cX6_score 42 = .ok (.invokestatic 161, 3) := by decide +kernel
theorem dX6_score_45 : decode cX6_score 45 = .ok (.goto 13, 3) := by decide +kernel
theorem dX6_score_48 : decode cX6_score 48 = .ok (.iload 6, 2) := by decide +kernel
theorem dX6_score_50 : decode cX6_score 50 = .ok (.sipush 1000, 3) := by decide +kernel
theorem dX6_score_53 : decode cX6_score 53 = .ok (.imul, 1) := by decide +kernel
theorem dX6_score_54 : decode cX6_score 54 = .ok (.sipush 4096, 3) := by decide +kernel
theorem dX6_score_57 : decode cX6_score 57 = .ok (.idiv, 1) := by decide +kernel
theorem dX6_score_58 : decode cX6_score 58 = .ok (.ireturn, 1) := by decide +kernel
set_option maxRecDepth 20000 in
theorem ggX6_guesses_X6_counts : GoodIn wsX6_guesses wsX6_counts := goodIn_r _ [7, 8, 9, 65, 66, 67, 68, 69, 70, 71, 72, 73, 74, 75, 76, 77, 78, 79, 80, 81, 82, 83, 84, 85, 86, 87, 88, 89] (by decide +kernel) (by decide +kernel)
set_option maxRecDepth 20000 in
theorem gX6_guesses_X6_counts : GoodIn wsX6_guesses (wsV RX6 149 RX6 yX6_counts wsX6_counts) := goodIn_app (goodIn_of _ (by decide +kernel)) ggX6_guesses_X6_counts
set_option maxRecDepth 20000 in
theorem ggX6_guesses_X6_scoreBy : GoodIn wsX6_guesses wsX6_scoreBy := goodIn_r _ [13, 1, 14, 15, 8, 16, 17, 18, 6, 19, 20, 21, 22, 23, 24, 25, 26, 27, 9, 28, 29, 30, 31, 32, 33, 34, 35, 36, 37, 38, 39, 40, 41, 42, 43, 44, 45, 46, 47, 48, 49, 50, 51, 52, 53, 54, 55, 56, 57, 58, 59, 60, 61, 62, 63, 64, 3, 4, 5, 7, 65, 66, 67, 68, 69, 70, 71, 72, 73, 74, 75, 76, 77, 78, 79, 80, 81, 82, 83, 84, 85, 86, 87, 88, 89] (by decide +kernel) (by decide +kernel)
set_option maxRecDepth 20000 in
theorem gX6_guesses_X6_scoreBy : GoodIn wsX6_guesses (wsV RX6 157 RX6 yX6_scoreBy wsX6_scoreBy) := goodIn_app (goodIn_of _ (by decide +kernel)) ggX6_guesses_X6_scoreBy
theorem dX6_guesses_0 : decode cX6_guesses 0 = .ok (.iconst 0, 1) := by decide +kernel
theorem dX6_guesses_1 : decode cX6_guesses 1 = .ok (.istore_n 1, 1) := by decide +kernel
theorem dX6_guesses_2 : decode cX6_guesses 2 = .ok (.iconst 0, 1) := by decide +kernel
theorem dX6_guesses_3 : decode cX6_guesses 3 = .ok (.istore_n 2, 1) := by decide +kernel
theorem dX6_guesses_4 : decode cX6_guesses 4 = .ok (.iload_n 2, 1) := by decide +kernel
theorem dX6_guesses_5 : decode cX6_guesses 5 = .ok (.aload_n 0, 1) := by decide +kernel
theorem dX6_guesses_6 : decode cX6_guesses 6 = .ok (.getfield 73, 3) := by decide +kernel
theorem dX6_guesses_9 : decode cX6_guesses 9 = .ok (.if_icmp .ge 27, 3) := by decide +kernel
theorem dX6_guesses_12 : decode cX6_guesses 12 = .ok (.iload_n 1, 1) := by decide +kernel
theorem dX6_guesses_13 : decode cX6_guesses 13 = .ok (.ifCond .ne 11, 3) := by decide +kernel
theorem dX6_guesses_16 : decode cX6_guesses 16 = .ok (.aload_n 0, 1) := by decide +kernel
theorem dX6_guesses_17 : decode cX6_guesses 17 = .ok (.iload_n 2, 1) := by decide +kernel
theorem dX6_guesses_18 : decode cX6_guesses 18 = .ok (.invokevirtual 149, 3) := by decide +kernel
theorem dX6_guesses_21 : decode cX6_guesses 21 = .ok (.ifCond .eq 7, 3) := by decide +kernel
theorem dX6_guesses_24 : decode cX6_guesses 24 = .ok (.iconst 1, 1) := by decide +kernel
theorem dX6_guesses_25 : decode cX6_guesses 25 = .ok (.goto 4, 3) := by decide +kernel
theorem dX6_guesses_28 : decode cX6_guesses 28 = .ok (.iconst 0, 1) := by decide +kernel
theorem dX6_guesses_29 : decode cX6_guesses 29 = .ok (.istore_n 1, 1) := by decide +kernel
theorem dX6_guesses_30 : decode cX6_guesses 30 = .ok (.iinc 2 1, 3) := by decide +kernel
theorem dX6_guesses_33 : decode cX6_guesses 33 = .ok (.goto (-29), 3) := by decide +kernel
theorem dX6_guesses_36 : decode cX6_guesses 36 = .ok (.aload_n 0, 1) := by decide +kernel
theorem dX6_guesses_37 : decode cX6_guesses 37 = .ok (.getfield 55, 3) := by decide +kernel
theorem dX6_guesses_40 : decode cX6_guesses 40 = .ok (.iconst 4, 1) := by decide +kernel
theorem dX6_guesses_41 : decode cX6_guesses 41 = .ok (.iconst (-1), 1) := by decide +kernel
theorem dX6_guesses_42 : decode cX6_guesses 42 = .ok (.iastore, 1) := by decide +kernel
theorem dX6_guesses_43 : decode cX6_guesses 43 = .ok (.iconst 0, 1) := by decide +kernel
theorem dX6_guesses_44 : decode cX6_guesses 44 = .ok (.istore_n 2, 1) := by decide +kernel
theorem dX6_guesses_45 : decode cX6_guesses 45 = .ok (.iload_n 2, 1) := by decide +kernel
theorem dX6_guesses_46 : decode cX6_guesses 46 = .ok (.sipush 256, 3) := by decide +kernel
theorem dX6_guesses_49 : decode cX6_guesses 49 = .ok (.if_icmp .ge 99, 3) := by decide +kernel
theorem dX6_guesses_52 : decode cX6_guesses 52 = .ok (.aload_n 0, 1) := by decide +kernel
theorem dX6_guesses_53 : decode cX6_guesses 53 = .ok (.iconst 1, 1) := by decide +kernel
theorem dX6_guesses_54 : decode cX6_guesses 54 = .ok (.iload_n 2, 1) := by decide +kernel
theorem dX6_guesses_55 : decode cX6_guesses 55 = .ok (.bipush 32, 2) := by decide +kernel
theorem dX6_guesses_57 : decode cX6_guesses 57 = .ok (.idiv, 1) := by decide +kernel
theorem dX6_guesses_58 : decode cX6_guesses 58 = .ok (.iadd, 1) := by decide +kernel
theorem dX6_guesses_59 : decode cX6_guesses 59 = .ok (.iconst 1, 1) := by decide +kernel
theorem dX6_guesses_60 : decode cX6_guesses 60 = .ok (.iload_n 2, 1) := by decide +kernel
theorem dX6_guesses_61 : decode cX6_guesses 61 = .ok (.iconst 4, 1) := by decide +kernel
theorem dX6_guesses_62 : decode cX6_guesses 62 = .ok (.idiv, 1) := by decide +kernel
theorem dX6_guesses_63 : decode cX6_guesses 63 = .ok (.bipush 8, 2) := by decide +kernel
theorem dX6_guesses_65 : decode cX6_guesses 65 = .ok (.irem, 1) := by decide +kernel
theorem dX6_guesses_66 : decode cX6_guesses 66 = .ok (.iadd, 1) := by decide +kernel
theorem dX6_guesses_67 : decode cX6_guesses 67 = .ok (.iload_n 2, 1) := by decide +kernel
theorem dX6_guesses_68 : decode cX6_guesses 68 = .ok (.iconst 2, 1) := by decide +kernel
theorem dX6_guesses_69 : decode cX6_guesses 69 = .ok (.idiv, 1) := by decide +kernel
theorem dX6_guesses_70 : decode cX6_guesses 70 = .ok (.iconst 2, 1) := by decide +kernel
theorem dX6_guesses_71 : decode cX6_guesses 71 = .ok (.irem, 1) := by decide +kernel
theorem dX6_guesses_72 : decode cX6_guesses 72 = .ok (.iload_n 2, 1) := by decide +kernel
theorem dX6_guesses_73 : decode cX6_guesses 73 = .ok (.iconst 2, 1) := by decide +kernel
theorem dX6_guesses_74 : decode cX6_guesses 74 = .ok (.irem, 1) := by decide +kernel
theorem dX6_guesses_75 : decode cX6_guesses 75 = .ok (.invokevirtual 157, 3) := by decide +kernel
theorem dX6_guesses_78 : decode cX6_guesses 78 = .ok (.istore_n 3, 1) := by decide +kernel
theorem dX6_guesses_79 : decode cX6_guesses 79 = .ok (.iload_n 3, 1) := by decide +kernel
theorem dX6_guesses_80 : decode cX6_guesses 80 = .ok (.aload_n 0, 1) := by decide +kernel
theorem dX6_guesses_81 : decode cX6_guesses 81 = .ok (.getfield 55, 3) := by decide +kernel
theorem dX6_guesses_84 : decode cX6_guesses 84 = .ok (.iconst 4, 1) := by decide +kernel
theorem dX6_guesses_85 : decode cX6_guesses 85 = .ok (.iaload, 1) := by decide +kernel
theorem dX6_guesses_86 : decode cX6_guesses 86 = .ok (.if_icmp .le 56, 3) := by decide +kernel
theorem dX6_guesses_89 : decode cX6_guesses 89 = .ok (.aload_n 0, 1) := by decide +kernel
theorem dX6_guesses_90 : decode cX6_guesses 90 = .ok (.getfield 55, 3) := by decide +kernel
theorem dX6_guesses_93 : decode cX6_guesses 93 = .ok (.iconst 0, 1) := by decide +kernel
theorem dX6_guesses_94 : decode cX6_guesses 94 = .ok (.iconst 1, 1) := by decide +kernel
theorem dX6_guesses_95 : decode cX6_guesses 95 = .ok (.iload_n 2, 1) := by decide +kernel
theorem dX6_guesses_96 : decode cX6_guesses 96 = .ok (.bipush 32, 2) := by decide +kernel
theorem dX6_guesses_98 : decode cX6_guesses 98 = .ok (.idiv, 1) := by decide +kernel
theorem dX6_guesses_99 : decode cX6_guesses 99 = .ok (.iadd, 1) := by decide +kernel
theorem dX6_guesses_100 : decode cX6_guesses 100 = .ok (.iastore, 1) := by decide +kernel
theorem dX6_guesses_101 : decode cX6_guesses 101 = .ok (.aload_n 0, 1) := by decide +kernel
theorem dX6_guesses_102 : decode cX6_guesses 102 = .ok (.getfield 55, 3) := by decide +kernel
theorem dX6_guesses_105 : decode cX6_guesses 105 = .ok (.iconst 1, 1) := by decide +kernel
theorem dX6_guesses_106 : decode cX6_guesses 106 = .ok (.iconst 1, 1) := by decide +kernel
theorem dX6_guesses_107 : decode cX6_guesses 107 = .ok (.iload_n 2, 1) := by decide +kernel
theorem dX6_guesses_108 : decode cX6_guesses 108 = .ok (.iconst 4, 1) := by decide +kernel
theorem dX6_guesses_109 : decode cX6_guesses 109 = .ok (.idiv, 1) := by decide +kernel
theorem dX6_guesses_110 : decode cX6_guesses 110 = .ok (.bipush 8, 2) := by decide +kernel
theorem dX6_guesses_112 : decode cX6_guesses 112 = .ok (.irem, 1) := by decide +kernel
theorem dX6_guesses_113 : decode cX6_guesses 113 = .ok (.iadd, 1) := by decide +kernel
theorem dX6_guesses_114 : decode cX6_guesses 114 = .ok (.iastore, 1) := by decide +kernel
theorem dX6_guesses_115 : decode cX6_guesses 115 = .ok (.aload_n 0, 1) := by decide +kernel
theorem dX6_guesses_116 : decode cX6_guesses 116 = .ok (.getfield 55, 3) := by decide +kernel
theorem dX6_guesses_119 : decode cX6_guesses 119 = .ok (.iconst 2, 1) := by decide +kernel
theorem dX6_guesses_120 : decode cX6_guesses 120 = .ok (.iload_n 2, 1) := by decide +kernel
theorem dX6_guesses_121 : decode cX6_guesses 121 = .ok (.iconst 2, 1) := by decide +kernel
theorem dX6_guesses_122 : decode cX6_guesses 122 = .ok (.idiv, 1) := by decide +kernel
theorem dX6_guesses_123 : decode cX6_guesses 123 = .ok (.iconst 2, 1) := by decide +kernel
theorem dX6_guesses_124 : decode cX6_guesses 124 = .ok (.irem, 1) := by decide +kernel
theorem dX6_guesses_125 : decode cX6_guesses 125 = .ok (.iastore, 1) := by decide +kernel
theorem dX6_guesses_126 : decode cX6_guesses 126 = .ok (.aload_n 0, 1) := by decide +kernel
theorem dX6_guesses_127 : decode cX6_guesses 127 = .ok (.getfield 55, 3) := by decide +kernel
theorem dX6_guesses_130 : decode cX6_guesses 130 = .ok (.iconst 3, 1) := by decide +kernel
theorem dX6_guesses_131 : decode cX6_guesses 131 = .ok (.iload_n 2, 1) := by decide +kernel
theorem dX6_guesses_132 : decode cX6_guesses 132 = .ok (.iconst 2, 1) := by decide +kernel
theorem dX6_guesses_133 : decode cX6_guesses 133 = .ok (.irem, 1) := by decide +kernel
theorem dX6_guesses_134 : decode cX6_guesses 134 = .ok (.iastore, 1) := by decide +kernel
theorem dX6_guesses_135 : decode cX6_guesses 135 = .ok (.aload_n 0, 1) := by decide +kernel
theorem dX6_guesses_136 : decode cX6_guesses 136 = .ok (.getfield 55, 3) := by decide +kernel
theorem dX6_guesses_139 : decode cX6_guesses 139 = .ok (.iconst 4, 1) := by decide +kernel
theorem dX6_guesses_140 : decode cX6_guesses 140 = .ok (.iload_n 3, 1) := by decide +kernel
theorem dX6_guesses_141 : decode cX6_guesses 141 = .ok (.iastore, 1) := by decide +kernel
theorem dX6_guesses_142 : decode cX6_guesses 142 = .ok (.iinc 2 1, 3) := by decide +kernel
theorem dX6_guesses_145 : decode cX6_guesses 145 = .ok (.goto (-100), 3) := by decide +kernel
theorem dX6_guesses_148 : decode cX6_guesses 148 = .ok (.iload_n 1, 1) := by decide +kernel
theorem dX6_guesses_149 : decode cX6_guesses 149 = .ok (.ireturn, 1) := by decide +kernel
set_option maxRecDepth 20000 in
theorem ggX6_guess_X6_within : GoodIn wsX6_guess wsX6_within := goodIn_r _ [5] (by decide +kernel) (by decide +kernel)
set_option maxRecDepth 20000 in
theorem gX6_guess_X6_within : GoodIn wsX6_guess (va_wsS RX6 77 yX6_within wsX6_within) := goodIn_app (goodIn_of _ (by decide +kernel)) ggX6_guess_X6_within
set_option maxRecDepth 20000 in
theorem ggX6_guess_X6_guesses : GoodIn wsX6_guess wsX6_guesses := goodIn_r _ [9, 10, 1, 11, 12, 13, 4, 14, 15, 16, 17, 18, 19, 20, 21, 22, 23, 24, 25, 26, 27, 28, 29, 30, 31, 32, 33, 34, 35, 36, 37, 38, 39, 40, 41, 42, 43, 44, 45, 46, 47, 48, 49, 50, 51, 52, 53, 54, 55, 56, 57, 58, 59, 60, 61, 62, 63, 64, 65, 66, 67, 68, 69, 70, 71, 76, 77, 78, 79, 80, 81, 82, 83, 84, 85, 86, 87, 88, 89, 90, 91, 92, 93, 94, 95, 96, 97, 98, 99, 100] (by decide +kernel) (by decide +kernel)
set_option maxRecDepth 20000 in
theorem gX6_guess_X6_guesses : GoodIn wsX6_guess (wsV RX6 164 RX6 yX6_guesses wsX6_guesses) := goodIn_app (goodIn_of _ (by decide +kernel)) ggX6_guess_X6_guesses
set_option maxRecDepth 20000 in
theorem ggX6_guess_X6_bitsOf : GoodIn wsX6_guess wsX6_bitsOf := goodIn_r _ [74, 75] (by decide +kernel) (by decide +kernel)
set_option maxRecDepth 20000 in
theorem gX6_guess_X6_bitsOf : GoodIn wsX6_guess (va_wsS RX6 161 yX6_bitsOf wsX6_bitsOf) := goodIn_app (goodIn_of _ (by decide +kernel)) ggX6_guess_X6_bitsOf
theorem dX6_guess_0 : decode cX6_guess 0 = .ok (.iload_n 1, 1) := by decide +kernel
theorem dX6_guess_1 : decode cX6_guess 1 = .ok (.iconst 0, 1) := by decide +kernel
theorem dX6_guess_2 : decode cX6_guess 2 = .ok (.iconst 4, 1) := by decide +kernel
theorem dX6_guess_3 : decode cX6_guess 3 = .ok (.invokestatic 77, 3) := by decide +kernel
theorem dX6_guess_6 : decode cX6_guess 6 = .ok (.ifCond .ne 6, 3) := by decide +kernel
theorem dX6_guess_9 : decode cX6_guess 9 = .ok (.bipush (-2), 2) := by decide +kernel
theorem dX6_guess_11 : decode cX6_guess 11 = .ok (.ireturn, 1) := by decide +kernel
theorem dX6_guess_12 : decode cX6_guess 12 = .ok (.aload_n 0, 1) := by decide +kernel
theorem dX6_guess_13 : decode cX6_guess 13 = .ok (.invokevirtual 164, 3) := by decide +kernel
theorem dX6_guess_16 : decode cX6_guess 16 = .ok (.ifCond .ne 6, 3) := by decide +kernel
theorem dX6_guess_19 : decode cX6_guess 19 = .ok (.bipush (-3), 2) := by decide +kernel
theorem dX6_guess_21 : decode cX6_guess 21 = .ok (.ireturn, 1) := by decide +kernel
theorem dX6_guess_22 : decode cX6_guess 22 = .ok (.iload_n 1, 1) := by decide +kernel
theorem dX6_guess_23 : decode cX6_guess 23 = .ok (.iconst 4, 1) := by decide +kernel
theorem dX6_guess_24 : decode cX6_guess 24 = .ok (.if_icmp .ge 12, 3) := by decide +kernel
theorem dX6_guess_27 : decode cX6_guess 27 = .ok (.aload_n 0, 1) := by decide +kernel
theorem dX6_guess_28 : decode cX6_guess 28 = .ok (.getfield 55, 3) := by decide +kernel
theorem dX6_guess_31 : decode cX6_guess 31 = .ok (.iload_n 1, 1) := by decide +kernel
theorem dX6_guess_32 : decode cX6_guess 32 = .ok (.iaload, 1) := by decide +kernel
theorem dX6_guess_33 : decode cX6_guess 33 = .ok (.goto 12, 3) := by decide +kernel
theorem dX6_guess_36 : decode cX6_guess 36 = .ok (.aload_n 0, 1) := by decide +kernel
theorem dX6_guess_37 : decode cX6_guess 37 = .ok (.getfield 55, 3) := by decide +kernel
theorem dX6_guess_40 : decode cX6_guess 40 = .ok (.iconst 4, 1) := by decide +kernel
theorem dX6_guess_41 : decode cX6_guess 41 = .ok (.iaload, 1) := by decide +kernel
theorem dX6_guess_42 : decode cX6_guess 42 = .ok (.invokestatic 161, 3) := by decide +kernel
theorem dX6_guess_45 : decode cX6_guess 45 = .ok (.ireturn, 1) := by decide +kernel
set_option maxRecDepth 20000 in
theorem ggX6_follow_X6_guesses : GoodIn wsX6_follow wsX6_guesses := goodIn_r _ [7, 8, 2, 9, 10, 11, 6, 12, 13, 14, 15, 16, 17, 18, 19, 20, 21, 22, 23, 24, 25, 26, 27, 28, 29, 30, 31, 32, 33, 34, 35, 36, 37, 38, 39, 40, 41, 42, 43, 44, 45, 46, 47, 48, 49, 50, 51, 52, 53, 54, 55, 56, 57, 58, 59, 60, 61, 62, 63, 64, 65, 66, 67, 68, 69, 83, 84, 85, 86, 87, 88, 89, 90, 91, 92, 93, 94, 95, 96, 97, 98, 99, 100, 101, 102, 103, 104, 105, 106, 107] (by decide +kernel) (by decide +kernel)
set_option maxRecDepth 20000 in
theorem gX6_follow_X6_guesses : GoodIn wsX6_follow (wsV RX6 164 RX6 yX6_guesses wsX6_guesses) := goodIn_app (goodIn_of _ (by decide +kernel)) ggX6_follow_X6_guesses
set_option maxRecDepth 20000 in
theorem ggX6_follow_X6_notes : GoodIn wsX6_follow wsX6_notes := goodIn_r _ [73, 8, 74, 20, 75, 76, 77, 6, 78, 1, 21, 22, 23, 24, 25, 26, 27, 28, 29, 30, 31, 32, 14, 19, 33, 34, 35, 36, 37, 38, 39, 40, 41, 42, 43, 44, 45, 46, 47, 48, 49, 50, 51, 52, 53, 54, 55, 56, 57, 58, 59, 60, 61, 62, 63, 64, 65, 66, 67, 68, 69, 83, 84, 85, 86, 87, 88, 89, 90, 91, 92, 93, 94, 95, 96, 97, 98, 99, 100, 101, 102, 103, 104, 105, 106, 107] (by decide +kernel) (by decide +kernel)
set_option maxRecDepth 20000 in
theorem gX6_follow_X6_notes : GoodIn wsX6_follow (wsV RX6 133 RX6 yX6_notes wsX6_notes) := goodIn_app (goodIn_of _ (by decide +kernel)) ggX6_follow_X6_notes
set_option maxRecDepth 20000 in
theorem ggX6_follow_X6_moved : GoodIn wsX6_follow wsX6_moved := goodIn_r _ [82, 8, 20, 74, 75, 76, 77, 6, 78, 1, 21, 22, 23, 24, 25, 26, 27, 28, 29, 30, 31, 32, 14, 19, 33, 34, 35, 36, 37, 38, 39, 40, 41, 42, 43, 44, 45, 46, 47, 48, 49, 50, 51, 52, 53, 54, 55, 56, 57, 58, 59, 60, 61, 62, 63, 64, 65, 66, 67, 68, 69, 83, 84, 85, 86, 87, 88, 89, 90, 91, 92, 93, 94, 95, 96, 97, 98, 99, 100, 101, 102, 103, 104, 105, 106, 107] (by decide +kernel) (by decide +kernel)
set_option maxRecDepth 20000 in
theorem gX6_follow_X6_moved : GoodIn wsX6_follow (wsV RX6 136 RX6 yX6_moved wsX6_moved) := goodIn_app (goodIn_of _ (by decide +kernel)) ggX6_follow_X6_moved
theorem dX6_follow_0 : decode cX6_follow 0 = .ok (.aload_n 0, 1) := by decide +kernel
theorem dX6_follow_1 : decode cX6_follow 1 = .ok (.invokevirtual 164, 3) := by decide +kernel
theorem dX6_follow_4 : decode cX6_follow 4 = .ok (.ifCond .ne 6, 3) := by decide +kernel
theorem dX6_follow_7 : decode cX6_follow 7 = .ok (.bipush (-3), 2) := by decide +kernel
theorem dX6_follow_9 : decode cX6_follow 9 = .ok (.ireturn, 1) := by decide +kernel
theorem dX6_follow_10 : decode cX6_follow 10 = .ok (.aload_n 0, 1) := by decide +kernel
theorem dX6_follow_11 : decode cX6_follow 11 = .ok (.invokevirtual 133, 3) := by decide +kernel
theorem dX6_follow_14 : decode cX6_follow 14 = .ok (.iconst 0, 1) := by decide +kernel
theorem dX6_follow_15 : decode cX6_follow 15 = .ok (.istore_n 1, 1) := by decide +kernel
theorem dX6_follow_16 : decode cX6_follow 16 = .ok (.iload_n 1, 1) := by decide +kernel
theorem dX6_follow_17 : decode cX6_follow 17 = .ok (.iconst 4, 1) := by decide +kernel
theorem dX6_follow_18 : decode cX6_follow 18 = .ok (.if_icmp .ge 21, 3) := by decide +kernel
theorem dX6_follow_21 : decode cX6_follow 21 = .ok (.aload_n 0, 1) := by decide +kernel
theorem dX6_follow_22 : decode cX6_follow 22 = .ok (.getfield 16, 3) := by decide +kernel
theorem dX6_follow_25 : decode cX6_follow 25 = .ok (.iload_n 1, 1) := by decide +kernel
theorem dX6_follow_26 : decode cX6_follow 26 = .ok (.aload_n 0, 1) := by decide +kernel
theorem dX6_follow_27 : decode cX6_follow 27 = .ok (.getfield 55, 3) := by decide +kernel
theorem dX6_follow_30 : decode cX6_follow 30 = .ok (.iload_n 1, 1) := by decide +kernel
theorem dX6_follow_31 : decode cX6_follow 31 = .ok (.iaload, 1) := by decide +kernel
theorem dX6_follow_32 : decode cX6_follow 32 = .ok (.iastore, 1) := by decide +kernel
theorem dX6_follow_33 : decode cX6_follow 33 = .ok (.iinc 1 1, 3) := by decide +kernel
theorem dX6_follow_36 : decode cX6_follow 36 = .ok (.goto (-20), 3) := by decide +kernel
theorem dX6_follow_39 : decode cX6_follow 39 = .ok (.aload_n 0, 1) := by decide +kernel
theorem dX6_follow_40 : decode cX6_follow 40 = .ok (.bipush (-9), 2) := by decide +kernel
theorem dX6_follow_42 : decode cX6_follow 42 = .ok (.invokevirtual 136, 3) := by decide +kernel
theorem dX6_follow_45 : decode cX6_follow 45 = .ok (.ireturn, 1) := by decide +kernel
set_option maxRecDepth 20000 in
theorem ggX6_isPocket_X6_within : GoodIn wsX6_isPocket wsX6_within := goodIn_r _ [4] (by decide +kernel) (by decide +kernel)
set_option maxRecDepth 20000 in
theorem gX6_isPocket_X6_within : GoodIn wsX6_isPocket (va_wsS RX6 77 yX6_within wsX6_within) := goodIn_app (goodIn_of _ (by decide +kernel)) ggX6_isPocket_X6_within
theorem dX6_isPocket_0 : decode cX6_isPocket 0 = .ok (.iload_n 0, 1) := by decide +kernel
theorem dX6_isPocket_1 : decode cX6_isPocket 1 = .ok (.iconst 0, 1) := by decide +kernel
theorem dX6_isPocket_2 : decode cX6_isPocket 2 = .ok (.iconst 2, 1) := by decide +kernel
theorem dX6_isPocket_3 : decode cX6_isPocket 3 = .ok (.invokestatic 77, 3) := by decide +kernel
theorem dX6_isPocket_6 : decode cX6_isPocket 6 = .ok (.ireturn, 1) := by decide +kernel
set_option maxRecDepth 20000 in
theorem ggX6_pocket_X6_isPocket : GoodIn wsX6_pocket wsX6_isPocket := goodIn_r _ [7, 8, 9, 6, 10] (by decide +kernel) (by decide +kernel)
set_option maxRecDepth 20000 in
theorem gX6_pocket_X6_isPocket : GoodIn wsX6_pocket (va_wsS RX6 168 yX6_isPocket wsX6_isPocket) := goodIn_app (goodIn_of _ (by decide +kernel)) ggX6_pocket_X6_isPocket
set_option maxRecDepth 20000 in
theorem ggX6_pocket_X6_within : GoodIn wsX6_pocket wsX6_within := goodIn_r _ [10] (by decide +kernel) (by decide +kernel)
set_option maxRecDepth 20000 in
theorem gX6_pocket_X6_within : GoodIn wsX6_pocket (va_wsS RX6 77 yX6_within wsX6_within) := goodIn_app (goodIn_of _ (by decide +kernel)) ggX6_pocket_X6_within
theorem dX6_pocket_0 : decode cX6_pocket 0 = .ok (.iload_n 1, 1) := by decide +kernel
theorem dX6_pocket_1 : decode cX6_pocket 1 = .ok (.invokestatic 168, 3) := by decide +kernel
theorem dX6_pocket_4 : decode cX6_pocket 4 = .ok (.ifCond .ne 5, 3) := by decide +kernel
theorem dX6_pocket_7 : decode cX6_pocket 7 = .ok (.iconst (-1), 1) := by decide +kernel
theorem dX6_pocket_8 : decode cX6_pocket 8 = .ok (.ireturn, 1) := by decide +kernel
theorem dX6_pocket_9 : decode cX6_pocket 9 = .ok (.iload_n 2, 1) := by decide +kernel
theorem dX6_pocket_10 : decode cX6_pocket 10 = .ok (.iconst 0, 1) := by decide +kernel
theorem dX6_pocket_11 : decode cX6_pocket 11 = .ok (.iconst 3, 1) := by decide +kernel
theorem dX6_pocket_12 : decode cX6_pocket 12 = .ok (.invokestatic 77, 3) := by decide +kernel
theorem dX6_pocket_15 : decode cX6_pocket 15 = .ok (.ifCond .eq 13, 3) := by decide +kernel
theorem dX6_pocket_18 : decode cX6_pocket 18 = .ok (.iload_n 3, 1) := by decide +kernel
theorem dX6_pocket_19 : decode cX6_pocket 19 = .ok (.iconst 1, 1) := by decide +kernel
theorem dX6_pocket_20 : decode cX6_pocket 20 = .ok (.bipush 6, 2) := by decide +kernel
theorem dX6_pocket_22 : decode cX6_pocket 22 = .ok (.invokestatic 77, 3) := by decide +kernel
theorem dX6_pocket_25 : decode cX6_pocket 25 = .ok (.ifCond .ne 6, 3) := by decide +kernel
theorem dX6_pocket_28 : decode cX6_pocket 28 = .ok (.bipush (-2), 2) := by decide +kernel
theorem dX6_pocket_30 : decode cX6_pocket 30 = .ok (.ireturn, 1) := by decide +kernel
theorem dX6_pocket_31 : decode cX6_pocket 31 = .ok (.aload_n 0, 1) := by decide +kernel
theorem dX6_pocket_32 : decode cX6_pocket 32 = .ok (.getfield 58, 3) := by decide +kernel
theorem dX6_pocket_35 : decode cX6_pocket 35 = .ok (.iload_n 1, 1) := by decide +kernel
theorem dX6_pocket_36 : decode cX6_pocket 36 = .ok (.iload_n 3, 1) := by decide +kernel
theorem dX6_pocket_37 : decode cX6_pocket 37 = .ok (.iastore, 1) := by decide +kernel
theorem dX6_pocket_38 : decode cX6_pocket 38 = .ok (.aload_n 0, 1) := by decide +kernel
theorem dX6_pocket_39 : decode cX6_pocket 39 = .ok (.getfield 61, 3) := by decide +kernel
theorem dX6_pocket_42 : decode cX6_pocket 42 = .ok (.iload_n 1, 1) := by decide +kernel
theorem dX6_pocket_43 : decode cX6_pocket 43 = .ok (.iload_n 2, 1) := by decide +kernel
theorem dX6_pocket_44 : decode cX6_pocket 44 = .ok (.iastore, 1) := by decide +kernel
theorem dX6_pocket_45 : decode cX6_pocket 45 = .ok (.iconst 0, 1) := by decide +kernel
theorem dX6_pocket_46 : decode cX6_pocket 46 = .ok (.istore 4, 2) := by decide +kernel
theorem dX6_pocket_48 : decode cX6_pocket 48 = .ok (.iload 4, 2) := by decide +kernel
theorem dX6_pocket_50 : decode cX6_pocket 50 = .ok (.bipush 6, 2) := by decide +kernel
theorem dX6_pocket_52 : decode cX6_pocket 52 = .ok (.if_icmp .ge 23, 3) := by decide +kernel
theorem dX6_pocket_55 : decode cX6_pocket 55 = .ok (.aload_n 0, 1) := by decide +kernel
theorem dX6_pocket_56 : decode cX6_pocket 56 = .ok (.getfield 64, 3) := by decide +kernel
theorem dX6_pocket_59 : decode cX6_pocket 59 = .ok (.bipush 6, 2) := by decide +kernel
theorem dX6_pocket_61 : decode cX6_pocket 61 = .ok (.iload_n 1, 1) := by decide +kernel
theorem dX6_pocket_62 : decode cX6_pocket 62 = .ok (.imul, 1) := by decide +kernel
theorem dX6_pocket_63 : decode cX6_pocket 63 = .ok (.iload 4, 2) := by decide +kernel
theorem dX6_pocket_65 : decode cX6_pocket 65 = .ok (.iadd, 1) := by decide +kernel
theorem dX6_pocket_66 : decode cX6_pocket 66 = .ok (.bipush (-9), 2) := by decide +kernel
theorem dX6_pocket_68 : decode cX6_pocket 68 = .ok (.iastore, 1) := by decide +kernel
theorem dX6_pocket_69 : decode cX6_pocket 69 = .ok (.iinc 4 1, 3) := by decide +kernel
theorem dX6_pocket_72 : decode cX6_pocket 72 = .ok (.goto (-24), 3) := by decide +kernel
theorem dX6_pocket_75 : decode cX6_pocket 75 = .ok (.iconst 1, 1) := by decide +kernel
theorem dX6_pocket_76 : decode cX6_pocket 76 = .ok (.ireturn, 1) := by decide +kernel
theorem dX6_isOf_0 : decode cX6_isOf 0 = .ok (.iload_n 1, 1) := by decide +kernel
theorem dX6_isOf_1 : decode cX6_isOf 1 = .ok (.ifCond .eq 18, 3) := by decide +kernel
theorem dX6_isOf_4 : decode cX6_isOf 4 = .ok (.iload_n 0, 1) := by decide +kernel
theorem dX6_isOf_5 : decode cX6_isOf 5 = .ok (.iload_n 1, 1) := by decide +kernel
theorem dX6_isOf_6 : decode cX6_isOf 6 = .ok (.if_icmp .eq 13, 3) := by decide +kernel
theorem dX6_isOf_9 : decode cX6_isOf 9 = .ok (.iload_n 1, 1) := by decide +kernel
theorem dX6_isOf_10 : decode cX6_isOf 10 = .ok (.iconst 2, 1) := by decide +kernel
theorem dX6_isOf_11 : decode cX6_isOf 11 = .ok (.if_icmp .ne 12, 3) := by decide +kernel
theorem dX6_isOf_14 : decode cX6_isOf 14 = .ok (.iload_n 0, 1) := by decide +kernel
theorem dX6_isOf_15 : decode cX6_isOf 15 = .ok (.iconst 3, 1) := by decide +kernel
theorem dX6_isOf_16 : decode cX6_isOf 16 = .ok (.if_icmp .ne 7, 3) := by decide +kernel
theorem dX6_isOf_19 : decode cX6_isOf 19 = .ok (.iconst 1, 1) := by decide +kernel
theorem dX6_isOf_20 : decode cX6_isOf 20 = .ok (.goto 4, 3) := by decide +kernel
theorem dX6_isOf_23 : decode cX6_isOf 23 = .ok (.iconst 0, 1) := by decide +kernel
theorem dX6_isOf_24 : decode cX6_isOf 24 = .ok (.ireturn, 1) := by decide +kernel
set_option maxRecDepth 20000 in
theorem ggX6_store_X6_goes : GoodIn wsX6_store wsX6_goes := goodIn_r _ [14, 15, 16, 17, 18, 13, 19, 20, 1, 21, 22, 23, 24, 25, 26, 27, 28, 29, 30, 31, 32, 33, 34, 35, 36, 37, 38, 39, 40, 41, 3, 42, 8, 43, 44, 45, 46, 47, 48, 49, 50, 51, 52, 53, 54, 55, 6, 56, 57, 58, 59, 60, 61, 62, 63, 64, 74, 75, 76, 77, 78, 79, 80, 81, 82, 83, 84, 85, 86, 87, 88, 89, 90, 91, 92, 93, 94, 95, 96, 97, 98] (by decide +kernel) (by decide +kernel)
set_option maxRecDepth 20000 in
theorem gX6_store_X6_goes : GoodIn wsX6_store (wsV RX6 126 RX6 yX6_goes wsX6_goes) := goodIn_app (goodIn_of _ (by decide +kernel)) ggX6_store_X6_goes
set_option maxRecDepth 20000 in
theorem ggX6_store_X6_isPocket : GoodIn wsX6_store wsX6_isPocket := goodIn_r _ [67, 68, 69, 13, 70] (by decide +kernel) (by decide +kernel)
set_option maxRecDepth 20000 in
theorem gX6_store_X6_isPocket : GoodIn wsX6_store (va_wsS RX6 168 yX6_isPocket wsX6_isPocket) := goodIn_app (goodIn_of _ (by decide +kernel)) ggX6_store_X6_isPocket
set_option maxRecDepth 20000 in
theorem ggX6_store_X6_within : GoodIn wsX6_store wsX6_within := goodIn_r _ [70] (by decide +kernel) (by decide +kernel)
set_option maxRecDepth 20000 in
theorem gX6_store_X6_within : GoodIn wsX6_store (va_wsS RX6 77 yX6_within wsX6_within) := goodIn_app (goodIn_of _ (by decide +kernel)) ggX6_store_X6_within
set_option maxRecDepth 20000 in
theorem ggX6_store_X6_isOf : GoodIn wsX6_store wsX6_isOf := goodIn_r _ [73] (by decide +kernel) (by decide +kernel)
set_option maxRecDepth 20000 in
theorem gX6_store_X6_isOf : GoodIn wsX6_store (va_wsS RX6 171 yX6_isOf wsX6_isOf) := goodIn_app (goodIn_of _ (by decide +kernel)) ggX6_store_X6_isOf
theorem dX6_store_0 : decode cX6_store 0 = .ok (.aload_n 0, 1) := by decide +kernel
theorem dX6_store_1 : decode cX6_store 1 = .ok (.invokevirtual 126, 3) := by decide +kernel
theorem dX6_store_4 : decode cX6_store 4 = .ok (.iload_n 1, 1) := by decide +kernel
theorem dX6_store_5 : decode cX6_store 5 = .ok (.invokestatic 168, 3) := by decide +kernel
theorem dX6_store_8 : decode cX6_store 8 = .ok (.ifCond .eq 17, 3) := by decide +kernel
theorem dX6_store_11 : decode cX6_store 11 = .ok (.iload_n 3, 1) := by decide +kernel
theorem dX6_store_12 : decode cX6_store 12 = .ok (.iconst 0, 1) := by decide +kernel
theorem dX6_store_13 : decode cX6_store 13 = .ok (.aload_n 0, 1) := by decide +kernel
theorem dX6_store_14 : decode cX6_store 14 = .ok (.getfield 95, 3) := by decide +kernel
theorem dX6_store_17 : decode cX6_store 17 = .ok (.iconst 1, 1) := by decide +kernel
theorem dX6_store_18 : decode cX6_store 18 = .ok (.isub, 1) := by decide +kernel
theorem dX6_store_19 : decode cX6_store 19 = .ok (.invokestatic 77, 3) := by decide +kernel
theorem dX6_store_22 : decode cX6_store 22 = .ok (.ifCond .ne 5, 3) := by decide +kernel
theorem dX6_store_25 : decode cX6_store 25 = .ok (.iconst (-1), 1) := by decide +kernel
theorem dX6_store_26 : decode cX6_store 26 = .ok (.ireturn, 1) := by decide +kernel
theorem dX6_store_27 : decode cX6_store 27 = .ok (.aload_n 0, 1) := by decide +kernel
theorem dX6_store_28 : decode cX6_store 28 = .ok (.getfield 58, 3) := by decide +kernel
theorem dX6_store_31 : decode cX6_store 31 = .ok (.iload_n 1, 1) := by decide +kernel
theorem dX6_store_32 : decode cX6_store 32 = .ok (.iaload, 1) := by decide +kernel
theorem dX6_store_33 : decode cX6_store 33 = .ok (.ifCond .ne 6, 3) := by decide +kernel
theorem dX6_store_36 : decode cX6_store 36 = .ok (.bipush (-3), 2) := by decide +kernel
theorem dX6_store_38 : decode cX6_store 38 = .ok (.ireturn, 1) := by decide +kernel
theorem dX6_store_39 : decode cX6_store 39 = .ok (.iload_n 2, 1) := by decide +kernel
theorem dX6_store_40 : decode cX6_store 40 = .ok (.iconst 0, 1) := by decide +kernel
theorem dX6_store_41 : decode cX6_store 41 = .ok (.aload_n 0, 1) := by decide +kernel
theorem dX6_store_42 : decode cX6_store 42 = .ok (.getfield 58, 3) := by decide +kernel
theorem dX6_store_45 : decode cX6_store 45 = .ok (.iload_n 1, 1) := by decide +kernel
theorem dX6_store_46 : decode cX6_store 46 = .ok (.iaload, 1) := by decide +kernel
theorem dX6_store_47 : decode cX6_store 47 = .ok (.iconst 1, 1) := by decide +kernel
theorem dX6_store_48 : decode cX6_store 48 = .ok (.isub, 1) := by decide +kernel
theorem dX6_store_49 : decode cX6_store 49 = .ok (.invokestatic 77, 3) := by decide +kernel
theorem dX6_store_52 : decode cX6_store 52 = .ok (.ifCond .ne 6, 3) := by decide +kernel
theorem dX6_store_55 : decode cX6_store 55 = .ok (.bipush (-13), 2) := by decide +kernel
theorem dX6_store_57 : decode cX6_store 57 = .ok (.ireturn, 1) := by decide +kernel
theorem dX6_store_58 : decode cX6_store 58 = .ok (.aload_n 0, 1) := by decide +kernel
theorem dX6_store_59 : decode cX6_store 59 = .ok (.getfield 31, 3) := by decide +kernel
theorem dX6_store_62 : decode cX6_store 62 = .ok (.iload_n 3, 1) := by decide +kernel
theorem dX6_store_63 : decode cX6_store 63 = .ok (.iaload, 1) := by decide +kernel
theorem dX6_store_64 : decode cX6_store 64 = .ok (.aload_n 0, 1) := by decide +kernel
theorem dX6_store_65 : decode cX6_store 65 = .ok (.getfield 61, 3) := by decide +kernel
theorem dX6_store_68 : decode cX6_store 68 = .ok (.iload_n 1, 1) := by decide +kernel
theorem dX6_store_69 : decode cX6_store 69 = .ok (.iaload, 1) := by decide +kernel
theorem dX6_store_70 : decode cX6_store 70 = .ok (.invokestatic 171, 3) := by decide +kernel
theorem dX6_store_73 : decode cX6_store 73 = .ok (.ifCond .ne 6, 3) := by decide +kernel
theorem dX6_store_76 : decode cX6_store 76 = .ok (.bipush (-11), 2) := by decide +kernel
theorem dX6_store_78 : decode cX6_store 78 = .ok (.ireturn, 1) := by decide +kernel
theorem dX6_store_79 : decode cX6_store 79 = .ok (.aload_n 0, 1) := by decide +kernel
theorem dX6_store_80 : decode cX6_store 80 = .ok (.getfield 64, 3) := by decide +kernel
theorem dX6_store_83 : decode cX6_store 83 = .ok (.bipush 6, 2) := by decide +kernel
theorem dX6_store_85 : decode cX6_store 85 = .ok (.iload_n 1, 1) := by decide +kernel
theorem dX6_store_86 : decode cX6_store 86 = .ok (.imul, 1) := by decide +kernel
theorem dX6_store_87 : decode cX6_store 87 = .ok (.iload_n 2, 1) := by decide +kernel
theorem dX6_store_88 : decode cX6_store 88 = .ok (.iadd, 1) := by decide +kernel
theorem dX6_store_89 : decode cX6_store 89 = .ok (.aload_n 0, 1) := by decide +kernel
theorem dX6_store_90 : decode cX6_store 90 = .ok (.getfield 19, 3) := by decide +kernel
theorem dX6_store_93 : decode cX6_store 93 = .ok (.iload_n 3, 1) := by decide +kernel
theorem dX6_store_94 : decode cX6_store 94 = .ok (.iaload, 1) := by decide +kernel
theorem dX6_store_95 : decode cX6_store 95 = .ok (.iastore, 1) := by decide +kernel
theorem dX6_store_96 : decode cX6_store 96 = .ok (.aload_n 0, 1) := by decide +kernel
theorem dX6_store_97 : decode cX6_store 97 = .ok (.getfield 67, 3) := by decide +kernel
theorem dX6_store_100 : decode cX6_store 100 = .ok (.bipush 6, 2) := by decide +kernel
theorem dX6_store_102 : decode cX6_store 102 = .ok (.iload_n 1, 1) := by decide +kernel
theorem dX6_store_103 : decode cX6_store 103 = .ok (.imul, 1) := by decide +kernel
theorem dX6_store_104 : decode cX6_store 104 = .ok (.iload_n 2, 1) := by decide +kernel
theorem dX6_store_105 : decode cX6_store 105 = .ok (.iadd, 1) := by decide +kernel
theorem dX6_store_106 : decode cX6_store 106 = .ok (.aload_n 0, 1) := by decide +kernel
theorem dX6_store_107 : decode cX6_store 107 = .ok (.getfield 25, 3) := by decide +kernel
theorem dX6_store_110 : decode cX6_store 110 = .ok (.iload_n 3, 1) := by decide +kernel
theorem dX6_store_111 : decode cX6_store 111 = .ok (.iaload, 1) := by decide +kernel
theorem dX6_store_112 : decode cX6_store 112 = .ok (.iastore, 1) := by decide +kernel
theorem dX6_store_113 : decode cX6_store 113 = .ok (.aload_n 0, 1) := by decide +kernel
theorem dX6_store_114 : decode cX6_store 114 = .ok (.getfield 70, 3) := by decide +kernel
theorem dX6_store_117 : decode cX6_store 117 = .ok (.bipush 6, 2) := by decide +kernel
theorem dX6_store_119 : decode cX6_store 119 = .ok (.iload_n 1, 1) := by decide +kernel
theorem dX6_store_120 : decode cX6_store 120 = .ok (.imul, 1) := by decide +kernel
theorem dX6_store_121 : decode cX6_store 121 = .ok (.iload_n 2, 1) := by decide +kernel
theorem dX6_store_122 : decode cX6_store 122 = .ok (.iadd, 1) := by decide +kernel
theorem dX6_store_123 : decode cX6_store 123 = .ok (.aload_n 0, 1) := by decide +kernel
theorem dX6_store_124 : decode cX6_store 124 = .ok (.getfield 31, 3) := by decide +kernel
theorem dX6_store_127 : decode cX6_store 127 = .ok (.iload_n 3, 1) := by decide +kernel
theorem dX6_store_128 : decode cX6_store 128 = .ok (.iaload, 1) := by decide +kernel
theorem dX6_store_129 : decode cX6_store 129 = .ok (.iastore, 1) := by decide +kernel
theorem dX6_store_130 : decode cX6_store 130 = .ok (.iconst 1, 1) := by decide +kernel
theorem dX6_store_131 : decode cX6_store 131 = .ok (.ireturn, 1) := by decide +kernel
set_option maxRecDepth 20000 in
theorem ggX6_copy_X6_isPocket : GoodIn wsX6_copy wsX6_isPocket := goodIn_r _ [9, 10, 11, 8, 12] (by decide +kernel) (by decide +kernel)
set_option maxRecDepth 20000 in
theorem gX6_copy_X6_isPocket : GoodIn wsX6_copy (va_wsS RX6 168 yX6_isPocket wsX6_isPocket) := goodIn_app (goodIn_of _ (by decide +kernel)) ggX6_copy_X6_isPocket
theorem dX6_copy_0 : decode cX6_copy 0 = .ok (.iload_n 1, 1) := by decide +kernel
theorem dX6_copy_1 : decode cX6_copy 1 = .ok (.invokestatic 168, 3) := by decide +kernel
theorem dX6_copy_4 : decode cX6_copy 4 = .ok (.ifCond .eq 10, 3) := by decide +kernel
theorem dX6_copy_7 : decode cX6_copy 7 = .ok (.iload_n 2, 1) := by decide +kernel
theorem dX6_copy_8 : decode cX6_copy 8 = .ok (.invokestatic 168, 3) := by decide +kernel
theorem dX6_copy_11 : decode cX6_copy 11 = .ok (.ifCond .ne 5, 3) := by decide +kernel
theorem dX6_copy_14 : decode cX6_copy 14 = .ok (.iconst (-1), 1) := by decide +kernel
theorem dX6_copy_15 : decode cX6_copy 15 = .ok (.ireturn, 1) := by decide +kernel
theorem dX6_copy_16 : decode cX6_copy 16 = .ok (.aload_n 0, 1) := by decide +kernel
theorem dX6_copy_17 : decode cX6_copy 17 = .ok (.getfield 58, 3) := by decide +kernel
theorem dX6_copy_20 : decode cX6_copy 20 = .ok (.iload_n 1, 1) := by decide +kernel
theorem dX6_copy_21 : decode cX6_copy 21 = .ok (.iaload, 1) := by decide +kernel
theorem dX6_copy_22 : decode cX6_copy 22 = .ok (.ifCond .ne 6, 3) := by decide +kernel
theorem dX6_copy_25 : decode cX6_copy 25 = .ok (.bipush (-3), 2) := by decide +kernel
theorem dX6_copy_27 : decode cX6_copy 27 = .ok (.ireturn, 1) := by decide +kernel
theorem dX6_copy_28 : decode cX6_copy 28 = .ok (.aload_n 0, 1) := by decide +kernel
theorem dX6_copy_29 : decode cX6_copy 29 = .ok (.getfield 58, 3) := by decide +kernel
theorem dX6_copy_32 : decode cX6_copy 32 = .ok (.iload_n 2, 1) := by decide +kernel
theorem dX6_copy_33 : decode cX6_copy 33 = .ok (.aload_n 0, 1) := by decide +kernel
theorem dX6_copy_34 : decode cX6_copy 34 = .ok (.getfield 58, 3) := by decide +kernel
theorem dX6_copy_37 : decode cX6_copy 37 = .ok (.iload_n 1, 1) := by decide +kernel
theorem dX6_copy_38 : decode cX6_copy 38 = .ok (.iaload, 1) := by decide +kernel
theorem dX6_copy_39 : decode cX6_copy 39 = .ok (.iastore, 1) := by decide +kernel
theorem dX6_copy_40 : decode cX6_copy 40 = .ok (.aload_n 0, 1) := by decide +kernel
theorem dX6_copy_41 : decode cX6_copy 41 = .ok (.getfield 61, 3) := by decide +kernel
theorem dX6_copy_44 : decode cX6_copy 44 = .ok (.iload_n 2, 1) := by decide +kernel
theorem dX6_copy_45 : decode cX6_copy 45 = .ok (.aload_n 0, 1) := by decide +kernel
theorem dX6_copy_46 : decode cX6_copy 46 = .ok (.getfield 61, 3) := by decide +kernel
theorem dX6_copy_49 : decode cX6_copy 49 = .ok (.iload_n 1, 1) := by decide +kernel
theorem dX6_copy_50 : decode cX6_copy 50 = .ok (.iaload, 1) := by decide +kernel
theorem dX6_copy_51 : decode cX6_copy 51 = .ok (.iastore, 1) := by decide +kernel
theorem dX6_copy_52 : decode cX6_copy 52 = .ok (.iconst 0, 1) := by decide +kernel
theorem dX6_copy_53 : decode cX6_copy 53 = .ok (.istore_n 3, 1) := by decide +kernel
theorem dX6_copy_54 : decode cX6_copy 54 = .ok (.iload_n 3, 1) := by decide +kernel
theorem dX6_copy_55 : decode cX6_copy 55 = .ok (.bipush 6, 2) := by decide +kernel
theorem dX6_copy_57 : decode cX6_copy 57 = .ok (.if_icmp .ge 75, 3) := by decide +kernel
theorem dX6_copy_60 : decode cX6_copy 60 = .ok (.aload_n 0, 1) := by decide +kernel
theorem dX6_copy_61 : decode cX6_copy 61 = .ok (.getfield 64, 3) := by decide +kernel
theorem dX6_copy_64 : decode cX6_copy 64 = .ok (.bipush 6, 2) := by decide +kernel
theorem dX6_copy_66 : decode cX6_copy 66 = .ok (.iload_n 2, 1) := by decide +kernel
theorem dX6_copy_67 : decode cX6_copy 67 = .ok (.imul, 1) := by decide +kernel
theorem dX6_copy_68 : decode cX6_copy 68 = .ok (.iload_n 3, 1) := by decide +kernel
theorem dX6_copy_69 : decode cX6_copy 69 = .ok (.iadd, 1) := by decide +kernel
theorem dX6_copy_70 : decode cX6_copy 70 = .ok (.aload_n 0, 1) := by decide +kernel
theorem dX6_copy_71 : decode cX6_copy 71 = .ok (.getfield 64, 3) := by decide +kernel
theorem dX6_copy_74 : decode cX6_copy 74 = .ok (.bipush 6, 2) := by decide +kernel
theorem dX6_copy_76 : decode cX6_copy 76 = .ok (.iload_n 1, 1) := by decide +kernel
theorem dX6_copy_77 : decode cX6_copy 77 = .ok (.imul, 1) := by decide +kernel
theorem dX6_copy_78 : decode cX6_copy 78 = .ok (.iload_n 3, 1) := by decide +kernel
theorem dX6_copy_79 : decode cX6_copy 79 = .ok (.iadd, 1) := by decide +kernel
theorem dX6_copy_80 : decode cX6_copy 80 = .ok (.iaload, 1) := by decide +kernel
theorem dX6_copy_81 : decode cX6_copy 81 = .ok (.iastore, 1) := by decide +kernel
theorem dX6_copy_82 : decode cX6_copy 82 = .ok (.aload_n 0, 1) := by decide +kernel
theorem dX6_copy_83 : decode cX6_copy 83 = .ok (.getfield 67, 3) := by decide +kernel
theorem dX6_copy_86 : decode cX6_copy 86 = .ok (.bipush 6, 2) := by decide +kernel
theorem dX6_copy_88 : decode cX6_copy 88 = .ok (.iload_n 2, 1) := by decide +kernel
theorem dX6_copy_89 : decode cX6_copy 89 = .ok (.imul, 1) := by decide +kernel
theorem dX6_copy_90 : decode cX6_copy 90 = .ok (.iload_n 3, 1) := by decide +kernel
theorem dX6_copy_91 : decode cX6_copy 91 = .ok (.iadd, 1) := by decide +kernel
theorem dX6_copy_92 : decode cX6_copy 92 = .ok (.aload_n 0, 1) := by decide +kernel
theorem dX6_copy_93 : decode cX6_copy 93 = .ok (.getfield 67, 3) := by decide +kernel
theorem dX6_copy_96 : decode cX6_copy 96 = .ok (.bipush 6, 2) := by decide +kernel
theorem dX6_copy_98 : decode cX6_copy 98 = .ok (.iload_n 1, 1) := by decide +kernel
theorem dX6_copy_99 : decode cX6_copy 99 = .ok (.imul, 1) := by decide +kernel
theorem dX6_copy_100 : decode cX6_copy 100 = .ok (.iload_n 3, 1) := by decide +kernel
theorem dX6_copy_101 : decode cX6_copy 101 = .ok (.iadd, 1) := by decide +kernel
theorem dX6_copy_102 : decode cX6_copy 102 = .ok (.iaload, 1) := by decide +kernel
theorem dX6_copy_103 : decode cX6_copy 103 = .ok (.iastore, 1) := by decide +kernel
theorem dX6_copy_104 : decode cX6_copy 104 = .ok (.aload_n 0, 1) := by decide +kernel
theorem dX6_copy_105 : decode cX6_copy 105 = .ok (.getfield 70, 3) := by decide +kernel
theorem dX6_copy_108 : decode cX6_copy 108 = .ok (.bipush 6, 2) := by decide +kernel
theorem dX6_copy_110 : decode cX6_copy 110 = .ok (.iload_n 2, 1) := by decide +kernel
theorem dX6_copy_111 : decode cX6_copy 111 = .ok (.imul, 1) := by decide +kernel
theorem dX6_copy_112 : decode cX6_copy 112 = .ok (.iload_n 3, 1) := by decide +kernel
theorem dX6_copy_113 : decode cX6_copy 113 = .ok (.iadd, 1) := by decide +kernel
theorem dX6_copy_114 : decode cX6_copy 114 = .ok (.aload_n 0, 1) := by decide +kernel
theorem dX6_copy_115 : decode cX6_copy 115 = .ok (.getfield 70, 3) := by decide +kernel
theorem dX6_copy_118 : decode cX6_copy 118 = .ok (.bipush 6, 2) := by decide +kernel
theorem dX6_copy_120 : decode cX6_copy 120 = .ok (.iload_n 1, 1) := by decide +kernel
theorem dX6_copy_121 : decode cX6_copy 121 = .ok (.imul, 1) := by decide +kernel
theorem dX6_copy_122 : decode cX6_copy 122 = .ok (.iload_n 3, 1) := by decide +kernel
theorem dX6_copy_123 : decode cX6_copy 123 = .ok (.iadd, 1) := by decide +kernel
theorem dX6_copy_124 : decode cX6_copy 124 = .ok (.iaload, 1) := by decide +kernel
theorem dX6_copy_125 : decode cX6_copy 125 = .ok (.iastore, 1) := by decide +kernel
theorem dX6_copy_126 : decode cX6_copy 126 = .ok (.iinc 3 1, 3) := by decide +kernel
theorem dX6_copy_129 : decode cX6_copy 129 = .ok (.goto (-75), 3) := by decide +kernel
theorem dX6_copy_132 : decode cX6_copy 132 = .ok (.iconst 1, 1) := by decide +kernel
theorem dX6_copy_133 : decode cX6_copy 133 = .ok (.ireturn, 1) := by decide +kernel
set_option maxRecDepth 20000 in
theorem ggX6_ofPocket_X6_isPocket : GoodIn wsX6_ofPocket wsX6_isPocket := goodIn_r _ [8, 9, 10, 7, 11] (by decide +kernel) (by decide +kernel)
set_option maxRecDepth 20000 in
theorem gX6_ofPocket_X6_isPocket : GoodIn wsX6_ofPocket (va_wsS RX6 168 yX6_isPocket wsX6_isPocket) := goodIn_app (goodIn_of _ (by decide +kernel)) ggX6_ofPocket_X6_isPocket
set_option maxRecDepth 20000 in
theorem ggX6_ofPocket_X6_within : GoodIn wsX6_ofPocket wsX6_within := goodIn_r _ [11] (by decide +kernel) (by decide +kernel)
set_option maxRecDepth 20000 in
theorem gX6_ofPocket_X6_within : GoodIn wsX6_ofPocket (va_wsS RX6 77 yX6_within wsX6_within) := goodIn_app (goodIn_of _ (by decide +kernel)) ggX6_ofPocket_X6_within
theorem dX6_ofPocket_0 : decode cX6_ofPocket 0 = .ok (.iload_n 1, 1) := by decide +kernel
theorem dX6_ofPocket_1 : decode cX6_ofPocket 1 = .ok (.invokestatic 168, 3) := by decide +kernel
theorem dX6_ofPocket_4 : decode cX6_ofPocket 4 = .ok (.ifCond .ne 5, 3) := by decide +kernel
theorem dX6_ofPocket_7 : decode cX6_ofPocket 7 = .ok (.iconst (-1), 1) := by decide +kernel
theorem dX6_ofPocket_8 : decode cX6_ofPocket 8 = .ok (.ireturn, 1) := by decide +kernel
theorem dX6_ofPocket_9 : decode cX6_ofPocket 9 = .ok (.iload_n 3, 1) := by decide +kernel
theorem dX6_ofPocket_10 : decode cX6_ofPocket 10 = .ok (.iconst 0, 1) := by decide +kernel
theorem dX6_ofPocket_11 : decode cX6_ofPocket 11 = .ok (.iconst 2, 1) := by decide +kernel
theorem dX6_ofPocket_12 : decode cX6_ofPocket 12 = .ok (.invokestatic 77, 3) := by decide +kernel
theorem dX6_ofPocket_15 : decode cX6_ofPocket 15 = .ok (.ifCond .ne 6, 3) := by decide +kernel
theorem dX6_ofPocket_18 : decode cX6_ofPocket 18 = .ok (.bipush (-2), 2) := by decide +kernel
theorem dX6_ofPocket_20 : decode cX6_ofPocket 20 = .ok (.ireturn, 1) := by decide +kernel
theorem dX6_ofPocket_21 : decode cX6_ofPocket 21 = .ok (.aload_n 0, 1) := by decide +kernel
theorem dX6_ofPocket_22 : decode cX6_ofPocket 22 = .ok (.getfield 58, 3) := by decide +kernel
theorem dX6_ofPocket_25 : decode cX6_ofPocket 25 = .ok (.iload_n 1, 1) := by decide +kernel
theorem dX6_ofPocket_26 : decode cX6_ofPocket 26 = .ok (.iaload, 1) := by decide +kernel
theorem dX6_ofPocket_27 : decode cX6_ofPocket 27 = .ok (.ifCond .ne 6, 3) := by decide +kernel
theorem dX6_ofPocket_30 : decode cX6_ofPocket 30 = .ok (.bipush (-3), 2) := by decide +kernel
theorem dX6_ofPocket_32 : decode cX6_ofPocket 32 = .ok (.ireturn, 1) := by decide +kernel
theorem dX6_ofPocket_33 : decode cX6_ofPocket 33 = .ok (.iload_n 2, 1) := by decide +kernel
theorem dX6_ofPocket_34 : decode cX6_ofPocket 34 = .ok (.iconst 0, 1) := by decide +kernel
theorem dX6_ofPocket_35 : decode cX6_ofPocket 35 = .ok (.aload_n 0, 1) := by decide +kernel
theorem dX6_ofPocket_36 : decode cX6_ofPocket 36 = .ok (.getfield 58, 3) := by decide +kernel
theorem dX6_ofPocket_39 : decode cX6_ofPocket 39 = .ok (.iload_n 1, 1) := by decide +kernel
theorem dX6_ofPocket_40 : decode cX6_ofPocket 40 = .ok (.iaload, 1) := by decide +kernel
theorem dX6_ofPocket_41 : decode cX6_ofPocket 41 = .ok (.iconst 1, 1) := by decide +kernel
theorem dX6_ofPocket_42 : decode cX6_ofPocket 42 = .ok (.isub, 1) := by decide +kernel
theorem dX6_ofPocket_43 : decode cX6_ofPocket 43 = .ok (.invokestatic 77, 3) := by decide +kernel
theorem dX6_ofPocket_46 : decode cX6_ofPocket 46 = .ok (.ifCond .ne 6, 3) := by decide +kernel
theorem dX6_ofPocket_49 : decode cX6_ofPocket 49 = .ok (.bipush (-13), 2) := by decide +kernel
theorem dX6_ofPocket_51 : decode cX6_ofPocket 51 = .ok (.ireturn, 1) := by decide +kernel
theorem dX6_ofPocket_52 : decode cX6_ofPocket 52 = .ok (.bipush 6, 2) := by decide +kernel
theorem dX6_ofPocket_54 : decode cX6_ofPocket 54 = .ok (.iload_n 1, 1) := by decide +kernel
theorem dX6_ofPocket_55 : decode cX6_ofPocket 55 = .ok (.imul, 1) := by decide +kernel
theorem dX6_ofPocket_56 : decode cX6_ofPocket 56 = .ok (.iload_n 2, 1) := by decide +kernel
theorem dX6_ofPocket_57 : decode cX6_ofPocket 57 = .ok (.iadd, 1) := by decide +kernel
theorem dX6_ofPocket_58 : decode cX6_ofPocket 58 = .ok (.istore 4, 2) := by decide +kernel
theorem dX6_ofPocket_60 : decode cX6_ofPocket 60 = .ok (.aload_n 0, 1) := by decide +kernel
theorem dX6_ofPocket_61 : decode cX6_ofPocket 61 = .ok (.getfield 64, 3) := by decide +kernel
theorem dX6_ofPocket_64 : decode cX6_ofPocket 64 = .ok (.iload 4, 2) := by decide +kernel
theorem dX6_ofPocket_66 : decode cX6_ofPocket 66 = .ok (.iaload, 1) := by decide +kernel
theorem dX6_ofPocket_67 : decode cX6_ofPocket 67 = .ok (.bipush (-9), 2) := by decide +kernel
theorem dX6_ofPocket_69 : decode cX6_ofPocket 69 = .ok (.if_icmp .ne 6, 3) := by decide +kernel
theorem dX6_ofPocket_72 : decode cX6_ofPocket 72 = .ok (.bipush (-9), 2) := by decide +kernel
theorem dX6_ofPocket_74 : decode cX6_ofPocket 74 = .ok (.ireturn, 1) := by decide +kernel
theorem dX6_ofPocket_75 : decode cX6_ofPocket 75 = .ok (.iload_n 3, 1) := by decide +kernel
theorem dX6_ofPocket_76 : decode cX6_ofPocket 76 = .ok (.ifCond .ne 13, 3) := by decide +kernel
theorem dX6_ofPocket_79 : decode cX6_ofPocket 79 = .ok (.aload_n 0, 1) := by decide +kernel
theorem dX6_ofPocket_80 : decode cX6_ofPocket 80 = .ok (.getfield 64, 3) := by decide +kernel
theorem dX6_ofPocket_83 : decode cX6_ofPocket 83 = .ok (.iload 4, 2) := by decide +kernel
theorem dX6_ofPocket_85 : decode cX6_ofPocket 85 = .ok (.iaload, 1) := by decide +kernel
theorem dX6_ofPocket_86 : decode cX6_ofPocket 86 = .ok (.goto 25, 3) := by decide +kernel
theorem dX6_ofPocket_89 : decode cX6_ofPocket 89 = .ok (.iload_n 3, 1) := by decide +kernel
theorem dX6_ofPocket_90 : decode cX6_ofPocket 90 = .ok (.iconst 1, 1) := by decide +kernel
theorem dX6_ofPocket_91 : decode cX6_ofPocket 91 = .ok (.if_icmp .ne 13, 3) := by decide +kernel
theorem dX6_ofPocket_94 : decode cX6_ofPocket 94 = .ok (.aload_n 0, 1) := by decide +kernel
theorem dX6_ofPocket_95 : decode cX6_ofPocket 95 = .ok (.getfield 67, 3) := by decide +kernel
theorem dX6_ofPocket_98 : decode cX6_ofPocket 98 = .ok (.iload 4, 2) := by decide +kernel
theorem dX6_ofPocket_100 : decode cX6_ofPocket 100 = .ok (.iaload, 1) := by decide +kernel
theorem dX6_ofPocket_101 : decode cX6_ofPocket 101 = .ok (.goto 10, 3) := by decide +kernel
theorem dX6_ofPocket_104 : decode cX6_ofPocket 104 = .ok (.aload_n 0, 1) := by decide +kernel
theorem dX6_ofPocket_105 : decode cX6_ofPocket 105 = .ok (.getfield 70, 3) := by decide +kernel
theorem dX6_ofPocket_108 : decode cX6_ofPocket 108 = .ok (.iload 4, 2) := by decide +kernel
theorem dX6_ofPocket_110 : decode cX6_ofPocket 110 = .ok (.iaload, 1) := by decide +kernel
theorem dX6_ofPocket_111 : decode cX6_ofPocket 111 = .ok (.ireturn, 1) := by decide +kernel
theorem dX6_manyWithout_0 : decode cX6_manyWithout 0 = .ok (.iconst 0, 1) := by decide +kernel
theorem dX6_manyWithout_1 : decode cX6_manyWithout 1 = .ok (.istore_n 1, 1) := by decide +kernel
theorem dX6_manyWithout_2 : decode cX6_manyWithout 2 = .ok (.iconst 0, 1) := by decide +kernel
theorem dX6_manyWithout_3 : decode cX6_manyWithout 3 = .ok (.istore_n 2, 1) := by decide +kernel
theorem dX6_manyWithout_4 : decode cX6_manyWithout 4 = .ok (.iload_n 2, 1) := by decide +kernel
theorem dX6_manyWithout_5 : decode cX6_manyWithout 5 = .ok (.aload_n 0, 1) := by decide +kernel
theorem dX6_manyWithout_6 : decode cX6_manyWithout 6 = .ok (.getfield 95, 3) := by decide +kernel
theorem dX6_manyWithout_9 : decode cX6_manyWithout 9 = .ok (.if_icmp .ge 28, 3) := by decide +kernel
theorem dX6_manyWithout_12 : decode cX6_manyWithout 12 = .ok (.iload_n 1, 1) := by decide +kernel
theorem dX6_manyWithout_13 : decode cX6_manyWithout 13 = .ok (.aload_n 0, 1) := by decide +kernel
theorem dX6_manyWithout_14 : decode cX6_manyWithout 14 = .ok (.getfield 34, 3) := by decide +kernel
theorem dX6_manyWithout_17 : decode cX6_manyWithout 17 = .ok (.iload_n 2, 1) := by decide +kernel
theorem dX6_manyWithout_18 : decode cX6_manyWithout 18 = .ok (.iaload, 1) := by decide +kernel
theorem dX6_manyWithout_19 : decode cX6_manyWithout 19 = .ok (.bipush (-9), 2) := by decide +kernel
theorem dX6_manyWithout_21 : decode cX6_manyWithout 21 = .ok (.if_icmp .ne 7, 3) := by decide +kernel
theorem dX6_manyWithout_24 : decode cX6_manyWithout 24 = .ok (.iconst 1, 1) := by decide +kernel
theorem dX6_manyWithout_25 : decode cX6_manyWithout 25 = .ok (.goto 4, 3) := by decide +kernel
theorem dX6_manyWithout_28 : decode cX6_manyWithout 28 = .ok (.iconst 0, 1) := by decide +kernel
theorem dX6_manyWithout_29 : decode cX6_manyWithout 29 = .ok (.iadd, 1) := by decide +kernel
theorem dX6_manyWithout_30 : decode cX6_manyWithout 30 = .ok (.istore_n 1, 1) := by decide +kernel
theorem dX6_manyWithout_31 : decode cX6_manyWithout 31 = .ok (.iinc 2 1, 3) := by decide +kernel
theorem dX6_manyWithout_34 : decode cX6_manyWithout 34 = .ok (.goto (-30), 3) := by decide +kernel
theorem dX6_manyWithout_37 : decode cX6_manyWithout 37 = .ok (.iload_n 1, 1) := by decide +kernel
theorem dX6_manyWithout_38 : decode cX6_manyWithout 38 = .ok (.ireturn, 1) := by decide +kernel
set_option maxRecDepth 20000 in
theorem ggX6_manyOf_X6_lengthOf : GoodIn wsX6_manyOf wsX6_lengthOf := goodIn_r _ [8] (by decide +kernel) (by decide +kernel)
set_option maxRecDepth 20000 in
theorem gX6_manyOf_X6_lengthOf : GoodIn wsX6_manyOf (va_wsS RX6 81 yX6_lengthOf wsX6_lengthOf) := goodIn_app (goodIn_of _ (by decide +kernel)) ggX6_manyOf_X6_lengthOf
theorem dX6_manyOf_0 : decode cX6_manyOf 0 = .ok (.iconst 0, 1) := by decide +kernel
theorem dX6_manyOf_1 : decode cX6_manyOf 1 = .ok (.istore_n 2, 1) := by decide +kernel
theorem dX6_manyOf_2 : decode cX6_manyOf 2 = .ok (.iconst 0, 1) := by decide +kernel
theorem dX6_manyOf_3 : decode cX6_manyOf 3 = .ok (.istore_n 3, 1) := by decide +kernel
theorem dX6_manyOf_4 : decode cX6_manyOf 4 = .ok (.iload_n 3, 1) := by decide +kernel
theorem dX6_manyOf_5 : decode cX6_manyOf 5 = .ok (.aload_n 0, 1) := by decide +kernel
theorem dX6_manyOf_6 : decode cX6_manyOf 6 = .ok (.getfield 73, 3) := by decide +kernel
theorem dX6_manyOf_9 : decode cX6_manyOf 9 = .ok (.if_icmp .ge 59, 3) := by decide +kernel
theorem dX6_manyOf_12 : decode cX6_manyOf 12 = .ok (.iload_n 2, 1) := by decide +kernel
theorem dX6_manyOf_13 : decode cX6_manyOf 13 = .ok (.iload_n 1, 1) := by decide +kernel
theorem dX6_manyOf_14 : decode cX6_manyOf 14 = .ok (.iconst 3, 1) := by decide +kernel
theorem dX6_manyOf_15 : decode cX6_manyOf 15 = .ok (.if_icmp .ne 12, 3) := by decide +kernel
theorem dX6_manyOf_18 : decode cX6_manyOf 18 = .ok (.aload_n 0, 1) := by decide +kernel
theorem dX6_manyOf_19 : decode cX6_manyOf 19 = .ok (.getfield 43, 3) := by decide +kernel
theorem dX6_manyOf_22 : decode cX6_manyOf 22 = .ok (.iload_n 3, 1) := by decide +kernel
theorem dX6_manyOf_23 : decode cX6_manyOf 23 = .ok (.iaload, 1) := by decide +kernel
theorem dX6_manyOf_24 : decode cX6_manyOf 24 = .ok (.goto 36, 3) := by decide +kernel
theorem dX6_manyOf_27 : decode cX6_manyOf 27 = .ok (.iload_n 1, 1) := by decide +kernel
theorem dX6_manyOf_28 : decode cX6_manyOf 28 = .ok (.iconst 4, 1) := by decide +kernel
theorem dX6_manyOf_29 : decode cX6_manyOf 29 = .ok (.if_icmp .ne 22, 3) := by decide +kernel
theorem dX6_manyOf_32 : decode cX6_manyOf 32 = .ok (.aload_n 0, 1) := by decide +kernel
theorem dX6_manyOf_33 : decode cX6_manyOf 33 = .ok (.getfield 13, 3) := by decide +kernel
theorem dX6_manyOf_36 : decode cX6_manyOf 36 = .ok (.iload_n 3, 1) := by decide +kernel
theorem dX6_manyOf_37 : decode cX6_manyOf 37 = .ok (.iaload, 1) := by decide +kernel
theorem dX6_manyOf_38 : decode cX6_manyOf 38 = .ok (.bipush (-9), 2) := by decide +kernel
theorem dX6_manyOf_40 : decode cX6_manyOf 40 = .ok (.if_icmp .eq 7, 3) := by decide +kernel
theorem dX6_manyOf_43 : decode cX6_manyOf 43 = .ok (.iconst 1, 1) := by decide +kernel
theorem dX6_manyOf_44 : decode cX6_manyOf 44 = .ok (.goto 16, 3) := by decide +kernel
theorem dX6_manyOf_47 : decode cX6_manyOf 47 = .ok (.iconst 0, 1) := by decide +kernel
theorem dX6_manyOf_48 : decode cX6_manyOf 48 = .ok (.goto 12, 3) := by decide +kernel
theorem dX6_manyOf_51 : decode cX6_manyOf 51 = .ok (.aload_n 0, 1) := by decide +kernel
theorem dX6_manyOf_52 : decode cX6_manyOf 52 = .ok (.getfield 7, 3) := by decide +kernel
theorem dX6_manyOf_55 : decode cX6_manyOf 55 = .ok (.iload_n 3, 1) := by decide +kernel
theorem dX6_manyOf_56 : decode cX6_manyOf 56 = .ok (.iaload, 1) := by decide +kernel
theorem dX6_manyOf_57 : decode cX6_manyOf 57 = .ok (.invokestatic 81, 3) := by decide +kernel
theorem dX6_manyOf_60 : decode cX6_manyOf 60 = .ok (.iadd, 1) := by decide +kernel
theorem dX6_manyOf_61 : decode cX6_manyOf 61 = .ok (.istore_n 2, 1) := by decide +kernel
theorem dX6_manyOf_62 : decode cX6_manyOf 62 = .ok (.iinc 3 1, 3) := by decide +kernel
theorem dX6_manyOf_65 : decode cX6_manyOf 65 = .ok (.goto (-61), 3) := by decide +kernel
theorem dX6_manyOf_68 : decode cX6_manyOf 68 = .ok (.iload_n 2, 1) := by decide +kernel
theorem dX6_manyOf_69 : decode cX6_manyOf 69 = .ok (.ireturn, 1) := by decide +kernel
set_option maxRecDepth 20000 in
theorem ggX6_many_X6_goes : GoodIn wsX6_many wsX6_goes := goodIn_r _ [7, 8, 9, 10, 11, 6, 12, 13, 2, 14, 15, 1, 16, 17, 18, 19, 20, 21, 22, 23, 24, 25, 26, 27, 28, 29, 30, 31, 32, 33, 34, 35, 36, 37, 38, 39, 40, 41, 42, 43, 44, 45, 46, 47, 48, 49, 50, 51, 52, 53, 54, 55, 56, 57, 58, 59, 69, 70, 71, 72, 73, 74, 75, 76, 77, 78, 79, 80, 81, 82, 83, 84, 85, 86, 87, 88, 89, 90, 91, 92, 93] (by decide +kernel) (by decide +kernel)
set_option maxRecDepth 20000 in
theorem gX6_many_X6_goes : GoodIn wsX6_many (wsV RX6 126 RX6 yX6_goes wsX6_goes) := goodIn_app (goodIn_of _ (by decide +kernel)) ggX6_many_X6_goes
set_option maxRecDepth 20000 in
theorem ggX6_many_X6_manyWithout : GoodIn wsX6_many wsX6_manyWithout := goodIn_r _ [63, 2, 52, 69, 70, 71, 72, 73, 74, 75, 76, 77, 78, 79, 80, 81, 82, 83, 84, 85, 86, 87, 88, 89, 90, 91, 92, 93] (by decide +kernel) (by decide +kernel)
set_option maxRecDepth 20000 in
theorem gX6_many_X6_manyWithout : GoodIn wsX6_many (wsV RX6 174 RX6 yX6_manyWithout wsX6_manyWithout) := goodIn_app (goodIn_of _ (by decide +kernel)) ggX6_many_X6_manyWithout
set_option maxRecDepth 20000 in
theorem ggX6_many_X6_manyOf : GoodIn wsX6_many wsX6_manyOf := goodIn_r _ [67, 1, 22, 68, 20, 24, 25, 6, 26, 69, 70, 71, 72, 73, 74, 75, 76, 77, 78, 79, 80, 81, 82, 83, 84, 85, 86, 87, 88, 89, 90, 91, 92, 93] (by decide +kernel) (by decide +kernel)
set_option maxRecDepth 20000 in
theorem gX6_many_X6_manyOf : GoodIn wsX6_many (wsV RX6 177 RX6 yX6_manyOf wsX6_manyOf) := goodIn_app (goodIn_of _ (by decide +kernel)) ggX6_many_X6_manyOf
theorem dX6_many_0 : decode cX6_many 0 = .ok (.aload_n 0, 1) := by decide +kernel
theorem dX6_many_1 : decode cX6_many 1 = .ok (.invokevirtual 126, 3) := by decide +kernel
theorem dX6_many_4 : decode cX6_many 4 = .ok (.iload_n 1, 1) := by decide +kernel
theorem dX6_many_5 : decode cX6_many 5 = .ok (.tableswitch 60 0 5 #[39, 44, 49, 54, 54, 54], 39) := by decide +kernel
theorem dX6_many_44 : decode cX6_many 44 = .ok (.aload_n 0, 1) := by decide +kernel
theorem dX6_many_45 : decode cX6_many 45 = .ok (.getfield 73, 3) := by decide +kernel
theorem dX6_many_48 : decode cX6_many 48 = .ok (.ireturn, 1) := by decide +kernel
theorem dX6_many_49 : decode cX6_many 49 = .ok (.aload_n 0, 1) := by decide +kernel
theorem dX6_many_50 : decode cX6_many 50 = .ok (.getfield 95, 3) := by decide +kernel
theorem dX6_many_53 : decode cX6_many 53 = .ok (.ireturn, 1) := by decide +kernel
theorem dX6_many_54 : decode cX6_many 54 = .ok (.aload_n 0, 1) := by decide +kernel
theorem dX6_many_55 : decode cX6_many 55 = .ok (.invokevirtual 174, 3) := by decide +kernel
theorem dX6_many_58 : decode cX6_many 58 = .ok (.ireturn, 1) := by decide +kernel
theorem dX6_many_59 : decode cX6_many 59 = .ok (.aload_n 0, 1) := by decide +kernel
theorem dX6_many_60 : decode cX6_many 60 = .ok (.iload_n 1, 1) := by decide +kernel
theorem dX6_many_61 : decode cX6_many 61 = .ok (.invokevirtual 177, 3) := by decide +kernel
theorem dX6_many_64 : decode cX6_many 64 = .ok (.ireturn, 1) := by decide +kernel
theorem dX6_many_65 : decode cX6_many 65 = .ok (.bipush (-2), 2) := by decide +kernel
theorem dX6_many_67 : decode cX6_many 67 = .ok (.ireturn, 1) := by decide +kernel
theorem dJ9_min_7cf53_0 : decode cJ9_min_7cf53 0 = .ok (.iload_n 0, 1) := by decide +kernel
theorem dJ9_min_7cf53_1 : decode cJ9_min_7cf53 1 = .ok (.iload_n 1, 1) := by decide +kernel
theorem dJ9_min_7cf53_2 : decode cJ9_min_7cf53 2 = .ok (.if_icmp .gt 7, 3) := by decide +kernel
theorem dJ9_min_7cf53_5 : decode cJ9_min_7cf53 5 = .ok (.iload_n 0, 1) := by decide +kernel
theorem dJ9_min_7cf53_6 : decode cJ9_min_7cf53 6 = .ok (.goto 4, 3) := by decide +kernel
theorem dJ9_min_7cf53_9 : decode cJ9_min_7cf53 9 = .ok (.iload_n 1, 1) := by decide +kernel
theorem dJ9_min_7cf53_10 : decode cJ9_min_7cf53 10 = .ok (.ireturn, 1) := by decide +kernel
set_option maxRecDepth 20000 in
theorem ggL_law_X5_init : GoodIn wsL_law wsX5_init := goodIn_r _ [8, 9, 10, 11, 12, 13, 14, 15, 16, 17, 18, 19, 20, 21, 22, 23, 24, 25, 26, 27, 28, 29, 30, 31, 32, 33, 34, 35, 36, 37, 38, 39, 40, 41, 42, 43, 44, 45, 46, 47, 48, 49, 50, 51, 52, 53, 54, 55, 56, 57, 58, 59, 60, 61, 62, 63, 64, 65, 66, 67, 68, 69, 70, 71, 72, 73, 596, 597, 564, 565, 566, 567, 568, 569, 570, 598, 599, 600, 601, 602, 603, 604, 605, 606, 607, 608, 609, 610, 611, 612, 613, 614, 615, 616, 617, 618, 619, 620, 621, 622, 623, 624] (by decide +kernel) (by decide +kernel)
set_option maxRecDepth 20000 in
theorem gL_law_X5_init : GoodIn wsL_law (wsX5_init) := ggL_law_X5_init
set_option maxRecDepth 20000 in
theorem ggL_law_X6_init : GoodIn wsL_law wsX6_init := goodIn_r _ [76, 77, 10, 11, 25, 78, 79, 80, 81, 82, 83, 84, 85, 86, 87, 88, 89, 90, 91, 92, 93, 94, 95, 96, 97, 98, 571, 572, 573, 574, 575, 576, 577, 578, 579, 580, 581, 582, 583, 584, 585, 586, 587, 588, 589, 590, 591, 592, 593, 594, 595] (by decide +kernel) (by decide +kernel)
set_option maxRecDepth 20000 in
theorem gL_law_X6_init : GoodIn wsL_law (wsX6_init) := ggL_law_X6_init
set_option maxRecDepth 20000 in
theorem ggL_law_X5_put : GoodIn wsL_law wsX5_put := goodIn_r _ [102, 15, 103, 104, 105, 2, 106, 107, 108, 109, 110, 111, 112, 23, 113, 114, 115, 116, 117, 14, 118, 119, 36, 120, 121, 122, 123, 38, 124, 125, 126, 42, 127, 128, 129, 130, 131, 132, 133, 134, 19, 135, 136, 137, 18, 138, 139, 140, 141, 142, 47, 58, 48, 49, 50, 143, 144, 145, 146, 147, 148, 149, 150, 151, 152, 153, 51, 52, 53, 54, 56, 57, 154, 155, 156, 157, 158, 159, 160, 161, 162, 163, 164, 165, 166, 167, 168, 22, 169, 170, 171, 63, 172, 173, 174, 175, 176, 177, 178, 179, 180, 62, 181, 182, 183, 184, 185, 186, 187, 188, 189, 190, 191, 192, 193, 194, 195, 196, 197, 198, 199, 200, 201, 202, 203, 204, 205, 206, 207, 564, 565, 566, 567, 568, 569, 570, 596, 597, 612, 613, 619, 620, 621, 622, 623, 624, 598, 599, 600, 601, 602, 603, 604, 605, 606, 607, 608, 609, 610, 611] (by decide +kernel) (by decide +kernel)
set_option maxRecDepth 20000 in
theorem gL_law_X5_put : GoodIn wsL_law (wsV RL 13 RX5 yX5_put wsX5_put) := goodIn_app (goodIn_of _ (by decide +kernel)) ggL_law_X5_put
set_option maxRecDepth 20000 in
theorem ggL_law_X6_put : GoodIn wsL_law wsX6_put := goodIn_r _ [211, 212, 78, 79, 92, 213, 214, 5, 215, 216, 217, 218, 219, 220, 221, 222, 223, 224, 225, 87, 226, 227, 228, 229, 80, 230, 231, 232, 233, 91, 234, 235, 236, 237, 238, 239, 240, 88, 89, 241, 242, 243, 244, 245, 246, 247, 85, 84, 83, 248, 249, 250, 251, 90, 252, 253, 254, 255, 256, 257, 258, 259, 81, 82, 86, 260, 261, 262, 263, 264, 265, 266, 267, 268, 269, 270, 571, 572, 573, 574, 575, 576, 577, 578, 579, 580, 581, 582, 583, 584, 585, 586, 587, 588, 589, 590, 591, 592, 593, 594, 595] (by decide +kernel) (by decide +kernel)
set_option maxRecDepth 20000 in
theorem gL_law_X6_put : GoodIn wsL_law (wsV RL 17 RX6 yX6_put wsX6_put) := goodIn_app (goodIn_of _ (by decide +kernel)) ggL_law_X6_put
set_option maxRecDepth 20000 in
theorem ggL_law_X5_change : GoodIn wsL_law wsX5_change := goodIn_r _ [274, 15, 112, 275, 276, 277, 2, 278, 103, 104, 105, 106, 107, 108, 109, 110, 111, 23, 113, 114, 279, 122, 123, 38, 124, 125, 126, 42, 127, 128, 129, 130, 131, 132, 133, 134, 19, 135, 136, 137, 18, 138, 139, 140, 141, 142, 47, 58, 48, 49, 50, 143, 144, 145, 146, 147, 148, 149, 150, 151, 152, 153, 51, 52, 53, 54, 56, 57, 154, 155, 156, 157, 158, 159, 160, 161, 162, 163, 164, 165, 166, 167, 168, 22, 169, 170, 171, 63, 172, 173, 174, 175, 176, 177, 178, 179, 180, 62, 181, 182, 183, 184, 185, 186, 187, 188, 189, 190, 191, 192, 193, 194, 195, 196, 197, 198, 199, 200, 201, 202, 203, 204, 205, 206, 207, 564, 565, 566, 567, 568, 569, 570, 596, 597, 612, 613, 619, 620, 621, 622, 623, 624, 598, 599, 600, 601, 602, 603, 604, 605, 606, 607, 608, 609, 610, 611] (by decide +kernel) (by decide +kernel)
set_option maxRecDepth 20000 in
theorem gL_law_X5_change : GoodIn wsL_law (wsV RL 18 RX5 yX5_change wsX5_change) := goodIn_app (goodIn_of _ (by decide +kernel)) ggL_law_X5_change
set_option maxRecDepth 20000 in
theorem ggL_law_X6_change : GoodIn wsL_law wsX6_change := goodIn_r _ [283, 78, 284, 285, 286, 5, 287, 212, 213, 214, 215, 216, 217, 218, 219, 220, 221, 222, 223, 224, 225, 92, 87, 226, 227, 228, 229, 80, 230, 231, 232, 233, 91, 234, 235, 236, 237, 238, 239, 240, 88, 89, 241, 242, 243, 244, 245, 246, 247, 85, 84, 83, 248, 249, 250, 251, 90, 252, 253, 254, 255, 256, 257, 258, 259, 81, 82, 86, 260, 261, 262, 263, 264, 265, 266, 267, 268, 269, 270, 571, 572, 573, 574, 575, 576, 577, 578, 579, 580, 581, 582, 583, 584, 585, 586, 587, 588, 589, 590, 591, 592, 593, 594, 595] (by decide +kernel) (by decide +kernel)
set_option maxRecDepth 20000 in
theorem gL_law_X6_change : GoodIn wsL_law (wsV RL 21 RX6 yX6_change wsX6_change) := goodIn_app (goodIn_of _ (by decide +kernel)) ggL_law_X6_change
set_option maxRecDepth 20000 in
theorem ggL_law_X5_take : GoodIn wsL_law wsX5_take := goodIn_r _ [291, 15, 275, 276, 277, 2, 278, 103, 108, 109, 110, 111, 112, 23, 113, 114, 292, 293, 294, 14, 295, 119, 36, 131, 132, 133, 134, 19, 135, 136, 137, 18, 138, 139, 140, 141, 142, 47, 58, 48, 49, 50, 143, 144, 145, 146, 147, 148, 149, 150, 151, 152, 153, 51, 52, 53, 54, 56, 57, 154, 155, 156, 38, 157, 126, 42, 158, 159, 160, 161, 127, 162, 163, 164, 165, 166, 167, 168, 22, 169, 170, 171, 63, 172, 173, 174, 175, 176, 177, 178, 179, 180, 62, 181, 182, 183, 184, 185, 186, 187, 188, 189, 190, 191, 192, 193, 194, 195, 196, 197, 198, 199, 200, 201, 202, 203, 204, 205, 206, 207, 564, 565, 566, 567, 568, 569, 570, 596, 597, 612, 613, 619, 620, 621, 622, 623, 624, 598, 599, 600, 601, 602, 603, 604, 605, 606, 607, 608, 609, 610, 611] (by decide +kernel) (by decide +kernel)
set_option maxRecDepth 20000 in
theorem gL_law_X5_take : GoodIn wsL_law (wsV RL 22 RX5 yX5_take wsX5_take) := goodIn_app (goodIn_of _ (by decide +kernel)) ggL_law_X5_take
set_option maxRecDepth 20000 in
theorem ggL_law_X6_take : GoodIn wsL_law wsX6_take := goodIn_r _ [299, 212, 78, 79, 92, 284, 285, 286, 5, 287, 213, 214, 215, 222, 223, 224, 225, 87, 226, 227, 228, 229, 80, 230, 231, 232, 233, 91, 234, 235, 236, 237, 238, 239, 240, 88, 89, 219, 220, 221, 241, 242, 243, 244, 245, 246, 247, 85, 84, 83, 248, 249, 250, 251, 90, 252, 253, 254, 255, 256, 257, 258, 259, 81, 82, 86, 260, 261, 262, 263, 264, 265, 266, 267, 268, 269, 270, 571, 572, 573, 574, 575, 576, 577, 578, 579, 580, 581, 582, 583, 584, 585, 586, 587, 588, 589, 590, 591, 592, 593, 594, 595] (by decide +kernel) (by decide +kernel)
set_option maxRecDepth 20000 in
theorem gL_law_X6_take : GoodIn wsL_law (wsV RL 26 RX6 yX6_take wsX6_take) := goodIn_app (goodIn_of _ (by decide +kernel)) ggL_law_X6_take
set_option maxRecDepth 20000 in
theorem ggL_law_X5_style : GoodIn wsL_law wsX5_style := goodIn_r _ [303, 23, 304, 15, 19, 305, 306, 2, 307, 308, 309, 166, 167, 168, 22, 169, 170, 171, 63, 172, 173, 174, 175, 176, 177, 178, 179, 180, 62, 181, 182, 183, 184, 185, 186, 187, 188, 189, 190, 191, 192, 193, 194, 195, 196, 197, 198, 199, 200, 201, 202, 203, 564, 565, 566, 567, 568, 569, 570, 612, 613, 596, 597, 619, 620, 621, 622, 623, 624, 598, 599, 600, 601, 602, 603, 604, 605, 606, 607, 608, 609, 610, 611] (by decide +kernel) (by decide +kernel)
set_option maxRecDepth 20000 in
theorem gL_law_X5_style : GoodIn wsL_law (wsV RL 27 RX5 yX5_style wsX5_style) := goodIn_app (goodIn_of _ (by decide +kernel)) ggL_law_X5_style
set_option maxRecDepth 20000 in
theorem ggL_law_X6_style : GoodIn wsL_law wsX6_style := goodIn_r _ [313, 80, 213, 214, 5, 215, 314, 315, 316, 571, 572, 573, 574, 575, 576, 577, 578, 579, 580, 581, 582, 583, 584, 585, 586, 587, 588, 589, 590, 591, 592, 593, 594, 595] (by decide +kernel) (by decide +kernel)
set_option maxRecDepth 20000 in
theorem gL_law_X6_style : GoodIn wsL_law (wsV RL 30 RX6 yX6_style wsX6_style) := goodIn_app (goodIn_of _ (by decide +kernel)) ggL_law_X6_style
set_option maxRecDepth 20000 in
theorem ggL_law_X5_ofLine : GoodIn wsL_law wsX5_ofLine := goodIn_r _ [320, 15, 112, 321, 23, 113, 322, 19, 323, 324, 325, 275, 276, 277, 2, 278, 103, 326, 155, 156, 38, 157, 126, 42, 564, 565, 566, 567, 568, 569, 570, 596, 597, 619, 620, 621, 622, 623, 624, 612, 613, 598, 599, 600, 601, 602, 603, 604, 605, 606, 607, 608, 609, 610, 611] (by decide +kernel) (by decide +kernel)
set_option maxRecDepth 20000 in
theorem gL_law_X5_ofLine : GoodIn wsL_law (wsV RL 31 RX5 yX5_ofLine wsX5_ofLine) := goodIn_app (goodIn_of _ (by decide +kernel)) ggL_law_X5_ofLine
set_option maxRecDepth 20000 in
theorem ggL_law_X6_ofLine : GoodIn wsL_law wsX6_ofLine := goodIn_r _ [330, 78, 87, 88, 89, 79, 284, 285, 286, 5, 287, 212, 213, 214, 215, 226, 227, 228, 229, 80, 230, 231, 232, 233, 91, 234, 235, 236, 237, 238, 239, 240, 219, 220, 221, 241, 242, 243, 244, 245, 246, 247, 85, 84, 83, 248, 249, 250, 251, 90, 252, 253, 254, 255, 256, 257, 258, 259, 81, 82, 86, 260, 261, 262, 263, 264, 265, 266, 331, 332, 333, 334, 571, 572, 573, 574, 575, 576, 577, 578, 579, 580, 581, 582, 583, 584, 585, 586, 587, 588, 589, 590, 591, 592, 593, 594, 595] (by decide +kernel) (by decide +kernel)
set_option maxRecDepth 20000 in
theorem gL_law_X6_ofLine : GoodIn wsL_law (wsV RL 34 RX6 yX6_ofLine wsX6_ofLine) := goodIn_app (goodIn_of _ (by decide +kernel)) ggL_law_X6_ofLine
set_option maxRecDepth 20000 in
theorem ggL_law_X5_opener : GoodIn wsL_law wsX5_opener := goodIn_r _ [338, 19, 339, 340, 23, 341, 342, 343, 344, 2, 345, 346, 347, 195, 196, 22, 197, 63, 198, 199, 348, 201, 202, 203, 349, 350, 351, 352, 180, 189, 190, 191, 192, 62, 193, 564, 565, 566, 567, 568, 569, 570, 598, 599, 600, 601, 602, 603, 604, 605, 606, 607, 608, 609, 610, 611, 612, 613] (by decide +kernel) (by decide +kernel)
set_option maxRecDepth 20000 in
theorem gL_law_X5_opener : GoodIn wsL_law (wsV RL 35 RX5 yX5_opener wsX5_opener) := goodIn_app (goodIn_of _ (by decide +kernel)) ggL_law_X5_opener
set_option maxRecDepth 20000 in
theorem ggL_law_X6_opener : GoodIn wsL_law wsX6_opener := goodIn_r _ [356, 234, 81, 82, 83, 84, 85, 86, 226, 227, 228, 5, 229, 80, 230, 231, 232, 233, 91, 235, 236, 212, 237, 238, 239, 240, 78, 88, 89, 87, 219, 220, 221, 241, 242, 243, 244, 245, 246, 247, 248, 249, 250, 251, 90, 252, 253, 254, 255, 256, 257, 258, 259, 260, 261, 262, 263, 264, 265, 266, 213, 214, 215, 571, 572, 573, 574, 575, 576, 577, 578, 579, 580, 581, 582, 583, 584, 585, 586, 587, 588, 589, 590, 591, 592, 593, 594, 595] (by decide +kernel) (by decide +kernel)
set_option maxRecDepth 20000 in
theorem gL_law_X6_opener : GoodIn wsL_law (wsV RL 38 RX6 yX6_opener wsX6_opener) := goodIn_app (goodIn_of _ (by decide +kernel)) ggL_law_X6_opener
set_option maxRecDepth 20000 in
theorem ggL_law_X5_unlike : GoodIn wsL_law wsX5_unlike := goodIn_r _ [360, 15, 103, 112, 23, 275, 276, 277, 2, 278, 361, 362, 363, 38, 364, 43, 126, 365, 366, 367, 368, 325, 113, 564, 565, 566, 567, 568, 569, 570, 596, 597, 619, 620, 621, 622, 623, 624, 612, 613] (by decide +kernel) (by decide +kernel)
set_option maxRecDepth 20000 in
theorem gL_law_X5_unlike : GoodIn wsL_law (wsV RL 39 RX5 yX5_unlike wsX5_unlike) := goodIn_app (goodIn_of _ (by decide +kernel)) ggL_law_X5_unlike
set_option maxRecDepth 20000 in
theorem ggL_law_X6_unlike : GoodIn wsL_law wsX6_unlike := goodIn_r _ [372, 212, 87, 79, 284, 285, 286, 5, 287, 213, 214, 215, 226, 227, 228, 229, 80, 230, 231, 232, 233, 91, 234, 235, 236, 237, 238, 239, 240, 78, 88, 89, 219, 220, 221, 241, 242, 243, 244, 245, 246, 247, 85, 84, 83, 248, 249, 250, 251, 90, 252, 253, 254, 255, 256, 257, 258, 259, 81, 82, 86, 260, 261, 262, 263, 264, 265, 266, 373, 374, 375, 376, 571, 572, 573, 574, 575, 576, 577, 578, 579, 580, 581, 582, 583, 584, 585, 586, 587, 588, 589, 590, 591, 592, 593, 594, 595] (by decide +kernel) (by decide +kernel)
set_option maxRecDepth 20000 in
theorem gL_law_X6_unlike : GoodIn wsL_law (wsV RL 42 RX6 yX6_unlike wsX6_unlike) := goodIn_app (goodIn_of _ (by decide +kernel)) ggL_law_X6_unlike
set_option maxRecDepth 20000 in
theorem ggL_law_X5_see : GoodIn wsL_law wsX5_see := goodIn_r _ [380, 15, 112, 325, 275, 276, 277, 2, 278, 103, 564, 565, 566, 567, 568, 569, 570, 596, 597, 619, 620, 621, 622, 623, 624] (by decide +kernel) (by decide +kernel)
set_option maxRecDepth 20000 in
theorem gL_law_X5_see : GoodIn wsL_law (wsV RL 43 RX5 yX5_see wsX5_see) := goodIn_app (goodIn_of _ (by decide +kernel)) ggL_law_X5_see
set_option maxRecDepth 20000 in
theorem ggL_law_X6_see : GoodIn wsL_law wsX6_see := goodIn_r _ [384, 79, 284, 285, 286, 5, 287, 212, 213, 214, 215, 571, 572, 573, 574, 575, 576, 577, 578, 579, 580, 581, 582, 583, 584, 585, 586, 587, 588, 589, 590, 591, 592, 593, 594, 595] (by decide +kernel) (by decide +kernel)
set_option maxRecDepth 20000 in
theorem gL_law_X6_see : GoodIn wsL_law (wsV RL 46 RX6 yX6_see wsX6_see) := goodIn_app (goodIn_of _ (by decide +kernel)) ggL_law_X6_see
set_option maxRecDepth 20000 in
theorem ggL_law_X5_fits : GoodIn wsL_law wsX5_fits := goodIn_r _ [388, 15, 103, 24, 389, 390, 2, 391, 305, 306, 307, 308, 309, 392, 393, 394, 395, 19, 64, 65, 66, 22, 67, 62, 166, 167, 168, 169, 170, 171, 63, 172, 173, 174, 175, 176, 177, 178, 179, 180, 181, 182, 183, 184, 185, 186, 187, 188, 189, 190, 191, 192, 193, 194, 195, 196, 197, 198, 199, 200, 201, 202, 203, 365, 366, 367, 368, 112, 325, 113, 361, 362, 363, 38, 364, 43, 126, 564, 565, 566, 567, 568, 569, 570, 596, 597, 612, 613, 619, 620, 621, 622, 623, 624, 598, 599, 600, 601, 602, 603, 604, 605, 606, 607, 608, 609, 610, 611] (by decide +kernel) (by decide +kernel)
set_option maxRecDepth 20000 in
theorem gL_law_X5_fits : GoodIn wsL_law (wsV RL 47 RX5 yX5_fits wsX5_fits) := goodIn_app (goodIn_of _ (by decide +kernel)) ggL_law_X5_fits
set_option maxRecDepth 20000 in
theorem ggL_law_X6_fits : GoodIn wsL_law wsX6_fits := goodIn_r _ [399, 212, 87, 79, 400, 401, 5, 402, 314, 315, 316, 213, 214, 215, 230, 231, 232, 233, 91, 234, 235, 236, 237, 238, 239, 240, 78, 88, 89, 219, 220, 221, 241, 242, 243, 244, 245, 246, 247, 85, 84, 83, 248, 249, 250, 251, 90, 252, 253, 254, 255, 256, 257, 258, 259, 81, 82, 86, 260, 261, 262, 263, 264, 265, 266, 373, 374, 375, 376, 571, 572, 573, 574, 575, 576, 577, 578, 579, 580, 581, 582, 583, 584, 585, 586, 587, 588, 589, 590, 591, 592, 593, 594, 595] (by decide +kernel) (by decide +kernel)
set_option maxRecDepth 20000 in
theorem gL_law_X6_fits : GoodIn wsL_law (wsV RL 51 RX6 yX6_fits wsX6_fits) := goodIn_app (goodIn_of _ (by decide +kernel)) ggL_law_X6_fits
set_option maxRecDepth 20000 in
theorem ggL_law_X5_score : GoodIn wsL_law wsX5_score := goodIn_r _ [406, 389, 390, 2, 391, 305, 306, 307, 308, 309, 392, 393, 394, 395, 24, 15, 19, 64, 65, 66, 22, 67, 62, 166, 167, 168, 169, 170, 171, 63, 172, 173, 174, 175, 176, 177, 178, 179, 180, 181, 182, 183, 184, 185, 186, 187, 188, 189, 190, 191, 192, 193, 194, 195, 196, 197, 198, 199, 200, 201, 202, 203, 407, 408, 409, 410, 103, 323, 411, 412, 413, 414, 365, 366, 367, 368, 112, 325, 113, 361, 362, 363, 38, 364, 43, 126, 415, 416, 417, 564, 565, 566, 567, 568, 569, 570, 612, 613, 596, 597, 619, 620, 621, 622, 623, 624, 598, 599, 600, 601, 602, 603, 604, 605, 606, 607, 608, 609, 610, 611] (by decide +kernel) (by decide +kernel)
set_option maxRecDepth 20000 in
theorem gL_law_X5_score : GoodIn wsL_law (wsV RL 52 RX5 yX5_score wsX5_score) := goodIn_app (goodIn_of _ (by decide +kernel)) ggL_law_X5_score
set_option maxRecDepth 20000 in
theorem ggL_law_X6_score : GoodIn wsL_law wsX6_score := goodIn_r _ [421, 400, 401, 5, 402, 314, 315, 316, 213, 214, 215, 422, 423, 424, 425, 212, 88, 87, 79, 230, 231, 232, 233, 91, 234, 235, 236, 237, 238, 239, 240, 78, 89, 219, 220, 221, 241, 242, 243, 244, 245, 246, 247, 85, 84, 83, 248, 249, 250, 251, 90, 252, 253, 254, 255, 256, 257, 258, 259, 81, 82, 86, 260, 261, 262, 263, 264, 265, 266, 373, 374, 375, 376, 426, 427, 428, 429, 571, 572, 573, 574, 575, 576, 577, 578, 579, 580, 581, 582, 583, 584, 585, 586, 587, 588, 589, 590, 591, 592, 593, 594, 595] (by decide +kernel) (by decide +kernel)
set_option maxRecDepth 20000 in
theorem gL_law_X6_score : GoodIn wsL_law (wsV RL 56 RX6 yX6_score wsX6_score) := goodIn_app (goodIn_of _ (by decide +kernel)) ggL_law_X6_score
set_option maxRecDepth 20000 in
theorem ggL_law_X5_guess : GoodIn wsL_law wsX5_guess := goodIn_r _ [433, 26, 434, 435, 436, 437, 2, 438, 15, 103, 112, 361, 362, 363, 38, 364, 43, 126, 439, 440, 441, 442, 308, 309, 392, 393, 394, 395, 24, 19, 64, 65, 66, 22, 67, 62, 166, 167, 168, 169, 170, 171, 63, 172, 173, 174, 175, 176, 177, 178, 179, 180, 181, 182, 183, 184, 185, 186, 187, 188, 189, 190, 191, 192, 193, 194, 195, 196, 197, 198, 199, 200, 201, 202, 203, 443, 444, 445, 446, 304, 407, 408, 409, 410, 323, 411, 412, 413, 414, 365, 366, 367, 368, 325, 113, 415, 416, 417, 564, 565, 566, 567, 568, 569, 570, 596, 597, 619, 620, 621, 622, 623, 624, 612, 613, 598, 599, 600, 601, 602, 603, 604, 605, 606, 607, 608, 609, 610, 611] (by decide +kernel) (by decide +kernel)
set_option maxRecDepth 20000 in
theorem gL_law_X5_guess : GoodIn wsL_law (wsV RL 57 RX5 yX5_guess wsX5_guess) := goodIn_app (goodIn_of _ (by decide +kernel)) ggL_law_X5_guess
set_option maxRecDepth 20000 in
theorem ggL_law_X6_guess : GoodIn wsL_law wsX6_guess := goodIn_r _ [450, 93, 213, 214, 5, 215, 451, 452, 453, 454, 212, 373, 374, 375, 376, 79, 78, 422, 423, 424, 425, 88, 87, 230, 231, 232, 233, 91, 234, 235, 236, 237, 238, 239, 240, 89, 219, 220, 221, 241, 242, 243, 244, 245, 246, 247, 85, 84, 83, 248, 249, 250, 251, 90, 252, 253, 254, 255, 256, 257, 258, 259, 81, 82, 86, 260, 261, 262, 263, 264, 265, 266, 426, 427, 428, 429, 571, 572, 573, 574, 575, 576, 577, 578, 579, 580, 581, 582, 583, 584, 585, 586, 587, 588, 589, 590, 591, 592, 593, 594, 595] (by decide +kernel) (by decide +kernel)
set_option maxRecDepth 20000 in
theorem gL_law_X6_guess : GoodIn wsL_law (wsV RL 60 RX6 yX6_guess wsX6_guess) := goodIn_app (goodIn_of _ (by decide +kernel)) ggL_law_X6_guess
set_option maxRecDepth 20000 in
theorem ggL_law_X5_follow : GoodIn wsL_law wsX5_follow := goodIn_r _ [458, 23, 26, 15, 19, 435, 436, 437, 2, 438, 103, 112, 361, 362, 363, 38, 364, 43, 126, 439, 440, 441, 442, 434, 308, 309, 392, 393, 394, 395, 24, 64, 65, 66, 22, 67, 62, 166, 167, 168, 169, 170, 171, 63, 172, 173, 174, 175, 176, 177, 178, 179, 180, 181, 182, 183, 184, 185, 186, 187, 188, 189, 190, 191, 192, 193, 194, 195, 196, 197, 198, 199, 200, 201, 202, 203, 443, 444, 445, 446, 304, 407, 408, 409, 410, 323, 411, 412, 413, 414, 365, 366, 367, 368, 325, 113, 108, 109, 110, 111, 114, 204, 205, 206, 207, 564, 565, 566, 567, 568, 569, 570, 596, 597, 619, 620, 621, 622, 623, 624, 612, 613, 598, 599, 600, 601, 602, 603, 604, 605, 606, 607, 608, 609, 610, 611] (by decide +kernel) (by decide +kernel)
set_option maxRecDepth 20000 in
theorem gL_law_X5_follow : GoodIn wsL_law (wsV RL 61 RX5 yX5_follow wsX5_follow) := goodIn_app (goodIn_of _ (by decide +kernel)) ggL_law_X5_follow
set_option maxRecDepth 20000 in
theorem ggL_law_X6_follow : GoodIn wsL_law wsX6_follow := goodIn_r _ [462, 80, 93, 451, 452, 453, 5, 454, 212, 373, 374, 375, 376, 79, 78, 422, 423, 424, 425, 88, 87, 230, 231, 232, 233, 91, 234, 235, 236, 237, 238, 239, 240, 89, 219, 220, 221, 241, 242, 243, 244, 245, 246, 247, 85, 84, 83, 248, 249, 250, 251, 90, 252, 253, 254, 255, 256, 257, 258, 259, 81, 82, 86, 260, 261, 262, 263, 264, 265, 266, 222, 223, 224, 225, 92, 226, 227, 228, 229, 267, 268, 269, 270, 571, 572, 573, 574, 575, 576, 577, 578, 579, 580, 581, 582, 583, 584, 585, 586, 587, 588, 589, 590, 591, 592, 593, 594, 595] (by decide +kernel) (by decide +kernel)
set_option maxRecDepth 20000 in
theorem gL_law_X6_follow : GoodIn wsL_law (wsV RL 65 RX6 yX6_follow wsX6_follow) := goodIn_app (goodIn_of _ (by decide +kernel)) ggL_law_X6_follow
set_option maxRecDepth 20000 in
theorem ggL_law_X5_pocket : GoodIn wsL_law wsX5_pocket := goodIn_r _ [466, 28, 467, 468, 2, 469, 470, 471, 472, 30, 473, 474, 475, 476, 477, 478, 479, 71, 72, 73, 564, 565, 566, 567, 568, 569, 570, 614, 615, 616, 617, 618] (by decide +kernel) (by decide +kernel)
set_option maxRecDepth 20000 in
theorem gL_law_X5_pocket : GoodIn wsL_law (wsV RL 66 RX5 yX5_pocket wsX5_pocket) := goodIn_app (goodIn_of _ (by decide +kernel)) ggL_law_X5_pocket
set_option maxRecDepth 20000 in
theorem ggL_law_X6_pocket : GoodIn wsL_law wsX6_pocket := goodIn_r _ [483, 94, 95, 96, 484, 485, 5, 486, 213, 214, 215, 571, 572, 573, 574, 575, 576, 577, 578, 579, 580, 581, 582, 583, 584, 585, 586, 587, 588, 589, 590, 591, 592, 593, 594, 595] (by decide +kernel) (by decide +kernel)
set_option maxRecDepth 20000 in
theorem gL_law_X6_pocket : GoodIn wsL_law (wsV RL 70 RX6 yX6_pocket wsX6_pocket) := goodIn_app (goodIn_of _ (by decide +kernel)) ggL_law_X6_pocket
set_option maxRecDepth 20000 in
theorem ggL_law_X5_store : GoodIn wsL_law wsX5_store := goodIn_r _ [490, 28, 491, 23, 19, 339, 467, 468, 2, 469, 342, 343, 344, 345, 346, 492, 493, 494, 30, 495, 475, 349, 350, 351, 22, 352, 180, 189, 190, 191, 192, 62, 193, 496, 497, 498, 499, 474, 347, 195, 196, 197, 63, 198, 199, 500, 477, 478, 479, 71, 72, 73, 564, 565, 566, 567, 568, 569, 570, 614, 615, 616, 617, 618, 598, 599, 600, 601, 602, 603, 604, 605, 606, 607, 608, 609, 610, 611, 612, 613] (by decide +kernel) (by decide +kernel)
set_option maxRecDepth 20000 in
theorem gL_law_X5_store : GoodIn wsL_law (wsV RL 71 RX5 yX5_store wsX5_store) := goodIn_app (goodIn_of _ (by decide +kernel)) ggL_law_X5_store
set_option maxRecDepth 20000 in
theorem ggL_law_X6_store : GoodIn wsL_law wsX6_store := goodIn_r _ [504, 234, 94, 85, 95, 96, 81, 97, 83, 98, 226, 227, 228, 5, 229, 80, 230, 231, 232, 233, 91, 235, 236, 212, 237, 238, 239, 240, 78, 88, 89, 87, 219, 220, 221, 241, 242, 243, 244, 245, 246, 247, 84, 248, 249, 250, 251, 90, 252, 253, 254, 255, 256, 257, 258, 259, 82, 86, 260, 261, 262, 263, 264, 265, 266, 484, 485, 486, 213, 214, 215, 505, 506, 507, 571, 572, 573, 574, 575, 576, 577, 578, 579, 580, 581, 582, 583, 584, 585, 586, 587, 588, 589, 590, 591, 592, 593, 594, 595] (by decide +kernel) (by decide +kernel)
set_option maxRecDepth 20000 in
theorem gL_law_X6_store : GoodIn wsL_law (wsV RL 74 RX6 yX6_store wsX6_store) := goodIn_app (goodIn_of _ (by decide +kernel)) ggL_law_X6_store
set_option maxRecDepth 20000 in
theorem ggL_law_X5_copy : GoodIn wsL_law wsX5_copy := goodIn_r _ [511, 28, 491, 467, 468, 2, 469, 512, 513, 514, 30, 515, 474, 475, 71, 72, 73, 476, 477, 478, 479, 564, 565, 566, 567, 568, 569, 570, 614, 615, 616, 617, 618] (by decide +kernel) (by decide +kernel)
set_option maxRecDepth 20000 in
theorem gL_law_X5_copy : GoodIn wsL_law (wsV RL 75 RX5 yX5_copy wsX5_copy) := goodIn_app (goodIn_of _ (by decide +kernel)) ggL_law_X5_copy
set_option maxRecDepth 20000 in
theorem ggL_law_X6_copy : GoodIn wsL_law wsX6_copy := goodIn_r _ [519, 94, 95, 96, 97, 98, 484, 485, 5, 486, 213, 214, 215, 571, 572, 573, 574, 575, 576, 577, 578, 579, 580, 581, 582, 583, 584, 585, 586, 587, 588, 589, 590, 591, 592, 593, 594, 595] (by decide +kernel) (by decide +kernel)
set_option maxRecDepth 20000 in
theorem gL_law_X6_copy : GoodIn wsL_law (wsV RL 78 RX6 yX6_copy wsX6_copy) := goodIn_app (goodIn_of _ (by decide +kernel)) ggL_law_X6_copy
set_option maxRecDepth 20000 in
theorem ggL_law_X5_ofPocket : GoodIn wsL_law wsX5_ofPocket := goodIn_r _ [523, 28, 491, 467, 468, 2, 469, 492, 493, 494, 30, 495, 475, 524, 525, 526, 527, 71, 72, 73, 564, 565, 566, 567, 568, 569, 570, 614, 615, 616, 617, 618] (by decide +kernel) (by decide +kernel)
set_option maxRecDepth 20000 in
theorem gL_law_X5_ofPocket : GoodIn wsL_law (wsV RL 79 RX5 yX5_ofPocket wsX5_ofPocket) := goodIn_app (goodIn_of _ (by decide +kernel)) ggL_law_X5_ofPocket
set_option maxRecDepth 20000 in
theorem ggL_law_X6_ofPocket : GoodIn wsL_law wsX6_ofPocket := goodIn_r _ [531, 94, 96, 97, 98, 484, 485, 5, 486, 213, 214, 215, 571, 572, 573, 574, 575, 576, 577, 578, 579, 580, 581, 582, 583, 584, 585, 586, 587, 588, 589, 590, 591, 592, 593, 594, 595] (by decide +kernel) (by decide +kernel)
set_option maxRecDepth 20000 in
theorem gL_law_X6_ofPocket : GoodIn wsL_law (wsV RL 82 RX6 yX6_ofPocket wsX6_ofPocket) := goodIn_app (goodIn_of _ (by decide +kernel)) ggL_law_X6_ofPocket
set_option maxRecDepth 20000 in
theorem ggL_law_X5_many : GoodIn wsL_law wsX5_many := goodIn_r _ [535, 15, 103, 19, 346, 536, 537, 538, 18, 539, 139, 57, 540, 541, 542, 2, 543, 324, 544, 545, 546, 547, 112, 325, 548, 549, 550, 551, 322, 564, 565, 566, 567, 568, 569, 570, 596, 597, 598, 599, 600, 601, 602, 603, 604, 605, 606, 607, 608, 609, 610, 611, 619, 620, 621, 622, 623, 624] (by decide +kernel) (by decide +kernel)
set_option maxRecDepth 20000 in
theorem gL_law_X5_many : GoodIn wsL_law (wsV RL 83 RX5 yX5_many wsX5_many) := goodIn_app (goodIn_of _ (by decide +kernel)) ggL_law_X5_many
set_option maxRecDepth 20000 in
theorem ggL_law_X6_many : GoodIn wsL_law wsX6_many := goodIn_r _ [555, 212, 234, 226, 227, 228, 5, 229, 80, 230, 231, 232, 233, 91, 235, 236, 237, 238, 239, 240, 78, 88, 89, 87, 219, 220, 221, 241, 242, 243, 244, 245, 246, 247, 85, 84, 83, 248, 249, 250, 251, 90, 252, 253, 254, 255, 256, 257, 258, 259, 81, 82, 86, 260, 261, 262, 263, 264, 265, 266, 556, 557, 558, 559, 560, 561, 562, 563, 79, 571, 572, 573, 574, 575, 576, 577, 578, 579, 580, 581, 582, 583, 584, 585, 586, 587, 588, 589, 590, 591, 592, 593, 594, 595] (by decide +kernel) (by decide +kernel)
set_option maxRecDepth 20000 in
theorem gL_law_X6_many : GoodIn wsL_law (wsV RL 86 RX6 yX6_many wsX6_many) := goodIn_app (goodIn_of _ (by decide +kernel)) ggL_law_X6_many
