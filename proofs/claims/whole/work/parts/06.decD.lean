set_option maxRecDepth 20000 in
theorem ggX7_day_X7_isSheet : GoodIn wsX7_day wsX7_isSheet := goodIn_r _ [9, 10, 11, 8, 12] (by decide +kernel) (by decide +kernel)
set_option maxRecDepth 20000 in
theorem gX7_day_X7_isSheet : GoodIn wsX7_day (va_wsS RX7 68 yX7_isSheet wsX7_isSheet) := goodIn_app (goodIn_of _ (by decide +kernel)) ggX7_day_X7_isSheet
set_option maxRecDepth 20000 in
theorem ggX7_day_X7_isSort : GoodIn wsX7_day wsX7_isSort := goodIn_r _ [15, 10, 11, 8, 12] (by decide +kernel) (by decide +kernel)
set_option maxRecDepth 20000 in
theorem gX7_day_X7_isSort : GoodIn wsX7_day (va_wsS RX7 72 yX7_isSort wsX7_isSort) := goodIn_app (goodIn_of _ (by decide +kernel)) ggX7_day_X7_isSort
set_option maxRecDepth 20000 in
theorem ggX7_day_X7_within : GoodIn wsX7_day wsX7_within := goodIn_r _ [12] (by decide +kernel) (by decide +kernel)
set_option maxRecDepth 20000 in
theorem gX7_day_X7_within : GoodIn wsX7_day (va_wsS RX7 58 yX7_within wsX7_within) := goodIn_app (goodIn_of _ (by decide +kernel)) ggX7_day_X7_within
set_option maxRecDepth 20000 in
theorem ggX7_day_X7_against : GoodIn wsX7_day wsX7_against := goodIn_r _ [19, 20, 21, 94, 95, 96, 97, 98, 99, 100, 101, 102, 103, 104, 105, 106, 107, 108, 109, 110, 111, 112, 113, 114, 115, 116] (by decide +kernel) (by decide +kernel)
set_option maxRecDepth 20000 in
theorem gX7_day_X7_against : GoodIn wsX7_day (wsV RX7 75 RX7 yX7_against wsX7_against) := goodIn_app (goodIn_of _ (by decide +kernel)) ggX7_day_X7_against
set_option maxRecDepth 20000 in
theorem ggX7_day_X7_fails : GoodIn wsX7_day wsX7_fails := goodIn_r _ [25, 1, 94, 95, 96, 97, 98, 99, 100, 101, 102, 103, 104, 105, 106, 107, 108, 109, 110, 111, 112, 113, 114, 115, 116] (by decide +kernel) (by decide +kernel)
set_option maxRecDepth 20000 in
theorem gX7_day_X7_fails : GoodIn wsX7_day (wsV RX7 79 RX7 yX7_fails wsX7_fails) := goodIn_app (goodIn_of _ (by decide +kernel)) ggX7_day_X7_fails
set_option maxRecDepth 20000 in
theorem ggX7_day_X7_refusesPair : GoodIn wsX7_day wsX7_refusesPair := goodIn_r _ [29, 30, 10, 11, 8, 12, 31, 32, 33, 34, 2, 94, 95, 96, 97, 98, 99, 100, 101, 102, 103, 104, 105, 106, 107, 108, 109, 110, 111, 112, 113, 114, 115, 116] (by decide +kernel) (by decide +kernel)
set_option maxRecDepth 20000 in
theorem gX7_day_X7_refusesPair : GoodIn wsX7_day (wsV RX7 158 RX7 yX7_refusesPair wsX7_refusesPair) := goodIn_app (goodIn_of _ (by decide +kernel)) ggX7_day_X7_refusesPair
set_option maxRecDepth 20000 in
theorem ggX7_day_X7_goDay : GoodIn wsX7_day wsX7_goDay := goodIn_r _ [38, 39, 40, 41, 3, 42, 43, 44, 8, 45, 2, 5, 46, 47, 48, 49, 50, 51, 52, 53, 54, 55, 56, 57, 58, 59, 60, 61, 62, 63, 64, 65, 66, 67, 68, 69, 70, 71, 72, 73, 74, 75, 76, 77, 78, 79, 80, 81, 82, 83, 84, 85, 86, 87, 88, 89, 94, 95, 96, 97, 98, 99, 100, 101, 102, 103, 104, 105, 106, 107, 108, 109, 110, 111, 112, 113, 114, 115, 116] (by decide +kernel) (by decide +kernel)
set_option maxRecDepth 20000 in
theorem gX7_day_X7_goDay : GoodIn wsX7_day (wsV RX7 161 RX7 yX7_goDay wsX7_goDay) := goodIn_app (goodIn_of _ (by decide +kernel)) ggX7_day_X7_goDay
set_option maxRecDepth 20000 in
theorem ggX7_day_X7_tellDay : GoodIn wsX7_day wsX7_tellDay := goodIn_r _ [93, 5, 39, 40, 41, 31, 32, 33, 8, 34, 2, 42, 43, 44, 45, 46, 47, 48, 49, 50, 51, 52, 53, 54, 55, 56, 57, 58, 94, 95, 96, 97, 98, 99, 100, 101, 102, 103, 104, 105, 106, 107, 108, 109, 110, 111, 112, 113, 114, 115, 116] (by decide +kernel) (by decide +kernel)
set_option maxRecDepth 20000 in
theorem gX7_day_X7_tellDay : GoodIn wsX7_day (wsV RX7 164 RX7 yX7_tellDay wsX7_tellDay) := goodIn_app (goodIn_of _ (by decide +kernel)) ggX7_day_X7_tellDay
theorem dX7_day_0 : decode cX7_day 0 = .ok (.aload_n 0, 1) := by decide +kernel
theorem dX7_day_1 : decode cX7_day 1 = .ok (.iconst 0, 1) := by decide +kernel
theorem dX7_day_2 : decode cX7_day 2 = .ok (.putfield 52, 3) := by decide +kernel
theorem dX7_day_5 : decode cX7_day 5 = .ok (.iload_n 1, 1) := by decide +kernel
theorem dX7_day_6 : decode cX7_day 6 = .ok (.invokestatic 68, 3) := by decide +kernel
theorem dX7_day_9 : decode cX7_day 9 = .ok (.ifCond .ne 5, 3) := by decide +kernel
theorem dX7_day_12 : decode cX7_day 12 = .ok (.iconst (-1), 1) := by decide +kernel
theorem dX7_day_13 : decode cX7_day 13 = .ok (.ireturn, 1) := by decide +kernel
theorem dX7_day_14 : decode cX7_day 14 = .ok (.iload_n 2, 1) := by decide +kernel
theorem dX7_day_15 : decode cX7_day 15 = .ok (.invokestatic 72, 3) := by decide +kernel
theorem dX7_day_18 : decode cX7_day 18 = .ok (.ifCond .eq 36, 3) := by decide +kernel
theorem dX7_day_21 : decode cX7_day 21 = .ok (.iload 4, 2) := by decide +kernel
theorem dX7_day_23 : decode cX7_day 23 = .ok (.iconst 0, 1) := by decide +kernel
theorem dX7_day_24 : decode cX7_day 24 = .ok (.bipush 20, 2) := by decide +kernel
theorem dX7_day_26 : decode cX7_day 26 = .ok (.invokestatic 58, 3) := by decide +kernel
theorem dX7_day_29 : decode cX7_day 29 = .ok (.ifCond .eq 25, 3) := by decide +kernel
theorem dX7_day_32 : decode cX7_day 32 = .ok (.iload 5, 2) := by decide +kernel
theorem dX7_day_34 : decode cX7_day 34 = .ok (.iconst 0, 1) := by decide +kernel
theorem dX7_day_35 : decode cX7_day 35 = .ok (.iconst 4, 1) := by decide +kernel
theorem dX7_day_36 : decode cX7_day 36 = .ok (.invokestatic 58, 3) := by decide +kernel
theorem dX7_day_39 : decode cX7_day 39 = .ok (.ifCond .ne 18, 3) := by decide +kernel
theorem dX7_day_42 : decode cX7_day 42 = .ok (.iload 5, 2) := by decide +kernel
theorem dX7_day_44 : decode cX7_day 44 = .ok (.bipush 10, 2) := by decide +kernel
theorem dX7_day_46 : decode cX7_day 46 = .ok (.bipush 15, 2) := by decide +kernel
theorem dX7_day_48 : decode cX7_day 48 = .ok (.invokestatic 58, 3) := by decide +kernel
theorem dX7_day_51 : decode cX7_day 51 = .ok (.ifCond .ne 6, 3) := by decide +kernel
theorem dX7_day_54 : decode cX7_day 54 = .ok (.bipush (-2), 2) := by decide +kernel
theorem dX7_day_56 : decode cX7_day 56 = .ok (.ireturn, 1) := by decide +kernel
theorem dX7_day_57 : decode cX7_day 57 = .ok (.aload_n 0, 1) := by decide +kernel
theorem dX7_day_58 : decode cX7_day 58 = .ok (.iload_n 1, 1) := by decide +kernel
theorem dX7_day_59 : decode cX7_day 59 = .ok (.iload_n 2, 1) := by decide +kernel
theorem dX7_day_60 : decode cX7_day 60 = .ok (.iload_n 3, 1) := by decide +kernel
theorem dX7_day_61 : decode cX7_day 61 = .ok (.iconst 2, 1) := by decide +kernel
theorem dX7_day_62 : decode cX7_day 62 = .ok (.iload 4, 2) := by decide +kernel
theorem dX7_day_64 : decode cX7_day 64 = .ok (.imul, 1) := by decide +kernel
theorem dX7_day_65 : decode cX7_day 65 = .ok (.invokevirtual 75, 3) := by decide +kernel
theorem dX7_day_68 : decode cX7_day 68 = .ok (.istore 6, 2) := by decide +kernel
theorem dX7_day_70 : decode cX7_day 70 = .ok (.iload 6, 2) := by decide +kernel
theorem dX7_day_72 : decode cX7_day 72 = .ok (.ifCond .eq 10, 3) := by decide +kernel
theorem dX7_day_75 : decode cX7_day 75 = .ok (.aload_n 0, 1) := by decide +kernel
theorem dX7_day_76 : decode cX7_day 76 = .ok (.iload 6, 2) := by decide +kernel
theorem dX7_day_78 : decode cX7_day 78 = .ok (.invokevirtual 79, 3) := by decide +kernel
theorem dX7_day_81 : decode cX7_day 81 = .ok (.ireturn, 1) := by decide +kernel
theorem dX7_day_82 : decode cX7_day 82 = .ok (.aload_n 0, 1) := by decide +kernel
theorem dX7_day_83 : decode cX7_day 83 = .ok (.getfield 62, 3) := by decide +kernel
theorem dX7_day_86 : decode cX7_day 86 = .ok (.ifCond .ne 6, 3) := by decide +kernel
theorem dX7_day_89 : decode cX7_day 89 = .ok (.bipush (-3), 2) := by decide +kernel
theorem dX7_day_91 : decode cX7_day 91 = .ok (.ireturn, 1) := by decide +kernel
theorem dX7_day_92 : decode cX7_day 92 = .ok (.bipush 60, 2) := by decide +kernel
theorem dX7_day_94 : decode cX7_day 94 = .ok (.iload_n 1, 1) := by decide +kernel
theorem dX7_day_95 : decode cX7_day 95 = .ok (.imul, 1) := by decide +kernel
theorem dX7_day_96 : decode cX7_day 96 = .ok (.iload_n 3, 1) := by decide +kernel
theorem dX7_day_97 : decode cX7_day 97 = .ok (.iadd, 1) := by decide +kernel
theorem dX7_day_98 : decode cX7_day 98 = .ok (.istore 7, 2) := by decide +kernel
theorem dX7_day_100 : decode cX7_day 100 = .ok (.iconst 0, 1) := by decide +kernel
theorem dX7_day_101 : decode cX7_day 101 = .ok (.istore 8, 2) := by decide +kernel
theorem dX7_day_103 : decode cX7_day 103 = .ok (.iload 8, 2) := by decide +kernel
theorem dX7_day_105 : decode cX7_day 105 = .ok (.iload 4, 2) := by decide +kernel
theorem dX7_day_107 : decode cX7_day 107 = .ok (.if_icmp .ge 49, 3) := by decide +kernel
theorem dX7_day_110 : decode cX7_day 110 = .ok (.aload_n 0, 1) := by decide +kernel
theorem dX7_day_111 : decode cX7_day 111 = .ok (.aload_n 0, 1) := by decide +kernel
theorem dX7_day_112 : decode cX7_day 112 = .ok (.getfield 16, 3) := by decide +kernel
theorem dX7_day_115 : decode cX7_day 115 = .ok (.iload 7, 2) := by decide +kernel
theorem dX7_day_117 : decode cX7_day 117 = .ok (.iconst 2, 1) := by decide +kernel
theorem dX7_day_118 : decode cX7_day 118 = .ok (.iload 8, 2) := by decide +kernel
theorem dX7_day_120 : decode cX7_day 120 = .ok (.imul, 1) := by decide +kernel
theorem dX7_day_121 : decode cX7_day 121 = .ok (.iadd, 1) := by decide +kernel
theorem dX7_day_122 : decode cX7_day 122 = .ok (.iaload, 1) := by decide +kernel
theorem dX7_day_123 : decode cX7_day 123 = .ok (.aload_n 0, 1) := by decide +kernel
theorem dX7_day_124 : decode cX7_day 124 = .ok (.getfield 16, 3) := by decide +kernel
theorem dX7_day_127 : decode cX7_day 127 = .ok (.iload 7, 2) := by decide +kernel
theorem dX7_day_129 : decode cX7_day 129 = .ok (.iconst 2, 1) := by decide +kernel
theorem dX7_day_130 : decode cX7_day 130 = .ok (.iload 8, 2) := by decide +kernel
theorem dX7_day_132 : decode cX7_day 132 = .ok (.imul, 1) := by decide +kernel
theorem dX7_day_133 : decode cX7_day 133 = .ok (.iadd, 1) := by decide +kernel
theorem dX7_day_134 : decode cX7_day 134 = .ok (.iconst 1, 1) := by decide +kernel
theorem dX7_day_135 : decode cX7_day 135 = .ok (.iadd, 1) := by decide +kernel
theorem dX7_day_136 : decode cX7_day 136 = .ok (.iaload, 1) := by decide +kernel
theorem dX7_day_137 : decode cX7_day 137 = .ok (.invokevirtual 158, 3) := by decide +kernel
theorem dX7_day_140 : decode cX7_day 140 = .ok (.istore 9, 2) := by decide +kernel
theorem dX7_day_142 : decode cX7_day 142 = .ok (.iload 9, 2) := by decide +kernel
theorem dX7_day_144 : decode cX7_day 144 = .ok (.ifCond .eq 6, 3) := by decide +kernel
theorem dX7_day_147 : decode cX7_day 147 = .ok (.iload 9, 2) := by decide +kernel
theorem dX7_day_149 : decode cX7_day 149 = .ok (.ireturn, 1) := by decide +kernel
theorem dX7_day_150 : decode cX7_day 150 = .ok (.iinc 8 1, 3) := by decide +kernel
theorem dX7_day_153 : decode cX7_day 153 = .ok (.goto (-50), 3) := by decide +kernel
theorem dX7_day_156 : decode cX7_day 156 = .ok (.iconst 0, 1) := by decide +kernel
theorem dX7_day_157 : decode cX7_day 157 = .ok (.istore 8, 2) := by decide +kernel
theorem dX7_day_159 : decode cX7_day 159 = .ok (.iload 8, 2) := by decide +kernel
theorem dX7_day_161 : decode cX7_day 161 = .ok (.aload_n 0, 1) := by decide +kernel
theorem dX7_day_162 : decode cX7_day 162 = .ok (.getfield 62, 3) := by decide +kernel
theorem dX7_day_165 : decode cX7_day 165 = .ok (.if_icmp .ge 23, 3) := by decide +kernel
theorem dX7_day_168 : decode cX7_day 168 = .ok (.aload_n 0, 1) := by decide +kernel
theorem dX7_day_169 : decode cX7_day 169 = .ok (.getfield 31, 3) := by decide +kernel
theorem dX7_day_172 : decode cX7_day 172 = .ok (.iload 8, 2) := by decide +kernel
theorem dX7_day_174 : decode cX7_day 174 = .ok (.aload_n 0, 1) := by decide +kernel
theorem dX7_day_175 : decode cX7_day 175 = .ok (.getfield 25, 3) := by decide +kernel
theorem dX7_day_178 : decode cX7_day 178 = .ok (.iload 8, 2) := by decide +kernel
theorem dX7_day_180 : decode cX7_day 180 = .ok (.iaload, 1) := by decide +kernel
theorem dX7_day_181 : decode cX7_day 181 = .ok (.iastore, 1) := by decide +kernel
theorem dX7_day_182 : decode cX7_day 182 = .ok (.iinc 8 1, 3) := by decide +kernel
theorem dX7_day_185 : decode cX7_day 185 = .ok (.goto (-26), 3) := by decide +kernel
theorem dX7_day_188 : decode cX7_day 188 = .ok (.aload_n 0, 1) := by decide +kernel
theorem dX7_day_189 : decode cX7_day 189 = .ok (.iload 7, 2) := by decide +kernel
theorem dX7_day_191 : decode cX7_day 191 = .ok (.iload 4, 2) := by decide +kernel
theorem dX7_day_193 : decode cX7_day 193 = .ok (.invokevirtual 161, 3) := by decide +kernel
theorem dX7_day_196 : decode cX7_day 196 = .ok (.istore 8, 2) := by decide +kernel
theorem dX7_day_198 : decode cX7_day 198 = .ok (.aload_n 0, 1) := by decide +kernel
theorem dX7_day_199 : decode cX7_day 199 = .ok (.iload 5, 2) := by decide +kernel
theorem dX7_day_201 : decode cX7_day 201 = .ok (.invokevirtual 164, 3) := by decide +kernel
theorem dX7_day_204 : decode cX7_day 204 = .ok (.istore 9, 2) := by decide +kernel
theorem dX7_day_206 : decode cX7_day 206 = .ok (.iconst 0, 1) := by decide +kernel
theorem dX7_day_207 : decode cX7_day 207 = .ok (.istore 10, 2) := by decide +kernel
theorem dX7_day_209 : decode cX7_day 209 = .ok (.iload 10, 2) := by decide +kernel
theorem dX7_day_211 : decode cX7_day 211 = .ok (.aload_n 0, 1) := by decide +kernel
theorem dX7_day_212 : decode cX7_day 212 = .ok (.getfield 62, 3) := by decide +kernel
theorem dX7_day_215 : decode cX7_day 215 = .ok (.if_icmp .ge 23, 3) := by decide +kernel
theorem dX7_day_218 : decode cX7_day 218 = .ok (.aload_n 0, 1) := by decide +kernel
theorem dX7_day_219 : decode cX7_day 219 = .ok (.getfield 25, 3) := by decide +kernel
theorem dX7_day_222 : decode cX7_day 222 = .ok (.iload 10, 2) := by decide +kernel
theorem dX7_day_224 : decode cX7_day 224 = .ok (.aload_n 0, 1) := by decide +kernel
theorem dX7_day_225 : decode cX7_day 225 = .ok (.getfield 31, 3) := by decide +kernel
theorem dX7_day_228 : decode cX7_day 228 = .ok (.iload 10, 2) := by decide +kernel
theorem dX7_day_230 : decode cX7_day 230 = .ok (.iaload, 1) := by decide +kernel
theorem dX7_day_231 : decode cX7_day 231 = .ok (.iastore, 1) := by decide +kernel
theorem dX7_day_232 : decode cX7_day 232 = .ok (.iinc 10 1, 3) := by decide +kernel
theorem dX7_day_235 : decode cX7_day 235 = .ok (.goto (-26), 3) := by decide +kernel
theorem dX7_day_238 : decode cX7_day 238 = .ok (.iload 5, 2) := by decide +kernel
theorem dX7_day_240 : decode cX7_day 240 = .ok (.iconst 1, 1) := by decide +kernel
theorem dX7_day_241 : decode cX7_day 241 = .ok (.if_icmp .ne 8, 3) := by decide +kernel
theorem dX7_day_244 : decode cX7_day 244 = .ok (.iload 8, 2) := by decide +kernel
theorem dX7_day_246 : decode cX7_day 246 = .ok (.goto 20, 3) := by decide +kernel
theorem dX7_day_249 : decode cX7_day 249 = .ok (.iload 8, 2) := by decide +kernel
theorem dX7_day_251 : decode cX7_day 251 = .ok (.bipush (-9), 2) := by decide +kernel
theorem dX7_day_253 : decode cX7_day 253 = .ok (.if_icmp .ne 8, 3) := by decide +kernel
theorem dX7_day_256 : decode cX7_day 256 = .ok (.iload 9, 2) := by decide +kernel
theorem dX7_day_258 : decode cX7_day 258 = .ok (.goto 8, 3) := by decide +kernel
theorem dX7_day_261 : decode cX7_day 261 = .ok (.bipush (-100), 2) := by decide +kernel
theorem dX7_day_263 : decode cX7_day 263 = .ok (.iload 8, 2) := by decide +kernel
theorem dX7_day_265 : decode cX7_day 265 = .ok (.isub, 1) := by decide +kernel
theorem dX7_day_266 : decode cX7_day 266 = .ok (.ireturn, 1) := by decide +kernel
set_option maxRecDepth 20000 in
theorem ggX7_tellDay_X7_isWire : GoodIn wsX7_tellDay wsX7_isWire := goodIn_r _ [9, 10, 28, 29, 30, 31, 32, 33, 34, 35, 36, 37, 38, 39, 40, 41, 42, 43, 44, 45, 46, 47, 48, 49, 50] (by decide +kernel) (by decide +kernel)
set_option maxRecDepth 20000 in
theorem gX7_tellDay_X7_isWire : GoodIn wsX7_tellDay (wsV RX7 113 RX7 yX7_isWire wsX7_isWire) := goodIn_app (goodIn_of _ (by decide +kernel)) ggX7_tellDay_X7_isWire
set_option maxRecDepth 20000 in
theorem ggX7_tellDay_X7_numberNow : GoodIn wsX7_tellDay wsX7_numberNow := goodIn_r _ [14, 10, 1, 15, 16, 17, 8, 18, 19, 20, 21, 22, 23, 24, 25, 26, 27, 28, 29, 30, 31, 32, 33, 34, 35, 36, 37, 38, 39, 40, 41, 42, 43, 44, 45, 46, 47, 48, 49, 50] (by decide +kernel) (by decide +kernel)
set_option maxRecDepth 20000 in
theorem gX7_tellDay_X7_numberNow : GoodIn wsX7_tellDay (wsV RX7 116 RX7 yX7_numberNow wsX7_numberNow) := goodIn_app (goodIn_of _ (by decide +kernel)) ggX7_tellDay_X7_numberNow
theorem dX7_tellDay_0 : decode cX7_tellDay 0 = .ok (.iload_n 1, 1) := by decide +kernel
theorem dX7_tellDay_1 : decode cX7_tellDay 1 = .ok (.bipush 10, 2) := by decide +kernel
theorem dX7_tellDay_3 : decode cX7_tellDay 3 = .ok (.if_icmp .lt 29, 3) := by decide +kernel
theorem dX7_tellDay_6 : decode cX7_tellDay 6 = .ok (.aload_n 0, 1) := by decide +kernel
theorem dX7_tellDay_7 : decode cX7_tellDay 7 = .ok (.iload_n 1, 1) := by decide +kernel
theorem dX7_tellDay_8 : decode cX7_tellDay 8 = .ok (.bipush 10, 2) := by decide +kernel
theorem dX7_tellDay_10 : decode cX7_tellDay 10 = .ok (.isub, 1) := by decide +kernel
theorem dX7_tellDay_11 : decode cX7_tellDay 11 = .ok (.invokevirtual 113, 3) := by decide +kernel
theorem dX7_tellDay_14 : decode cX7_tellDay 14 = .ok (.ifCond .eq 15, 3) := by decide +kernel
theorem dX7_tellDay_17 : decode cX7_tellDay 17 = .ok (.aload_n 0, 1) := by decide +kernel
theorem dX7_tellDay_18 : decode cX7_tellDay 18 = .ok (.getfield 25, 3) := by decide +kernel
theorem dX7_tellDay_21 : decode cX7_tellDay 21 = .ok (.iload_n 1, 1) := by decide +kernel
theorem dX7_tellDay_22 : decode cX7_tellDay 22 = .ok (.bipush 10, 2) := by decide +kernel
theorem dX7_tellDay_24 : decode cX7_tellDay 24 = .ok (.isub, 1) := by decide +kernel
theorem dX7_tellDay_25 : decode cX7_tellDay 25 = .ok (.iaload, 1) := by decide +kernel
theorem dX7_tellDay_26 : decode cX7_tellDay 26 = .ok (.goto 5, 3) := by decide +kernel
theorem dX7_tellDay_29 : decode cX7_tellDay 29 = .ok (.bipush (-9), 2) := by decide +kernel
theorem dX7_tellDay_31 : decode cX7_tellDay 31 = .ok (.ireturn, 1) := by decide +kernel
theorem dX7_tellDay_32 : decode cX7_tellDay 32 = .ok (.iload_n 1, 1) := by decide +kernel
theorem dX7_tellDay_33 : decode cX7_tellDay 33 = .ok (.tableswitch 46 0 3 #[31, 46, 36, 41], 31) := by decide +kernel
theorem dX7_tellDay_64 : decode cX7_tellDay 64 = .ok (.aload_n 0, 1) := by decide +kernel
theorem dX7_tellDay_65 : decode cX7_tellDay 65 = .ok (.invokevirtual 116, 3) := by decide +kernel
theorem dX7_tellDay_68 : decode cX7_tellDay 68 = .ok (.ireturn, 1) := by decide +kernel
theorem dX7_tellDay_69 : decode cX7_tellDay 69 = .ok (.aload_n 0, 1) := by decide +kernel
theorem dX7_tellDay_70 : decode cX7_tellDay 70 = .ok (.getfield 145, 3) := by decide +kernel
theorem dX7_tellDay_73 : decode cX7_tellDay 73 = .ok (.ireturn, 1) := by decide +kernel
theorem dX7_tellDay_74 : decode cX7_tellDay 74 = .ok (.aload_n 0, 1) := by decide +kernel
theorem dX7_tellDay_75 : decode cX7_tellDay 75 = .ok (.getfield 148, 3) := by decide +kernel
theorem dX7_tellDay_78 : decode cX7_tellDay 78 = .ok (.ireturn, 1) := by decide +kernel
theorem dX7_tellDay_79 : decode cX7_tellDay 79 = .ok (.aload_n 0, 1) := by decide +kernel
theorem dX7_tellDay_80 : decode cX7_tellDay 80 = .ok (.getfield 151, 3) := by decide +kernel
theorem dX7_tellDay_83 : decode cX7_tellDay 83 = .ok (.ireturn, 1) := by decide +kernel
theorem dX7_ordersOf_0 : decode cX7_ordersOf 0 = .ok (.iconst 1, 1) := by decide +kernel
theorem dX7_ordersOf_1 : decode cX7_ordersOf 1 = .ok (.istore_n 1, 1) := by decide +kernel
theorem dX7_ordersOf_2 : decode cX7_ordersOf 2 = .ok (.iconst 2, 1) := by decide +kernel
theorem dX7_ordersOf_3 : decode cX7_ordersOf 3 = .ok (.istore_n 2, 1) := by decide +kernel
theorem dX7_ordersOf_4 : decode cX7_ordersOf 4 = .ok (.iload_n 2, 1) := by decide +kernel
theorem dX7_ordersOf_5 : decode cX7_ordersOf 5 = .ok (.iload_n 0, 1) := by decide +kernel
theorem dX7_ordersOf_6 : decode cX7_ordersOf 6 = .ok (.if_icmp .gt 13, 3) := by decide +kernel
theorem dX7_ordersOf_9 : decode cX7_ordersOf 9 = .ok (.iload_n 1, 1) := by decide +kernel
theorem dX7_ordersOf_10 : decode cX7_ordersOf 10 = .ok (.iload_n 2, 1) := by decide +kernel
theorem dX7_ordersOf_11 : decode cX7_ordersOf 11 = .ok (.imul, 1) := by decide +kernel
theorem dX7_ordersOf_12 : decode cX7_ordersOf 12 = .ok (.istore_n 1, 1) := by decide +kernel
theorem dX7_ordersOf_13 : decode cX7_ordersOf 13 = .ok (.iinc 2 1, 3) := by decide +kernel
theorem dX7_ordersOf_16 : decode cX7_ordersOf 16 = .ok (.goto (-12), 3) := by decide +kernel
theorem dX7_ordersOf_19 : decode cX7_ordersOf 19 = .ok (.iload_n 1, 1) := by decide +kernel
theorem dX7_ordersOf_20 : decode cX7_ordersOf 20 = .ok (.ireturn, 1) := by decide +kernel
set_option maxRecDepth 20000 in
theorem ggX7_findRow_X7_ordersOf : GoodIn wsX7_findRow wsX7_ordersOf := goodIn_r _ [5] (by decide +kernel) (by decide +kernel)
set_option maxRecDepth 20000 in
theorem gX7_findRow_X7_ordersOf : GoodIn wsX7_findRow (va_wsS RX7 167 yX7_ordersOf wsX7_ordersOf) := goodIn_app (goodIn_of _ (by decide +kernel)) ggX7_findRow_X7_ordersOf
theorem dX7_findRow_0 : decode cX7_findRow 0 = .ok (.iload_n 1, 1) := by decide +kernel
theorem dX7_findRow_1 : decode cX7_findRow 1 = .ok (.istore_n 3, 1) := by decide +kernel
theorem dX7_findRow_2 : decode cX7_findRow 2 = .ok (.iload_n 2, 1) := by decide +kernel
theorem dX7_findRow_3 : decode cX7_findRow 3 = .ok (.iconst 1, 1) := by decide +kernel
theorem dX7_findRow_4 : decode cX7_findRow 4 = .ok (.isub, 1) := by decide +kernel
theorem dX7_findRow_5 : decode cX7_findRow 5 = .ok (.invokestatic 167, 3) := by decide +kernel
theorem dX7_findRow_8 : decode cX7_findRow 8 = .ok (.istore 4, 2) := by decide +kernel
theorem dX7_findRow_10 : decode cX7_findRow 10 = .ok (.iconst 0, 1) := by decide +kernel
theorem dX7_findRow_11 : decode cX7_findRow 11 = .ok (.istore 5, 2) := by decide +kernel
theorem dX7_findRow_13 : decode cX7_findRow 13 = .ok (.iconst 0, 1) := by decide +kernel
theorem dX7_findRow_14 : decode cX7_findRow 14 = .ok (.istore 6, 2) := by decide +kernel
theorem dX7_findRow_16 : decode cX7_findRow 16 = .ok (.iload 6, 2) := by decide +kernel
theorem dX7_findRow_18 : decode cX7_findRow 18 = .ok (.iload_n 2, 1) := by decide +kernel
theorem dX7_findRow_19 : decode cX7_findRow 19 = .ok (.if_icmp .ge 109, 3) := by decide +kernel
theorem dX7_findRow_22 : decode cX7_findRow 22 = .ok (.iload_n 3, 1) := by decide +kernel
theorem dX7_findRow_23 : decode cX7_findRow 23 = .ok (.iload 4, 2) := by decide +kernel
theorem dX7_findRow_25 : decode cX7_findRow 25 = .ok (.idiv, 1) := by decide +kernel
theorem dX7_findRow_26 : decode cX7_findRow 26 = .ok (.istore 7, 2) := by decide +kernel
theorem dX7_findRow_28 : decode cX7_findRow 28 = .ok (.iload_n 3, 1) := by decide +kernel
theorem dX7_findRow_29 : decode cX7_findRow 29 = .ok (.iload 4, 2) := by decide +kernel
theorem dX7_findRow_31 : decode cX7_findRow 31 = .ok (.irem, 1) := by decide +kernel
theorem dX7_findRow_32 : decode cX7_findRow 32 = .ok (.istore_n 3, 1) := by decide +kernel
theorem dX7_findRow_33 : decode cX7_findRow 33 = .ok (.iconst 0, 1) := by decide +kernel
theorem dX7_findRow_34 : decode cX7_findRow 34 = .ok (.istore 8, 2) := by decide +kernel
theorem dX7_findRow_36 : decode cX7_findRow 36 = .ok (.iload 5, 2) := by decide +kernel
theorem dX7_findRow_38 : decode cX7_findRow 38 = .ok (.iload 8, 2) := by decide +kernel
theorem dX7_findRow_40 : decode cX7_findRow 40 = .ok (.ishr, 1) := by decide +kernel
theorem dX7_findRow_41 : decode cX7_findRow 41 = .ok (.iconst 1, 1) := by decide +kernel
theorem dX7_findRow_42 : decode cX7_findRow 42 = .ok (.iand, 1) := by decide +kernel
theorem dX7_findRow_43 : decode cX7_findRow 43 = .ok (.iconst 1, 1) := by decide +kernel
theorem dX7_findRow_44 : decode cX7_findRow 44 = .ok (.if_icmp .eq 8, 3) := by decide +kernel
theorem dX7_findRow_47 : decode cX7_findRow 47 = .ok (.iload 7, 2) := by decide +kernel
theorem dX7_findRow_49 : decode cX7_findRow 49 = .ok (.ifCond .le 30, 3) := by decide +kernel
theorem dX7_findRow_52 : decode cX7_findRow 52 = .ok (.iload 7, 2) := by decide +kernel
theorem dX7_findRow_54 : decode cX7_findRow 54 = .ok (.iload 5, 2) := by decide +kernel
theorem dX7_findRow_56 : decode cX7_findRow 56 = .ok (.iload 8, 2) := by decide +kernel
theorem dX7_findRow_58 : decode cX7_findRow 58 = .ok (.ishr, 1) := by decide +kernel
theorem dX7_findRow_59 : decode cX7_findRow 59 = .ok (.iconst 1, 1) := by decide +kernel
theorem dX7_findRow_60 : decode cX7_findRow 60 = .ok (.iand, 1) := by decide +kernel
theorem dX7_findRow_61 : decode cX7_findRow 61 = .ok (.iconst 1, 1) := by decide +kernel
theorem dX7_findRow_62 : decode cX7_findRow 62 = .ok (.if_icmp .ne 7, 3) := by decide +kernel
theorem dX7_findRow_65 : decode cX7_findRow 65 = .ok (.iconst 0, 1) := by decide +kernel
theorem dX7_findRow_66 : decode cX7_findRow 66 = .ok (.goto 4, 3) := by decide +kernel
theorem dX7_findRow_69 : decode cX7_findRow 69 = .ok (.iconst 1, 1) := by decide +kernel
theorem dX7_findRow_70 : decode cX7_findRow 70 = .ok (.isub, 1) := by decide +kernel
theorem dX7_findRow_71 : decode cX7_findRow 71 = .ok (.istore 7, 2) := by decide +kernel
theorem dX7_findRow_73 : decode cX7_findRow 73 = .ok (.iinc 8 1, 3) := by decide +kernel
theorem dX7_findRow_76 : decode cX7_findRow 76 = .ok (.goto (-40), 3) := by decide +kernel
theorem dX7_findRow_79 : decode cX7_findRow 79 = .ok (.aload_n 0, 1) := by decide +kernel
theorem dX7_findRow_80 : decode cX7_findRow 80 = .ok (.getfield 34, 3) := by decide +kernel
theorem dX7_findRow_83 : decode cX7_findRow 83 = .ok (.iload 6, 2) := by decide +kernel
theorem dX7_findRow_85 : decode cX7_findRow 85 = .ok (.iload 8, 2) := by decide +kernel
theorem dX7_findRow_87 : decode cX7_findRow 87 = .ok (.iastore, 1) := by decide +kernel
theorem dX7_findRow_88 : decode cX7_findRow 88 = .ok (.iload 5, 2) := by decide +kernel
theorem dX7_findRow_90 : decode cX7_findRow 90 = .ok (.iconst 1, 1) := by decide +kernel
theorem dX7_findRow_91 : decode cX7_findRow 91 = .ok (.iload 8, 2) := by decide +kernel
theorem dX7_findRow_93 : decode cX7_findRow 93 = .ok (.ishl, 1) := by decide +kernel
theorem dX7_findRow_94 : decode cX7_findRow 94 = .ok (.ior, 1) := by decide +kernel
theorem dX7_findRow_95 : decode cX7_findRow 95 = .ok (.istore 5, 2) := by decide +kernel
theorem dX7_findRow_97 : decode cX7_findRow 97 = .ok (.iload_n 2, 1) := by decide +kernel
theorem dX7_findRow_98 : decode cX7_findRow 98 = .ok (.iload 6, 2) := by decide +kernel
theorem dX7_findRow_100 : decode cX7_findRow 100 = .ok (.isub, 1) := by decide +kernel
theorem dX7_findRow_101 : decode cX7_findRow 101 = .ok (.iconst 1, 1) := by decide +kernel
theorem dX7_findRow_102 : decode cX7_findRow 102 = .ok (.isub, 1) := by decide +kernel
theorem dX7_findRow_103 : decode cX7_findRow 103 = .ok (.iconst 1, 1) := by decide +kernel
theorem dX7_findRow_104 : decode cX7_findRow 104 = .ok (.if_icmp .le 15, 3) := by decide +kernel
theorem dX7_findRow_107 : decode cX7_findRow 107 = .ok (.iload 4, 2) := by decide +kernel
theorem dX7_findRow_109 : decode cX7_findRow 109 = .ok (.iload_n 2, 1) := by decide +kernel
theorem dX7_findRow_110 : decode cX7_findRow 110 = .ok (.iload 6, 2) := by decide +kernel
theorem dX7_findRow_112 : decode cX7_findRow 112 = .ok (.isub, 1) := by decide +kernel
theorem dX7_findRow_113 : decode cX7_findRow 113 = .ok (.iconst 1, 1) := by decide +kernel
theorem dX7_findRow_114 : decode cX7_findRow 114 = .ok (.isub, 1) := by decide +kernel
theorem dX7_findRow_115 : decode cX7_findRow 115 = .ok (.idiv, 1) := by decide +kernel
theorem dX7_findRow_116 : decode cX7_findRow 116 = .ok (.goto 4, 3) := by decide +kernel
theorem dX7_findRow_119 : decode cX7_findRow 119 = .ok (.iconst 1, 1) := by decide +kernel
theorem dX7_findRow_120 : decode cX7_findRow 120 = .ok (.istore 4, 2) := by decide +kernel
theorem dX7_findRow_122 : decode cX7_findRow 122 = .ok (.iinc 6 1, 3) := by decide +kernel
theorem dX7_findRow_125 : decode cX7_findRow 125 = .ok (.goto (-109), 3) := by decide +kernel
theorem dX7_findRow_128 : decode cX7_findRow 128 = .ok (.return_, 1) := by decide +kernel
set_option maxRecDepth 20000 in
theorem ggX7_slidByRow_X7_numberNow : GoodIn wsX7_slidByRow wsX7_numberNow := goodIn_r _ [7, 8, 9, 10, 11, 12, 6, 13, 14, 15, 16, 17, 18, 19, 20, 21, 22, 34, 35, 36, 37, 38, 39, 40, 41, 42, 43, 44, 45, 46, 47, 48, 49, 50, 51, 52, 53, 54, 55, 56] (by decide +kernel) (by decide +kernel)
set_option maxRecDepth 20000 in
theorem gX7_slidByRow_X7_numberNow : GoodIn wsX7_slidByRow (wsV RX7 116 RX7 yX7_numberNow wsX7_numberNow) := goodIn_app (goodIn_of _ (by decide +kernel)) ggX7_slidByRow_X7_numberNow
set_option maxRecDepth 20000 in
theorem ggX7_slidByRow_X7_slidBetween : GoodIn wsX7_slidByRow wsX7_slidBetween := goodIn_r _ [26, 8, 27, 28, 29, 6, 30, 10, 11, 12, 13, 14, 15, 16, 17, 18, 19, 20, 21, 22, 31, 32, 33, 34, 35, 36, 37, 38, 39, 40, 41, 42, 43, 44, 45, 46, 47, 48, 49, 50, 51, 52, 53, 54, 55, 56] (by decide +kernel) (by decide +kernel)
set_option maxRecDepth 20000 in
theorem gX7_slidByRow_X7_slidBetween : GoodIn wsX7_slidByRow (wsV RX7 139 RX7 yX7_slidBetween wsX7_slidBetween) := goodIn_app (goodIn_of _ (by decide +kernel)) ggX7_slidByRow_X7_slidBetween
theorem dX7_slidByRow_0 : decode cX7_slidByRow 0 = .ok (.aload_n 0, 1) := by decide +kernel
theorem dX7_slidByRow_1 : decode cX7_slidByRow 1 = .ok (.invokevirtual 116, 3) := by decide +kernel
theorem dX7_slidByRow_4 : decode cX7_slidByRow 4 = .ok (.istore_n 3, 1) := by decide +kernel
theorem dX7_slidByRow_5 : decode cX7_slidByRow 5 = .ok (.iconst 0, 1) := by decide +kernel
theorem dX7_slidByRow_6 : decode cX7_slidByRow 6 = .ok (.istore 4, 2) := by decide +kernel
theorem dX7_slidByRow_8 : decode cX7_slidByRow 8 = .ok (.iconst 0, 1) := by decide +kernel
theorem dX7_slidByRow_9 : decode cX7_slidByRow 9 = .ok (.istore 5, 2) := by decide +kernel
theorem dX7_slidByRow_11 : decode cX7_slidByRow 11 = .ok (.iload 5, 2) := by decide +kernel
theorem dX7_slidByRow_13 : decode cX7_slidByRow 13 = .ok (.iload_n 2, 1) := by decide +kernel
theorem dX7_slidByRow_14 : decode cX7_slidByRow 14 = .ok (.if_icmp .ge 42, 3) := by decide +kernel
theorem dX7_slidByRow_17 : decode cX7_slidByRow 17 = .ok (.iload_n 3, 1) := by decide +kernel
theorem dX7_slidByRow_18 : decode cX7_slidByRow 18 = .ok (.aload_n 0, 1) := by decide +kernel
theorem dX7_slidByRow_19 : decode cX7_slidByRow 19 = .ok (.getfield 16, 3) := by decide +kernel
theorem dX7_slidByRow_22 : decode cX7_slidByRow 22 = .ok (.iload_n 1, 1) := by decide +kernel
theorem dX7_slidByRow_23 : decode cX7_slidByRow 23 = .ok (.aload_n 0, 1) := by decide +kernel
theorem dX7_slidByRow_24 : decode cX7_slidByRow 24 = .ok (.getfield 34, 3) := by decide +kernel
theorem dX7_slidByRow_27 : decode cX7_slidByRow 27 = .ok (.iload 5, 2) := by decide +kernel
theorem dX7_slidByRow_29 : decode cX7_slidByRow 29 = .ok (.iaload, 1) := by decide +kernel
theorem dX7_slidByRow_30 : decode cX7_slidByRow 30 = .ok (.iadd, 1) := by decide +kernel
theorem dX7_slidByRow_31 : decode cX7_slidByRow 31 = .ok (.iaload, 1) := by decide +kernel
theorem dX7_slidByRow_32 : decode cX7_slidByRow 32 = .ok (.iadd, 1) := by decide +kernel
theorem dX7_slidByRow_33 : decode cX7_slidByRow 33 = .ok (.istore 6, 2) := by decide +kernel
theorem dX7_slidByRow_35 : decode cX7_slidByRow 35 = .ok (.iload 4, 2) := by decide +kernel
theorem dX7_slidByRow_37 : decode cX7_slidByRow 37 = .ok (.aload_n 0, 1) := by decide +kernel
theorem dX7_slidByRow_38 : decode cX7_slidByRow 38 = .ok (.iload_n 3, 1) := by decide +kernel
theorem dX7_slidByRow_39 : decode cX7_slidByRow 39 = .ok (.iload 6, 2) := by decide +kernel
theorem dX7_slidByRow_41 : decode cX7_slidByRow 41 = .ok (.invokevirtual 139, 3) := by decide +kernel
theorem dX7_slidByRow_44 : decode cX7_slidByRow 44 = .ok (.iadd, 1) := by decide +kernel
theorem dX7_slidByRow_45 : decode cX7_slidByRow 45 = .ok (.istore 4, 2) := by decide +kernel
theorem dX7_slidByRow_47 : decode cX7_slidByRow 47 = .ok (.iload 6, 2) := by decide +kernel
theorem dX7_slidByRow_49 : decode cX7_slidByRow 49 = .ok (.istore_n 3, 1) := by decide +kernel
theorem dX7_slidByRow_50 : decode cX7_slidByRow 50 = .ok (.iinc 5 1, 3) := by decide +kernel
theorem dX7_slidByRow_53 : decode cX7_slidByRow 53 = .ok (.goto (-42), 3) := by decide +kernel
theorem dX7_slidByRow_56 : decode cX7_slidByRow 56 = .ok (.iload 4, 2) := by decide +kernel
theorem dX7_slidByRow_58 : decode cX7_slidByRow 58 = .ok (.ireturn, 1) := by decide +kernel
set_option maxRecDepth 20000 in
theorem ggX7_order_X7_isSheet : GoodIn wsX7_order wsX7_isSheet := goodIn_r _ [8, 9, 10, 7, 11] (by decide +kernel) (by decide +kernel)
set_option maxRecDepth 20000 in
theorem gX7_order_X7_isSheet : GoodIn wsX7_order (va_wsS RX7 68 yX7_isSheet wsX7_isSheet) := goodIn_app (goodIn_of _ (by decide +kernel)) ggX7_order_X7_isSheet
set_option maxRecDepth 20000 in
theorem ggX7_order_X7_isSort : GoodIn wsX7_order wsX7_isSort := goodIn_r _ [14, 9, 10, 7, 11] (by decide +kernel) (by decide +kernel)
set_option maxRecDepth 20000 in
theorem gX7_order_X7_isSort : GoodIn wsX7_order (va_wsS RX7 72 yX7_isSort wsX7_isSort) := goodIn_app (goodIn_of _ (by decide +kernel)) ggX7_order_X7_isSort
set_option maxRecDepth 20000 in
theorem ggX7_order_X7_within : GoodIn wsX7_order wsX7_within := goodIn_r _ [11] (by decide +kernel) (by decide +kernel)
set_option maxRecDepth 20000 in
theorem gX7_order_X7_within : GoodIn wsX7_order (va_wsS RX7 58 yX7_within wsX7_within) := goodIn_app (goodIn_of _ (by decide +kernel)) ggX7_order_X7_within
set_option maxRecDepth 20000 in
theorem ggX7_order_X7_against : GoodIn wsX7_order wsX7_against := goodIn_r _ [18, 19, 20, 78, 79, 80, 81, 82, 83, 84, 85, 86, 87, 88, 89, 90, 91, 92, 93, 94, 95, 96, 97, 98, 99, 100] (by decide +kernel) (by decide +kernel)
set_option maxRecDepth 20000 in
theorem gX7_order_X7_against : GoodIn wsX7_order (wsV RX7 75 RX7 yX7_against wsX7_against) := goodIn_app (goodIn_of _ (by decide +kernel)) ggX7_order_X7_against
set_option maxRecDepth 20000 in
theorem ggX7_order_X7_fails : GoodIn wsX7_order wsX7_fails := goodIn_r _ [24, 1, 78, 79, 80, 81, 82, 83, 84, 85, 86, 87, 88, 89, 90, 91, 92, 93, 94, 95, 96, 97, 98, 99, 100] (by decide +kernel) (by decide +kernel)
set_option maxRecDepth 20000 in
theorem gX7_order_X7_fails : GoodIn wsX7_order (wsV RX7 79 RX7 yX7_fails wsX7_fails) := goodIn_app (goodIn_of _ (by decide +kernel)) ggX7_order_X7_fails
set_option maxRecDepth 20000 in
theorem ggX7_order_X7_canAdd : GoodIn wsX7_order wsX7_canAdd := goodIn_r _ [28, 29, 30, 31, 7, 32, 2, 33, 34, 35, 36, 37, 38, 39, 40, 41, 42, 43, 44, 45, 46, 47, 48, 49, 50, 78, 79, 80, 81, 82, 83, 84, 85, 86, 87, 88, 89, 90, 91, 92, 93, 94, 95, 96, 97, 98, 99, 100] (by decide +kernel) (by decide +kernel)
set_option maxRecDepth 20000 in
theorem gX7_order_X7_canAdd : GoodIn wsX7_order (wsV RX7 132 RX7 yX7_canAdd wsX7_canAdd) := goodIn_app (goodIn_of _ (by decide +kernel)) ggX7_order_X7_canAdd
set_option maxRecDepth 20000 in
theorem ggX7_order_X7_orderOf : GoodIn wsX7_order wsX7_orderOf := goodIn_r _ [54, 55, 56, 57, 7, 58, 59, 60, 61, 62, 63, 64, 65, 66, 3, 46, 47, 48, 49, 2, 50, 33, 34, 35, 36, 37, 38, 39, 40, 41, 42, 43, 44, 45, 67, 68, 69, 70, 71, 72, 73, 74, 75, 76, 77, 78, 79, 80, 81, 82, 83, 84, 85, 86, 87, 88, 89, 90, 91, 92, 93, 94, 95, 96, 97, 98, 99, 100] (by decide +kernel) (by decide +kernel)
set_option maxRecDepth 20000 in
theorem gX7_order_X7_orderOf : GoodIn wsX7_order (wsV RX7 170 RX7 yX7_orderOf wsX7_orderOf) := goodIn_app (goodIn_of _ (by decide +kernel)) ggX7_order_X7_orderOf
theorem dX7_order_0 : decode cX7_order 0 = .ok (.aload_n 0, 1) := by decide +kernel
theorem dX7_order_1 : decode cX7_order 1 = .ok (.iconst 0, 1) := by decide +kernel
theorem dX7_order_2 : decode cX7_order 2 = .ok (.putfield 52, 3) := by decide +kernel
theorem dX7_order_5 : decode cX7_order 5 = .ok (.iload_n 1, 1) := by decide +kernel
theorem dX7_order_6 : decode cX7_order 6 = .ok (.invokestatic 68, 3) := by decide +kernel
theorem dX7_order_9 : decode cX7_order 9 = .ok (.ifCond .ne 5, 3) := by decide +kernel
theorem dX7_order_12 : decode cX7_order 12 = .ok (.iconst (-1), 1) := by decide +kernel
theorem dX7_order_13 : decode cX7_order 13 = .ok (.ireturn, 1) := by decide +kernel
theorem dX7_order_14 : decode cX7_order 14 = .ok (.iload_n 2, 1) := by decide +kernel
theorem dX7_order_15 : decode cX7_order 15 = .ok (.invokestatic 72, 3) := by decide +kernel
theorem dX7_order_18 : decode cX7_order 18 = .ok (.ifCond .eq 24, 3) := by decide +kernel
theorem dX7_order_21 : decode cX7_order 21 = .ok (.iload 4, 2) := by decide +kernel
theorem dX7_order_23 : decode cX7_order 23 = .ok (.iconst 0, 1) := by decide +kernel
theorem dX7_order_24 : decode cX7_order 24 = .ok (.bipush 6, 2) := by decide +kernel
theorem dX7_order_26 : decode cX7_order 26 = .ok (.invokestatic 58, 3) := by decide +kernel
theorem dX7_order_29 : decode cX7_order 29 = .ok (.ifCond .eq 13, 3) := by decide +kernel
theorem dX7_order_32 : decode cX7_order 32 = .ok (.iload 5, 2) := by decide +kernel
theorem dX7_order_34 : decode cX7_order 34 = .ok (.iconst (-1), 1) := by decide +kernel
theorem dX7_order_35 : decode cX7_order 35 = .ok (.iconst 5, 1) := by decide +kernel
theorem dX7_order_36 : decode cX7_order 36 = .ok (.invokestatic 58, 3) := by decide +kernel
theorem dX7_order_39 : decode cX7_order 39 = .ok (.ifCond .ne 6, 3) := by decide +kernel
theorem dX7_order_42 : decode cX7_order 42 = .ok (.bipush (-2), 2) := by decide +kernel
theorem dX7_order_44 : decode cX7_order 44 = .ok (.ireturn, 1) := by decide +kernel
theorem dX7_order_45 : decode cX7_order 45 = .ok (.aload_n 0, 1) := by decide +kernel
theorem dX7_order_46 : decode cX7_order 46 = .ok (.iload_n 1, 1) := by decide +kernel
theorem dX7_order_47 : decode cX7_order 47 = .ok (.iload_n 2, 1) := by decide +kernel
theorem dX7_order_48 : decode cX7_order 48 = .ok (.iload_n 3, 1) := by decide +kernel
theorem dX7_order_49 : decode cX7_order 49 = .ok (.iload 4, 2) := by decide +kernel
theorem dX7_order_51 : decode cX7_order 51 = .ok (.invokevirtual 75, 3) := by decide +kernel
theorem dX7_order_54 : decode cX7_order 54 = .ok (.istore 6, 2) := by decide +kernel
theorem dX7_order_56 : decode cX7_order 56 = .ok (.iload 6, 2) := by decide +kernel
theorem dX7_order_58 : decode cX7_order 58 = .ok (.ifCond .eq 10, 3) := by decide +kernel
theorem dX7_order_61 : decode cX7_order 61 = .ok (.aload_n 0, 1) := by decide +kernel
theorem dX7_order_62 : decode cX7_order 62 = .ok (.iload 6, 2) := by decide +kernel
theorem dX7_order_64 : decode cX7_order 64 = .ok (.invokevirtual 79, 3) := by decide +kernel
theorem dX7_order_67 : decode cX7_order 67 = .ok (.ireturn, 1) := by decide +kernel
theorem dX7_order_68 : decode cX7_order 68 = .ok (.aload_n 0, 1) := by decide +kernel
theorem dX7_order_69 : decode cX7_order 69 = .ok (.getfield 62, 3) := by decide +kernel
theorem dX7_order_72 : decode cX7_order 72 = .ok (.ifCond .ne 6, 3) := by decide +kernel
theorem dX7_order_75 : decode cX7_order 75 = .ok (.bipush (-3), 2) := by decide +kernel
theorem dX7_order_77 : decode cX7_order 77 = .ok (.ireturn, 1) := by decide +kernel
theorem dX7_order_78 : decode cX7_order 78 = .ok (.bipush 60, 2) := by decide +kernel
theorem dX7_order_80 : decode cX7_order 80 = .ok (.iload_n 1, 1) := by decide +kernel
theorem dX7_order_81 : decode cX7_order 81 = .ok (.imul, 1) := by decide +kernel
theorem dX7_order_82 : decode cX7_order 82 = .ok (.iload_n 3, 1) := by decide +kernel
theorem dX7_order_83 : decode cX7_order 83 = .ok (.iadd, 1) := by decide +kernel
theorem dX7_order_84 : decode cX7_order 84 = .ok (.istore 7, 2) := by decide +kernel
theorem dX7_order_86 : decode cX7_order 86 = .ok (.iconst 0, 1) := by decide +kernel
theorem dX7_order_87 : decode cX7_order 87 = .ok (.istore 8, 2) := by decide +kernel
theorem dX7_order_89 : decode cX7_order 89 = .ok (.iconst 0, 1) := by decide +kernel
theorem dX7_order_90 : decode cX7_order 90 = .ok (.istore 9, 2) := by decide +kernel
theorem dX7_order_92 : decode cX7_order 92 = .ok (.iload 9, 2) := by decide +kernel
theorem dX7_order_94 : decode cX7_order 94 = .ok (.iload 4, 2) := by decide +kernel
theorem dX7_order_96 : decode cX7_order 96 = .ok (.if_icmp .ge 46, 3) := by decide +kernel
theorem dX7_order_99 : decode cX7_order 99 = .ok (.aload_n 0, 1) := by decide +kernel
theorem dX7_order_100 : decode cX7_order 100 = .ok (.getfield 16, 3) := by decide +kernel
theorem dX7_order_103 : decode cX7_order 103 = .ok (.iload 7, 2) := by decide +kernel
theorem dX7_order_105 : decode cX7_order 105 = .ok (.iload 9, 2) := by decide +kernel
theorem dX7_order_107 : decode cX7_order 107 = .ok (.iadd, 1) := by decide +kernel
theorem dX7_order_108 : decode cX7_order 108 = .ok (.iaload, 1) := by decide +kernel
theorem dX7_order_109 : decode cX7_order 109 = .ok (.iconst 0, 1) := by decide +kernel
theorem dX7_order_110 : decode cX7_order 110 = .ok (.ldc 157, 2) := by decide +kernel
theorem dX7_order_112 : decode cX7_order 112 = .ok (.invokestatic 58, 3) := by decide +kernel
theorem dX7_order_115 : decode cX7_order 115 = .ok (.ifCond .ne 6, 3) := by decide +kernel
theorem dX7_order_118 : decode cX7_order 118 = .ok (.bipush (-2), 2) := by decide +kernel
theorem dX7_order_120 : decode cX7_order 120 = .ok (.ireturn, 1) := by decide +kernel
theorem dX7_order_121 : decode cX7_order 121 = .ok (.iload 8, 2) := by decide +kernel
theorem dX7_order_123 : decode cX7_order 123 = .ok (.aload_n 0, 1) := by decide +kernel
theorem dX7_order_124 : decode cX7_order 124 = .ok (.getfield 16, 3) := by decide +kernel
theorem dX7_order_127 : decode cX7_order 127 = .ok (.iload 7, 2) := by decide +kernel
theorem dX7_order_129 : decode cX7_order 129 = .ok (.iload 9, 2) := by decide +kernel
theorem dX7_order_131 : decode cX7_order 131 = .ok (.iadd, 1) := by decide +kernel
theorem dX7_order_132 : decode cX7_order 132 = .ok (.iaload, 1) := by decide +kernel
theorem dX7_order_133 : decode cX7_order 133 = .ok (.iadd, 1) := by decide +kernel
theorem dX7_order_134 : decode cX7_order 134 = .ok (.istore 8, 2) := by decide +kernel
theorem dX7_order_136 : decode cX7_order 136 = .ok (.iinc 9 1, 3) := by decide +kernel
theorem dX7_order_139 : decode cX7_order 139 = .ok (.goto (-47), 3) := by decide +kernel
theorem dX7_order_142 : decode cX7_order 142 = .ok (.aload_n 0, 1) := by decide +kernel
theorem dX7_order_143 : decode cX7_order 143 = .ok (.iload 8, 2) := by decide +kernel
theorem dX7_order_145 : decode cX7_order 145 = .ok (.invokevirtual 132, 3) := by decide +kernel
theorem dX7_order_148 : decode cX7_order 148 = .ok (.ifCond .eq 16, 3) := by decide +kernel
theorem dX7_order_151 : decode cX7_order 151 = .ok (.aload_n 0, 1) := by decide +kernel
theorem dX7_order_152 : decode cX7_order 152 = .ok (.iload 7, 2) := by decide +kernel
theorem dX7_order_154 : decode cX7_order 154 = .ok (.iload 4, 2) := by decide +kernel
theorem dX7_order_156 : decode cX7_order 156 = .ok (.iload 5, 2) := by decide +kernel
theorem dX7_order_158 : decode cX7_order 158 = .ok (.invokevirtual 170, 3) := by decide +kernel
theorem dX7_order_161 : decode cX7_order 161 = .ok (.goto 5, 3) := by decide +kernel
theorem dX7_order_164 : decode cX7_order 164 = .ok (.bipush (-9), 2) := by decide +kernel
theorem dX7_order_166 : decode cX7_order 166 = .ok (.ireturn, 1) := by decide +kernel
set_option maxRecDepth 20000 in
theorem ggX7_orderOf_X7_ordersOf : GoodIn wsX7_orderOf wsX7_ordersOf := goodIn_r _ [5] (by decide +kernel) (by decide +kernel)
set_option maxRecDepth 20000 in
theorem gX7_orderOf_X7_ordersOf : GoodIn wsX7_orderOf (va_wsS RX7 167 yX7_ordersOf wsX7_ordersOf) := goodIn_app (goodIn_of _ (by decide +kernel)) ggX7_orderOf_X7_ordersOf
set_option maxRecDepth 20000 in
theorem ggX7_orderOf_X7_findRow : GoodIn wsX7_orderOf wsX7_findRow := goodIn_r _ [9, 1, 2, 3, 4, 5, 45, 46, 47, 48, 49, 50, 51, 52, 53, 54, 55, 56, 57, 58, 59, 60, 61, 62, 63, 64, 65, 66, 67] (by decide +kernel) (by decide +kernel)
set_option maxRecDepth 20000 in
theorem gX7_orderOf_X7_findRow : GoodIn wsX7_orderOf (wsV RX7 173 RX7 yX7_findRow wsX7_findRow) := goodIn_app (goodIn_of _ (by decide +kernel)) ggX7_orderOf_X7_findRow
set_option maxRecDepth 20000 in
theorem ggX7_orderOf_X7_slidByRow : GoodIn wsX7_orderOf wsX7_slidByRow := goodIn_r _ [13, 14, 1, 15, 16, 17, 4, 18, 19, 20, 21, 22, 23, 24, 25, 26, 27, 28, 29, 30, 31, 32, 33, 34, 35, 36, 37, 38, 39, 40, 41, 42, 43, 44, 45, 46, 47, 48, 49, 50, 51, 52, 53, 54, 55, 56, 57, 58, 59, 60, 61, 62, 63, 64, 65, 66, 67] (by decide +kernel) (by decide +kernel)
set_option maxRecDepth 20000 in
theorem gX7_orderOf_X7_slidByRow : GoodIn wsX7_orderOf (wsV RX7 177 RX7 yX7_slidByRow wsX7_slidByRow) := goodIn_app (goodIn_of _ (by decide +kernel)) ggX7_orderOf_X7_slidByRow
theorem dX7_orderOf_0 : decode cX7_orderOf 0 = .ok (.bipush (-9), 2) := by decide +kernel
theorem dX7_orderOf_2 : decode cX7_orderOf 2 = .ok (.istore 4, 2) := by decide +kernel
theorem dX7_orderOf_4 : decode cX7_orderOf 4 = .ok (.iconst 0, 1) := by decide +kernel
theorem dX7_orderOf_5 : decode cX7_orderOf 5 = .ok (.istore 5, 2) := by decide +kernel
theorem dX7_orderOf_7 : decode cX7_orderOf 7 = .ok (.iconst 0, 1) := by decide +kernel
theorem dX7_orderOf_8 : decode cX7_orderOf 8 = .ok (.istore 6, 2) := by decide +kernel
theorem dX7_orderOf_10 : decode cX7_orderOf 10 = .ok (.iload 6, 2) := by decide +kernel
theorem dX7_orderOf_12 : decode cX7_orderOf 12 = .ok (.iload_n 2, 1) := by decide +kernel
theorem dX7_orderOf_13 : decode cX7_orderOf 13 = .ok (.invokestatic 167, 3) := by decide +kernel
theorem dX7_orderOf_16 : decode cX7_orderOf 16 = .ok (.if_icmp .ge 46, 3) := by decide +kernel
theorem dX7_orderOf_19 : decode cX7_orderOf 19 = .ok (.aload_n 0, 1) := by decide +kernel
theorem dX7_orderOf_20 : decode cX7_orderOf 20 = .ok (.iload 6, 2) := by decide +kernel
theorem dX7_orderOf_22 : decode cX7_orderOf 22 = .ok (.iload_n 2, 1) := by decide +kernel
theorem dX7_orderOf_23 : decode cX7_orderOf 23 = .ok (.invokevirtual 173, 3) := by decide +kernel
theorem dX7_orderOf_26 : decode cX7_orderOf 26 = .ok (.aload_n 0, 1) := by decide +kernel
theorem dX7_orderOf_27 : decode cX7_orderOf 27 = .ok (.iload_n 1, 1) := by decide +kernel
theorem dX7_orderOf_28 : decode cX7_orderOf 28 = .ok (.iload_n 2, 1) := by decide +kernel
theorem dX7_orderOf_29 : decode cX7_orderOf 29 = .ok (.invokevirtual 177, 3) := by decide +kernel
theorem dX7_orderOf_32 : decode cX7_orderOf 32 = .ok (.istore 7, 2) := by decide +kernel
theorem dX7_orderOf_34 : decode cX7_orderOf 34 = .ok (.iload 4, 2) := by decide +kernel
theorem dX7_orderOf_36 : decode cX7_orderOf 36 = .ok (.bipush (-9), 2) := by decide +kernel
theorem dX7_orderOf_38 : decode cX7_orderOf 38 = .ok (.if_icmp .eq 10, 3) := by decide +kernel
theorem dX7_orderOf_41 : decode cX7_orderOf 41 = .ok (.iload 7, 2) := by decide +kernel
theorem dX7_orderOf_43 : decode cX7_orderOf 43 = .ok (.iload 5, 2) := by decide +kernel
theorem dX7_orderOf_45 : decode cX7_orderOf 45 = .ok (.if_icmp .ge 11, 3) := by decide +kernel
theorem dX7_orderOf_48 : decode cX7_orderOf 48 = .ok (.iload 6, 2) := by decide +kernel
theorem dX7_orderOf_50 : decode cX7_orderOf 50 = .ok (.istore 4, 2) := by decide +kernel
theorem dX7_orderOf_52 : decode cX7_orderOf 52 = .ok (.iload 7, 2) := by decide +kernel
theorem dX7_orderOf_54 : decode cX7_orderOf 54 = .ok (.istore 5, 2) := by decide +kernel
theorem dX7_orderOf_56 : decode cX7_orderOf 56 = .ok (.iinc 6 1, 3) := by decide +kernel
theorem dX7_orderOf_59 : decode cX7_orderOf 59 = .ok (.goto (-49), 3) := by decide +kernel
theorem dX7_orderOf_62 : decode cX7_orderOf 62 = .ok (.iload_n 3, 1) := by decide +kernel
theorem dX7_orderOf_63 : decode cX7_orderOf 63 = .ok (.iconst (-1), 1) := by decide +kernel
theorem dX7_orderOf_64 : decode cX7_orderOf 64 = .ok (.if_icmp .ne 6, 3) := by decide +kernel
theorem dX7_orderOf_67 : decode cX7_orderOf 67 = .ok (.iload 5, 2) := by decide +kernel
theorem dX7_orderOf_69 : decode cX7_orderOf 69 = .ok (.ireturn, 1) := by decide +kernel
theorem dX7_orderOf_70 : decode cX7_orderOf 70 = .ok (.aload_n 0, 1) := by decide +kernel
theorem dX7_orderOf_71 : decode cX7_orderOf 71 = .ok (.iload 4, 2) := by decide +kernel
theorem dX7_orderOf_73 : decode cX7_orderOf 73 = .ok (.iload_n 2, 1) := by decide +kernel
theorem dX7_orderOf_74 : decode cX7_orderOf 74 = .ok (.invokevirtual 173, 3) := by decide +kernel
theorem dX7_orderOf_77 : decode cX7_orderOf 77 = .ok (.iload_n 3, 1) := by decide +kernel
theorem dX7_orderOf_78 : decode cX7_orderOf 78 = .ok (.iload_n 2, 1) := by decide +kernel
theorem dX7_orderOf_79 : decode cX7_orderOf 79 = .ok (.if_icmp .ge 12, 3) := by decide +kernel
theorem dX7_orderOf_82 : decode cX7_orderOf 82 = .ok (.aload_n 0, 1) := by decide +kernel
theorem dX7_orderOf_83 : decode cX7_orderOf 83 = .ok (.getfield 34, 3) := by decide +kernel
theorem dX7_orderOf_86 : decode cX7_orderOf 86 = .ok (.iload_n 3, 1) := by decide +kernel
theorem dX7_orderOf_87 : decode cX7_orderOf 87 = .ok (.iaload, 1) := by decide +kernel
theorem dX7_orderOf_88 : decode cX7_orderOf 88 = .ok (.goto 5, 3) := by decide +kernel
theorem dX7_orderOf_91 : decode cX7_orderOf 91 = .ok (.bipush (-9), 2) := by decide +kernel
theorem dX7_orderOf_93 : decode cX7_orderOf 93 = .ok (.ireturn, 1) := by decide +kernel
set_option maxRecDepth 20000 in
theorem ggX7_fewest_X7_isSheet : GoodIn wsX7_fewest wsX7_isSheet := goodIn_r _ [7, 8, 9, 6, 10] (by decide +kernel) (by decide +kernel)
set_option maxRecDepth 20000 in
theorem gX7_fewest_X7_isSheet : GoodIn wsX7_fewest (va_wsS RX7 68 yX7_isSheet wsX7_isSheet) := goodIn_app (goodIn_of _ (by decide +kernel)) ggX7_fewest_X7_isSheet
set_option maxRecDepth 20000 in
theorem ggX7_fewest_X7_isSort : GoodIn wsX7_fewest wsX7_isSort := goodIn_r _ [13, 8, 9, 6, 10] (by decide +kernel) (by decide +kernel)
set_option maxRecDepth 20000 in
theorem gX7_fewest_X7_isSort : GoodIn wsX7_fewest (va_wsS RX7 72 yX7_isSort wsX7_isSort) := goodIn_app (goodIn_of _ (by decide +kernel)) ggX7_fewest_X7_isSort
set_option maxRecDepth 20000 in
theorem ggX7_fewest_X7_within : GoodIn wsX7_fewest wsX7_within := goodIn_r _ [10] (by decide +kernel) (by decide +kernel)
set_option maxRecDepth 20000 in
theorem gX7_fewest_X7_within : GoodIn wsX7_fewest (va_wsS RX7 58 yX7_within wsX7_within) := goodIn_app (goodIn_of _ (by decide +kernel)) ggX7_fewest_X7_within
set_option maxRecDepth 20000 in
theorem ggX7_fewest_X7_against : GoodIn wsX7_fewest wsX7_against := goodIn_r _ [17, 18, 19, 24, 25, 26, 27, 28, 29, 30, 31, 32, 33, 34, 35, 36, 37, 38, 39, 40, 41, 42, 43, 44, 45, 46] (by decide +kernel) (by decide +kernel)
set_option maxRecDepth 20000 in
theorem gX7_fewest_X7_against : GoodIn wsX7_fewest (wsV RX7 75 RX7 yX7_against wsX7_against) := goodIn_app (goodIn_of _ (by decide +kernel)) ggX7_fewest_X7_against
set_option maxRecDepth 20000 in
theorem ggX7_fewest_X7_fails : GoodIn wsX7_fewest wsX7_fails := goodIn_r _ [23, 1, 24, 25, 26, 27, 28, 29, 30, 31, 32, 33, 34, 35, 36, 37, 38, 39, 40, 41, 42, 43, 44, 45, 46] (by decide +kernel) (by decide +kernel)
set_option maxRecDepth 20000 in
theorem gX7_fewest_X7_fails : GoodIn wsX7_fewest (wsV RX7 79 RX7 yX7_fails wsX7_fails) := goodIn_app (goodIn_of _ (by decide +kernel)) ggX7_fewest_X7_fails
theorem dX7_fewest_0 : decode cX7_fewest 0 = .ok (.aload_n 0, 1) := by decide +kernel
theorem dX7_fewest_1 : decode cX7_fewest 1 = .ok (.iconst 0, 1) := by decide +kernel
theorem dX7_fewest_2 : decode cX7_fewest 2 = .ok (.putfield 52, 3) := by decide +kernel
theorem dX7_fewest_5 : decode cX7_fewest 5 = .ok (.iload_n 1, 1) := by decide +kernel
theorem dX7_fewest_6 : decode cX7_fewest 6 = .ok (.invokestatic 68, 3) := by decide +kernel
theorem dX7_fewest_9 : decode cX7_fewest 9 = .ok (.ifCond .ne 5, 3) := by decide +kernel
theorem dX7_fewest_12 : decode cX7_fewest 12 = .ok (.iconst (-1), 1) := by decide +kernel
theorem dX7_fewest_13 : decode cX7_fewest 13 = .ok (.ireturn, 1) := by decide +kernel
theorem dX7_fewest_14 : decode cX7_fewest 14 = .ok (.iload_n 2, 1) := by decide +kernel
theorem dX7_fewest_15 : decode cX7_fewest 15 = .ok (.invokestatic 72, 3) := by decide +kernel
theorem dX7_fewest_18 : decode cX7_fewest 18 = .ok (.ifCond .eq 26, 3) := by decide +kernel
theorem dX7_fewest_21 : decode cX7_fewest 21 = .ok (.iload 4, 2) := by decide +kernel
theorem dX7_fewest_23 : decode cX7_fewest 23 = .ok (.iconst 0, 1) := by decide +kernel
theorem dX7_fewest_24 : decode cX7_fewest 24 = .ok (.bipush 8, 2) := by decide +kernel
theorem dX7_fewest_26 : decode cX7_fewest 26 = .ok (.invokestatic 58, 3) := by decide +kernel
theorem dX7_fewest_29 : decode cX7_fewest 29 = .ok (.ifCond .eq 15, 3) := by decide +kernel
theorem dX7_fewest_32 : decode cX7_fewest 32 = .ok (.iload 5, 2) := by decide +kernel
theorem dX7_fewest_34 : decode cX7_fewest 34 = .ok (.iconst 0, 1) := by decide +kernel
theorem dX7_fewest_35 : decode cX7_fewest 35 = .ok (.sipush 999, 3) := by decide +kernel
theorem dX7_fewest_38 : decode cX7_fewest 38 = .ok (.invokestatic 58, 3) := by decide +kernel
theorem dX7_fewest_41 : decode cX7_fewest 41 = .ok (.ifCond .ne 6, 3) := by decide +kernel
theorem dX7_fewest_44 : decode cX7_fewest 44 = .ok (.bipush (-2), 2) := by decide +kernel
theorem dX7_fewest_46 : decode cX7_fewest 46 = .ok (.ireturn, 1) := by decide +kernel
theorem dX7_fewest_47 : decode cX7_fewest 47 = .ok (.aload_n 0, 1) := by decide +kernel
theorem dX7_fewest_48 : decode cX7_fewest 48 = .ok (.iload_n 1, 1) := by decide +kernel
theorem dX7_fewest_49 : decode cX7_fewest 49 = .ok (.iload_n 2, 1) := by decide +kernel
theorem dX7_fewest_50 : decode cX7_fewest 50 = .ok (.iload_n 3, 1) := by decide +kernel
theorem dX7_fewest_51 : decode cX7_fewest 51 = .ok (.iload 4, 2) := by decide +kernel
theorem dX7_fewest_53 : decode cX7_fewest 53 = .ok (.invokevirtual 75, 3) := by decide +kernel
theorem dX7_fewest_56 : decode cX7_fewest 56 = .ok (.istore 6, 2) := by decide +kernel
theorem dX7_fewest_58 : decode cX7_fewest 58 = .ok (.iload 6, 2) := by decide +kernel
theorem dX7_fewest_60 : decode cX7_fewest 60 = .ok (.ifCond .eq 10, 3) := by decide +kernel
theorem dX7_fewest_63 : decode cX7_fewest 63 = .ok (.aload_n 0, 1) := by decide +kernel
theorem dX7_fewest_64 : decode cX7_fewest 64 = .ok (.iload 6, 2) := by decide +kernel
theorem dX7_fewest_66 : decode cX7_fewest 66 = .ok (.invokevirtual 79, 3) := by decide +kernel
theorem dX7_fewest_69 : decode cX7_fewest 69 = .ok (.ireturn, 1) := by decide +kernel
theorem dX7_fewest_70 : decode cX7_fewest 70 = .ok (.bipush 60, 2) := by decide +kernel
theorem dX7_fewest_72 : decode cX7_fewest 72 = .ok (.iload_n 1, 1) := by decide +kernel
theorem dX7_fewest_73 : decode cX7_fewest 73 = .ok (.imul, 1) := by decide +kernel
theorem dX7_fewest_74 : decode cX7_fewest 74 = .ok (.iload_n 3, 1) := by decide +kernel
theorem dX7_fewest_75 : decode cX7_fewest 75 = .ok (.iadd, 1) := by decide +kernel
theorem dX7_fewest_76 : decode cX7_fewest 76 = .ok (.istore 7, 2) := by decide +kernel
theorem dX7_fewest_78 : decode cX7_fewest 78 = .ok (.iconst 0, 1) := by decide +kernel
theorem dX7_fewest_79 : decode cX7_fewest 79 = .ok (.istore 8, 2) := by decide +kernel
theorem dX7_fewest_81 : decode cX7_fewest 81 = .ok (.iload 8, 2) := by decide +kernel
theorem dX7_fewest_83 : decode cX7_fewest 83 = .ok (.iload 4, 2) := by decide +kernel
theorem dX7_fewest_85 : decode cX7_fewest 85 = .ok (.if_icmp .ge 32, 3) := by decide +kernel
theorem dX7_fewest_88 : decode cX7_fewest 88 = .ok (.aload_n 0, 1) := by decide +kernel
theorem dX7_fewest_89 : decode cX7_fewest 89 = .ok (.getfield 16, 3) := by decide +kernel
theorem dX7_fewest_92 : decode cX7_fewest 92 = .ok (.iload 7, 2) := by decide +kernel
theorem dX7_fewest_94 : decode cX7_fewest 94 = .ok (.iload 8, 2) := by decide +kernel
theorem dX7_fewest_96 : decode cX7_fewest 96 = .ok (.iadd, 1) := by decide +kernel
theorem dX7_fewest_97 : decode cX7_fewest 97 = .ok (.iaload, 1) := by decide +kernel
theorem dX7_fewest_98 : decode cX7_fewest 98 = .ok (.iconst 0, 1) := by decide +kernel
theorem dX7_fewest_99 : decode cX7_fewest 99 = .ok (.sipush 999, 3) := by decide +kernel
theorem dX7_fewest_102 : decode cX7_fewest 102 = .ok (.invokestatic 58, 3) := by decide +kernel
theorem dX7_fewest_105 : decode cX7_fewest 105 = .ok (.ifCond .ne 6, 3) := by decide +kernel
theorem dX7_fewest_108 : decode cX7_fewest 108 = .ok (.bipush (-2), 2) := by decide +kernel
theorem dX7_fewest_110 : decode cX7_fewest 110 = .ok (.ireturn, 1) := by decide +kernel
theorem dX7_fewest_111 : decode cX7_fewest 111 = .ok (.iinc 8 1, 3) := by decide +kernel
theorem dX7_fewest_114 : decode cX7_fewest 114 = .ok (.goto (-33), 3) := by decide +kernel
theorem dX7_fewest_117 : decode cX7_fewest 117 = .ok (.aload_n 0, 1) := by decide +kernel
theorem dX7_fewest_118 : decode cX7_fewest 118 = .ok (.getfield 37, 3) := by decide +kernel
theorem dX7_fewest_121 : decode cX7_fewest 121 = .ok (.iconst 0, 1) := by decide +kernel
theorem dX7_fewest_122 : decode cX7_fewest 122 = .ok (.iconst 0, 1) := by decide +kernel
theorem dX7_fewest_123 : decode cX7_fewest 123 = .ok (.iastore, 1) := by decide +kernel
theorem dX7_fewest_124 : decode cX7_fewest 124 = .ok (.iconst 1, 1) := by decide +kernel
theorem dX7_fewest_125 : decode cX7_fewest 125 = .ok (.istore 8, 2) := by decide +kernel
theorem dX7_fewest_127 : decode cX7_fewest 127 = .ok (.iload 8, 2) := by decide +kernel
theorem dX7_fewest_129 : decode cX7_fewest 129 = .ok (.iload 5, 2) := by decide +kernel
theorem dX7_fewest_131 : decode cX7_fewest 131 = .ok (.if_icmp .gt 148, 3) := by decide +kernel
theorem dX7_fewest_134 : decode cX7_fewest 134 = .ok (.aload_n 0, 1) := by decide +kernel
theorem dX7_fewest_135 : decode cX7_fewest 135 = .ok (.getfield 37, 3) := by decide +kernel
theorem dX7_fewest_138 : decode cX7_fewest 138 = .ok (.iload 8, 2) := by decide +kernel
theorem dX7_fewest_140 : decode cX7_fewest 140 = .ok (.bipush (-9), 2) := by decide +kernel
theorem dX7_fewest_142 : decode cX7_fewest 142 = .ok (.iastore, 1) := by decide +kernel
theorem dX7_fewest_143 : decode cX7_fewest 143 = .ok (.iconst 0, 1) := by decide +kernel
theorem dX7_fewest_144 : decode cX7_fewest 144 = .ok (.istore 9, 2) := by decide +kernel
theorem dX7_fewest_146 : decode cX7_fewest 146 = .ok (.iload 9, 2) := by decide +kernel
theorem dX7_fewest_148 : decode cX7_fewest 148 = .ok (.iload 4, 2) := by decide +kernel
theorem dX7_fewest_150 : decode cX7_fewest 150 = .ok (.if_icmp .ge 123, 3) := by decide +kernel
theorem dX7_fewest_153 : decode cX7_fewest 153 = .ok (.aload_n 0, 1) := by decide +kernel
theorem dX7_fewest_154 : decode cX7_fewest 154 = .ok (.getfield 16, 3) := by decide +kernel
theorem dX7_fewest_157 : decode cX7_fewest 157 = .ok (.iload 7, 2) := by decide +kernel
theorem dX7_fewest_159 : decode cX7_fewest 159 = .ok (.iload 9, 2) := by decide +kernel
theorem dX7_fewest_161 : decode cX7_fewest 161 = .ok (.iadd, 1) := by decide +kernel
theorem dX7_fewest_162 : decode cX7_fewest 162 = .ok (.iaload, 1) := by decide +kernel
theorem dX7_fewest_163 : decode cX7_fewest 163 = .ok (.istore 10, 2) := by decide +kernel
theorem dX7_fewest_165 : decode cX7_fewest 165 = .ok (.iload 10, 2) := by decide +kernel
theorem dX7_fewest_167 : decode cX7_fewest 167 = .ok (.ifCond .le 29, 3) := by decide +kernel
theorem dX7_fewest_170 : decode cX7_fewest 170 = .ok (.iload 10, 2) := by decide +kernel
theorem dX7_fewest_172 : decode cX7_fewest 172 = .ok (.iload 8, 2) := by decide +kernel
theorem dX7_fewest_174 : decode cX7_fewest 174 = .ok (.if_icmp .gt 22, 3) := by decide +kernel
theorem dX7_fewest_177 : decode cX7_fewest 177 = .ok (.aload_n 0, 1) := by decide +kernel
theorem dX7_fewest_178 : decode cX7_fewest 178 = .ok (.getfield 37, 3) := by decide +kernel
theorem dX7_fewest_181 : decode cX7_fewest 181 = .ok (.iload 8, 2) := by decide +kernel
theorem dX7_fewest_183 : decode cX7_fewest 183 = .ok (.iload 10, 2) := by decide +kernel
theorem dX7_fewest_185 : decode cX7_fewest 185 = .ok (.isub, 1) := by decide +kernel
theorem dX7_fewest_186 : decode cX7_fewest 186 = .ok (.iaload, 1) := by decide +kernel
theorem dX7_fewest_187 : decode cX7_fewest 187 = .ok (.bipush (-9), 2) := by decide +kernel
theorem dX7_fewest_189 : decode cX7_fewest 189 = .ok (.if_icmp .eq 7, 3) := by decide +kernel
theorem dX7_fewest_192 : decode cX7_fewest 192 = .ok (.iconst 1, 1) := by decide +kernel
theorem dX7_fewest_193 : decode cX7_fewest 193 = .ok (.goto 4, 3) := by decide +kernel
theorem dX7_fewest_196 : decode cX7_fewest 196 = .ok (.iconst 0, 1) := by decide +kernel
theorem dX7_fewest_197 : decode cX7_fewest 197 = .ok (.istore 11, 2) := by decide +kernel
theorem dX7_fewest_199 : decode cX7_fewest 199 = .ok (.aload_n 0, 1) := by decide +kernel
theorem dX7_fewest_200 : decode cX7_fewest 200 = .ok (.getfield 37, 3) := by decide +kernel
theorem dX7_fewest_203 : decode cX7_fewest 203 = .ok (.iload 8, 2) := by decide +kernel
theorem dX7_fewest_205 : decode cX7_fewest 205 = .ok (.iload 11, 2) := by decide +kernel
theorem dX7_fewest_207 : decode cX7_fewest 207 = .ok (.ifCond .eq 52, 3) := by decide +kernel
theorem dX7_fewest_210 : decode cX7_fewest 210 = .ok (.aload_n 0, 1) := by decide +kernel
theorem dX7_fewest_211 : decode cX7_fewest 211 = .ok (.getfield 37, 3) := by decide +kernel
theorem dX7_fewest_214 : decode cX7_fewest 214 = .ok (.iload 8, 2) := by decide +kernel
theorem dX7_fewest_216 : decode cX7_fewest 216 = .ok (.iaload, 1) := by decide +kernel
theorem dX7_fewest_217 : decode cX7_fewest 217 = .ok (.bipush (-9), 2) := by decide +kernel
theorem dX7_fewest_219 : decode cX7_fewest 219 = .ok (.if_icmp .eq 25, 3) := by decide +kernel
theorem dX7_fewest_222 : decode cX7_fewest 222 = .ok (.aload_n 0, 1) := by decide +kernel
theorem dX7_fewest_223 : decode cX7_fewest 223 = .ok (.getfield 37, 3) := by decide +kernel
theorem dX7_fewest_226 : decode cX7_fewest 226 = .ok (.iload 8, 2) := by decide +kernel
theorem dX7_fewest_228 : decode cX7_fewest 228 = .ok (.iload 10, 2) := by decide +kernel
theorem dX7_fewest_230 : decode cX7_fewest 230 = .ok (.isub, 1) := by decide +kernel
theorem dX7_fewest_231 : decode cX7_fewest 231 = .ok (.iaload, 1) := by decide +kernel
theorem dX7_fewest_232 : decode cX7_fewest 232 = .ok (.iconst 1, 1) := by decide +kernel
theorem dX7_fewest_233 : decode cX7_fewest 233 = .ok (.iadd, 1) := by decide +kernel
theorem dX7_fewest_234 : decode cX7_fewest 234 = .ok (.aload_n 0, 1) := by decide +kernel
theorem dX7_fewest_235 : decode cX7_fewest 235 = .ok (.getfield 37, 3) := by decide +kernel
theorem dX7_fewest_238 : decode cX7_fewest 238 = .ok (.iload 8, 2) := by decide +kernel
theorem dX7_fewest_240 : decode cX7_fewest 240 = .ok (.iaload, 1) := by decide +kernel
theorem dX7_fewest_241 : decode cX7_fewest 241 = .ok (.if_icmp .ge 18, 3) := by decide +kernel
theorem dX7_fewest_244 : decode cX7_fewest 244 = .ok (.aload_n 0, 1) := by decide +kernel
theorem dX7_fewest_245 : decode cX7_fewest 245 = .ok (.getfield 37, 3) := by decide +kernel
theorem dX7_fewest_248 : decode cX7_fewest 248 = .ok (.iload 8, 2) := by decide +kernel
theorem dX7_fewest_250 : decode cX7_fewest 250 = .ok (.iload 10, 2) := by decide +kernel
theorem dX7_fewest_252 : decode cX7_fewest 252 = .ok (.isub, 1) := by decide +kernel
theorem dX7_fewest_253 : decode cX7_fewest 253 = .ok (.iaload, 1) := by decide +kernel
theorem dX7_fewest_254 : decode cX7_fewest 254 = .ok (.iconst 1, 1) := by decide +kernel
theorem dX7_fewest_255 : decode cX7_fewest 255 = .ok (.iadd, 1) := by decide +kernel
theorem dX7_fewest_256 : decode cX7_fewest 256 = .ok (.goto 10, 3) := by decide +kernel
theorem dX7_fewest_259 : decode cX7_fewest 259 = .ok (.aload_n 0, 1) := by decide +kernel
theorem dX7_fewest_260 : decode cX7_fewest 260 = .ok (.getfield 37, 3) := by decide +kernel
theorem dX7_fewest_263 : decode cX7_fewest 263 = .ok (.iload 8, 2) := by decide +kernel
theorem dX7_fewest_265 : decode cX7_fewest 265 = .ok (.iaload, 1) := by decide +kernel
theorem dX7_fewest_266 : decode cX7_fewest 266 = .ok (.iastore, 1) := by decide +kernel
theorem dX7_fewest_267 : decode cX7_fewest 267 = .ok (.iinc 9 1, 3) := by decide +kernel
theorem dX7_fewest_270 : decode cX7_fewest 270 = .ok (.goto (-124), 3) := by decide +kernel
theorem dX7_fewest_273 : decode cX7_fewest 273 = .ok (.iinc 8 1, 3) := by decide +kernel
theorem dX7_fewest_276 : decode cX7_fewest 276 = .ok (.goto (-149), 3) := by decide +kernel
theorem dX7_fewest_279 : decode cX7_fewest 279 = .ok (.aload_n 0, 1) := by decide +kernel
theorem dX7_fewest_280 : decode cX7_fewest 280 = .ok (.getfield 37, 3) := by decide +kernel
theorem dX7_fewest_283 : decode cX7_fewest 283 = .ok (.iload 5, 2) := by decide +kernel
theorem dX7_fewest_285 : decode cX7_fewest 285 = .ok (.iaload, 1) := by decide +kernel
theorem dX7_fewest_286 : decode cX7_fewest 286 = .ok (.ireturn, 1) := by decide +kernel
set_option maxRecDepth 20000 in
theorem ggX7_standsSo_X7_figureOf : GoodIn wsX7_standsSo wsX7_figureOf := goodIn_r _ [6, 7, 8, 9, 5, 10, 11, 12, 13, 14, 15, 16, 17, 18, 19, 20, 21, 22, 23, 24, 25, 26, 27, 28, 29, 30, 31, 32, 33, 34, 35, 36, 37, 38, 39, 40, 41, 42] (by decide +kernel) (by decide +kernel)
set_option maxRecDepth 20000 in
theorem gX7_standsSo_X7_figureOf : GoodIn wsX7_standsSo (wsV RX7 126 RX7 yX7_figureOf wsX7_figureOf) := goodIn_app (goodIn_of _ (by decide +kernel)) ggX7_standsSo_X7_figureOf
theorem dX7_standsSo_0 : decode cX7_standsSo 0 = .ok (.iconst 0, 1) := by decide +kernel
theorem dX7_standsSo_1 : decode cX7_standsSo 1 = .ok (.istore 4, 2) := by decide +kernel
theorem dX7_standsSo_3 : decode cX7_standsSo 3 = .ok (.iload 4, 2) := by decide +kernel
theorem dX7_standsSo_5 : decode cX7_standsSo 5 = .ok (.iload_n 2, 1) := by decide +kernel
theorem dX7_standsSo_6 : decode cX7_standsSo 6 = .ok (.if_icmp .ge 43, 3) := by decide +kernel
theorem dX7_standsSo_9 : decode cX7_standsSo 9 = .ok (.aload_n 0, 1) := by decide +kernel
theorem dX7_standsSo_10 : decode cX7_standsSo 10 = .ok (.aload_n 0, 1) := by decide +kernel
theorem dX7_standsSo_11 : decode cX7_standsSo 11 = .ok (.getfield 16, 3) := by decide +kernel
theorem dX7_standsSo_14 : decode cX7_standsSo 14 = .ok (.iload_n 1, 1) := by decide +kernel
theorem dX7_standsSo_15 : decode cX7_standsSo 15 = .ok (.iconst 2, 1) := by decide +kernel
theorem dX7_standsSo_16 : decode cX7_standsSo 16 = .ok (.iload 4, 2) := by decide +kernel
theorem dX7_standsSo_18 : decode cX7_standsSo 18 = .ok (.imul, 1) := by decide +kernel
theorem dX7_standsSo_19 : decode cX7_standsSo 19 = .ok (.iadd, 1) := by decide +kernel
theorem dX7_standsSo_20 : decode cX7_standsSo 20 = .ok (.iaload, 1) := by decide +kernel
theorem dX7_standsSo_21 : decode cX7_standsSo 21 = .ok (.iload_n 3, 1) := by decide +kernel
theorem dX7_standsSo_22 : decode cX7_standsSo 22 = .ok (.invokevirtual 126, 3) := by decide +kernel
theorem dX7_standsSo_25 : decode cX7_standsSo 25 = .ok (.aload_n 0, 1) := by decide +kernel
theorem dX7_standsSo_26 : decode cX7_standsSo 26 = .ok (.getfield 16, 3) := by decide +kernel
theorem dX7_standsSo_29 : decode cX7_standsSo 29 = .ok (.iload_n 1, 1) := by decide +kernel
theorem dX7_standsSo_30 : decode cX7_standsSo 30 = .ok (.iconst 2, 1) := by decide +kernel
theorem dX7_standsSo_31 : decode cX7_standsSo 31 = .ok (.iload 4, 2) := by decide +kernel
theorem dX7_standsSo_33 : decode cX7_standsSo 33 = .ok (.imul, 1) := by decide +kernel
theorem dX7_standsSo_34 : decode cX7_standsSo 34 = .ok (.iadd, 1) := by decide +kernel
theorem dX7_standsSo_35 : decode cX7_standsSo 35 = .ok (.iconst 1, 1) := by decide +kernel
theorem dX7_standsSo_36 : decode cX7_standsSo 36 = .ok (.iadd, 1) := by decide +kernel
theorem dX7_standsSo_37 : decode cX7_standsSo 37 = .ok (.iaload, 1) := by decide +kernel
theorem dX7_standsSo_38 : decode cX7_standsSo 38 = .ok (.if_icmp .eq 5, 3) := by decide +kernel
theorem dX7_standsSo_41 : decode cX7_standsSo 41 = .ok (.iconst 0, 1) := by decide +kernel
theorem dX7_standsSo_42 : decode cX7_standsSo 42 = .ok (.ireturn, 1) := by decide +kernel
theorem dX7_standsSo_43 : decode cX7_standsSo 43 = .ok (.iinc 4 1, 3) := by decide +kernel
theorem dX7_standsSo_46 : decode cX7_standsSo 46 = .ok (.goto (-43), 3) := by decide +kernel
theorem dX7_standsSo_49 : decode cX7_standsSo 49 = .ok (.iconst 1, 1) := by decide +kernel
theorem dX7_standsSo_50 : decode cX7_standsSo 50 = .ok (.ireturn, 1) := by decide +kernel
set_option maxRecDepth 20000 in
theorem ggX7_added_X7_isSheet : GoodIn wsX7_added wsX7_isSheet := goodIn_r _ [7, 8, 9, 6, 10] (by decide +kernel) (by decide +kernel)
set_option maxRecDepth 20000 in
theorem gX7_added_X7_isSheet : GoodIn wsX7_added (va_wsS RX7 68 yX7_isSheet wsX7_isSheet) := goodIn_app (goodIn_of _ (by decide +kernel)) ggX7_added_X7_isSheet
set_option maxRecDepth 20000 in
theorem ggX7_added_X7_isSort : GoodIn wsX7_added wsX7_isSort := goodIn_r _ [13, 8, 9, 6, 10] (by decide +kernel) (by decide +kernel)
set_option maxRecDepth 20000 in
theorem gX7_added_X7_isSort : GoodIn wsX7_added (va_wsS RX7 72 yX7_isSort wsX7_isSort) := goodIn_app (goodIn_of _ (by decide +kernel)) ggX7_added_X7_isSort
set_option maxRecDepth 20000 in
theorem ggX7_added_X7_within : GoodIn wsX7_added wsX7_within := goodIn_r _ [10] (by decide +kernel) (by decide +kernel)
set_option maxRecDepth 20000 in
theorem gX7_added_X7_within : GoodIn wsX7_added (va_wsS RX7 58 yX7_within wsX7_within) := goodIn_app (goodIn_of _ (by decide +kernel)) ggX7_added_X7_within
set_option maxRecDepth 20000 in
theorem ggX7_added_X7_against : GoodIn wsX7_added wsX7_against := goodIn_r _ [17, 18, 19, 62, 63, 64, 65, 66, 67, 68, 69, 70, 71, 72, 73, 74, 75, 76, 77, 78, 79, 80, 81, 82, 83, 84] (by decide +kernel) (by decide +kernel)
set_option maxRecDepth 20000 in
theorem gX7_added_X7_against : GoodIn wsX7_added (wsV RX7 75 RX7 yX7_against wsX7_against) := goodIn_app (goodIn_of _ (by decide +kernel)) ggX7_added_X7_against
set_option maxRecDepth 20000 in
theorem ggX7_added_X7_fails : GoodIn wsX7_added wsX7_fails := goodIn_r _ [23, 1, 62, 63, 64, 65, 66, 67, 68, 69, 70, 71, 72, 73, 74, 75, 76, 77, 78, 79, 80, 81, 82, 83, 84] (by decide +kernel) (by decide +kernel)
set_option maxRecDepth 20000 in
theorem gX7_added_X7_fails : GoodIn wsX7_added (wsV RX7 79 RX7 yX7_fails wsX7_fails) := goodIn_app (goodIn_of _ (by decide +kernel)) ggX7_added_X7_fails
set_option maxRecDepth 20000 in
theorem ggX7_added_X7_isWire : GoodIn wsX7_added wsX7_isWire := goodIn_r _ [27, 2, 62, 63, 64, 65, 66, 67, 68, 69, 70, 71, 72, 73, 74, 75, 76, 77, 78, 79, 80, 81, 82, 83, 84] (by decide +kernel) (by decide +kernel)
set_option maxRecDepth 20000 in
theorem gX7_added_X7_isWire : GoodIn wsX7_added (wsV RX7 113 RX7 yX7_isWire wsX7_isWire) := goodIn_app (goodIn_of _ (by decide +kernel)) ggX7_added_X7_isWire
set_option maxRecDepth 20000 in
theorem ggX7_added_X7_canAdd : GoodIn wsX7_added wsX7_canAdd := goodIn_r _ [31, 32, 33, 34, 6, 35, 2, 36, 37, 38, 39, 40, 41, 42, 43, 44, 45, 46, 47, 48, 49, 50, 51, 52, 53, 62, 63, 64, 65, 66, 67, 68, 69, 70, 71, 72, 73, 74, 75, 76, 77, 78, 79, 80, 81, 82, 83, 84] (by decide +kernel) (by decide +kernel)
set_option maxRecDepth 20000 in
theorem gX7_added_X7_canAdd : GoodIn wsX7_added (wsV RX7 132 RX7 yX7_canAdd wsX7_canAdd) := goodIn_app (goodIn_of _ (by decide +kernel)) ggX7_added_X7_canAdd
set_option maxRecDepth 20000 in
theorem ggX7_added_X7_numberNow : GoodIn wsX7_added wsX7_numberNow := goodIn_r _ [52, 2, 53, 36, 37, 38, 6, 39, 40, 41, 42, 43, 44, 45, 46, 47, 48, 62, 63, 64, 65, 66, 67, 68, 69, 70, 71, 72, 73, 74, 75, 76, 77, 78, 79, 80, 81, 82, 83, 84] (by decide +kernel) (by decide +kernel)
set_option maxRecDepth 20000 in
theorem gX7_added_X7_numberNow : GoodIn wsX7_added (wsV RX7 116 RX7 yX7_numberNow wsX7_numberNow) := goodIn_app (goodIn_of _ (by decide +kernel)) ggX7_added_X7_numberNow
set_option maxRecDepth 20000 in
theorem ggX7_added_X7_standsSo : GoodIn wsX7_added wsX7_standsSo := goodIn_r _ [57, 3, 58, 59, 60, 6, 61, 36, 37, 38, 39, 40, 41, 42, 43, 44, 45, 46, 47, 48, 62, 63, 64, 65, 66, 67, 68, 69, 70, 71, 72, 73, 74, 75, 76, 77, 78, 79, 80, 81, 82, 83, 84] (by decide +kernel) (by decide +kernel)
set_option maxRecDepth 20000 in
theorem gX7_added_X7_standsSo : GoodIn wsX7_added (wsV RX7 180 RX7 yX7_standsSo wsX7_standsSo) := goodIn_app (goodIn_of _ (by decide +kernel)) ggX7_added_X7_standsSo
theorem dX7_added_0 : decode cX7_added 0 = .ok (.aload_n 0, 1) := by decide +kernel
theorem dX7_added_1 : decode cX7_added 1 = .ok (.iconst 0, 1) := by decide +kernel
theorem dX7_added_2 : decode cX7_added 2 = .ok (.putfield 52, 3) := by decide +kernel
theorem dX7_added_5 : decode cX7_added 5 = .ok (.iload_n 1, 1) := by decide +kernel
theorem dX7_added_6 : decode cX7_added 6 = .ok (.invokestatic 68, 3) := by decide +kernel
theorem dX7_added_9 : decode cX7_added 9 = .ok (.ifCond .ne 5, 3) := by decide +kernel
theorem dX7_added_12 : decode cX7_added 12 = .ok (.iconst (-1), 1) := by decide +kernel
theorem dX7_added_13 : decode cX7_added 13 = .ok (.ireturn, 1) := by decide +kernel
theorem dX7_added_14 : decode cX7_added 14 = .ok (.iload_n 2, 1) := by decide +kernel
theorem dX7_added_15 : decode cX7_added 15 = .ok (.invokestatic 72, 3) := by decide +kernel
theorem dX7_added_18 : decode cX7_added 18 = .ok (.ifCond .eq 24, 3) := by decide +kernel
theorem dX7_added_21 : decode cX7_added 21 = .ok (.iload 4, 2) := by decide +kernel
theorem dX7_added_23 : decode cX7_added 23 = .ok (.iconst 0, 1) := by decide +kernel
theorem dX7_added_24 : decode cX7_added 24 = .ok (.bipush 10, 2) := by decide +kernel
theorem dX7_added_26 : decode cX7_added 26 = .ok (.invokestatic 58, 3) := by decide +kernel
theorem dX7_added_29 : decode cX7_added 29 = .ok (.ifCond .eq 13, 3) := by decide +kernel
theorem dX7_added_32 : decode cX7_added 32 = .ok (.iload 5, 2) := by decide +kernel
theorem dX7_added_34 : decode cX7_added 34 = .ok (.iconst 0, 1) := by decide +kernel
theorem dX7_added_35 : decode cX7_added 35 = .ok (.iconst 2, 1) := by decide +kernel
theorem dX7_added_36 : decode cX7_added 36 = .ok (.invokestatic 58, 3) := by decide +kernel
theorem dX7_added_39 : decode cX7_added 39 = .ok (.ifCond .ne 6, 3) := by decide +kernel
theorem dX7_added_42 : decode cX7_added 42 = .ok (.bipush (-2), 2) := by decide +kernel
theorem dX7_added_44 : decode cX7_added 44 = .ok (.ireturn, 1) := by decide +kernel
theorem dX7_added_45 : decode cX7_added 45 = .ok (.aload_n 0, 1) := by decide +kernel
theorem dX7_added_46 : decode cX7_added 46 = .ok (.iload_n 1, 1) := by decide +kernel
theorem dX7_added_47 : decode cX7_added 47 = .ok (.iload_n 2, 1) := by decide +kernel
theorem dX7_added_48 : decode cX7_added 48 = .ok (.iload_n 3, 1) := by decide +kernel
theorem dX7_added_49 : decode cX7_added 49 = .ok (.iconst 2, 1) := by decide +kernel
theorem dX7_added_50 : decode cX7_added 50 = .ok (.iload 4, 2) := by decide +kernel
theorem dX7_added_52 : decode cX7_added 52 = .ok (.imul, 1) := by decide +kernel
theorem dX7_added_53 : decode cX7_added 53 = .ok (.invokevirtual 75, 3) := by decide +kernel
theorem dX7_added_56 : decode cX7_added 56 = .ok (.istore 6, 2) := by decide +kernel
theorem dX7_added_58 : decode cX7_added 58 = .ok (.iload 6, 2) := by decide +kernel
theorem dX7_added_60 : decode cX7_added 60 = .ok (.ifCond .eq 10, 3) := by decide +kernel
theorem dX7_added_63 : decode cX7_added 63 = .ok (.aload_n 0, 1) := by decide +kernel
theorem dX7_added_64 : decode cX7_added 64 = .ok (.iload 6, 2) := by decide +kernel
theorem dX7_added_66 : decode cX7_added 66 = .ok (.invokevirtual 79, 3) := by decide +kernel
theorem dX7_added_69 : decode cX7_added 69 = .ok (.ireturn, 1) := by decide +kernel
theorem dX7_added_70 : decode cX7_added 70 = .ok (.aload_n 0, 1) := by decide +kernel
theorem dX7_added_71 : decode cX7_added 71 = .ok (.getfield 62, 3) := by decide +kernel
theorem dX7_added_74 : decode cX7_added 74 = .ok (.ifCond .ne 6, 3) := by decide +kernel
theorem dX7_added_77 : decode cX7_added 77 = .ok (.bipush (-3), 2) := by decide +kernel
theorem dX7_added_79 : decode cX7_added 79 = .ok (.ireturn, 1) := by decide +kernel
theorem dX7_added_80 : decode cX7_added 80 = .ok (.bipush 60, 2) := by decide +kernel
theorem dX7_added_82 : decode cX7_added 82 = .ok (.iload_n 1, 1) := by decide +kernel
theorem dX7_added_83 : decode cX7_added 83 = .ok (.imul, 1) := by decide +kernel
theorem dX7_added_84 : decode cX7_added 84 = .ok (.iload_n 3, 1) := by decide +kernel
theorem dX7_added_85 : decode cX7_added 85 = .ok (.iadd, 1) := by decide +kernel
theorem dX7_added_86 : decode cX7_added 86 = .ok (.istore 7, 2) := by decide +kernel
theorem dX7_added_88 : decode cX7_added 88 = .ok (.iconst 0, 1) := by decide +kernel
theorem dX7_added_89 : decode cX7_added 89 = .ok (.istore 8, 2) := by decide +kernel
theorem dX7_added_91 : decode cX7_added 91 = .ok (.iload 8, 2) := by decide +kernel
theorem dX7_added_93 : decode cX7_added 93 = .ok (.iload 4, 2) := by decide +kernel
theorem dX7_added_95 : decode cX7_added 95 = .ok (.if_icmp .ge 30, 3) := by decide +kernel
theorem dX7_added_98 : decode cX7_added 98 = .ok (.aload_n 0, 1) := by decide +kernel
theorem dX7_added_99 : decode cX7_added 99 = .ok (.aload_n 0, 1) := by decide +kernel
theorem dX7_added_100 : decode cX7_added 100 = .ok (.getfield 16, 3) := by decide +kernel
theorem dX7_added_103 : decode cX7_added 103 = .ok (.iload 7, 2) := by decide +kernel
theorem dX7_added_105 : decode cX7_added 105 = .ok (.iconst 2, 1) := by decide +kernel
theorem dX7_added_106 : decode cX7_added 106 = .ok (.iload 8, 2) := by decide +kernel
theorem dX7_added_108 : decode cX7_added 108 = .ok (.imul, 1) := by decide +kernel
theorem dX7_added_109 : decode cX7_added 109 = .ok (.iadd, 1) := by decide +kernel
theorem dX7_added_110 : decode cX7_added 110 = .ok (.iaload, 1) := by decide +kernel
theorem dX7_added_111 : decode cX7_added 111 = .ok (.invokevirtual 113, 3) := by decide +kernel
theorem dX7_added_114 : decode cX7_added 114 = .ok (.ifCond .ne 5, 3) := by decide +kernel
theorem dX7_added_117 : decode cX7_added 117 = .ok (.iconst (-1), 1) := by decide +kernel
theorem dX7_added_118 : decode cX7_added 118 = .ok (.ireturn, 1) := by decide +kernel
theorem dX7_added_119 : decode cX7_added 119 = .ok (.iinc 8 1, 3) := by decide +kernel
theorem dX7_added_122 : decode cX7_added 122 = .ok (.goto (-31), 3) := by decide +kernel
theorem dX7_added_125 : decode cX7_added 125 = .ok (.iconst 0, 1) := by decide +kernel
theorem dX7_added_126 : decode cX7_added 126 = .ok (.istore 8, 2) := by decide +kernel
theorem dX7_added_128 : decode cX7_added 128 = .ok (.bipush (-9), 2) := by decide +kernel
theorem dX7_added_130 : decode cX7_added 130 = .ok (.istore 9, 2) := by decide +kernel
theorem dX7_added_132 : decode cX7_added 132 = .ok (.bipush (-9), 2) := by decide +kernel
theorem dX7_added_134 : decode cX7_added 134 = .ok (.istore 10, 2) := by decide +kernel
theorem dX7_added_136 : decode cX7_added 136 = .ok (.iconst 0, 1) := by decide +kernel
theorem dX7_added_137 : decode cX7_added 137 = .ok (.istore 11, 2) := by decide +kernel
theorem dX7_added_139 : decode cX7_added 139 = .ok (.iload 11, 2) := by decide +kernel
theorem dX7_added_141 : decode cX7_added 141 = .ok (.sipush 999, 3) := by decide +kernel
theorem dX7_added_144 : decode cX7_added 144 = .ok (.if_icmp .gt 59, 3) := by decide +kernel
theorem dX7_added_147 : decode cX7_added 147 = .ok (.aload_n 0, 1) := by decide +kernel
theorem dX7_added_148 : decode cX7_added 148 = .ok (.iload 11, 2) := by decide +kernel
theorem dX7_added_150 : decode cX7_added 150 = .ok (.invokevirtual 132, 3) := by decide +kernel
theorem dX7_added_153 : decode cX7_added 153 = .ok (.ifCond .eq 50, 3) := by decide +kernel
theorem dX7_added_156 : decode cX7_added 156 = .ok (.aload_n 0, 1) := by decide +kernel
theorem dX7_added_157 : decode cX7_added 157 = .ok (.iload 7, 2) := by decide +kernel
theorem dX7_added_159 : decode cX7_added 159 = .ok (.iload 4, 2) := by decide +kernel
theorem dX7_added_161 : decode cX7_added 161 = .ok (.aload_n 0, 1) := by decide +kernel
theorem dX7_added_162 : decode cX7_added 162 = .ok (.invokevirtual 116, 3) := by decide +kernel
theorem dX7_added_165 : decode cX7_added 165 = .ok (.iload 11, 2) := by decide +kernel
theorem dX7_added_167 : decode cX7_added 167 = .ok (.iadd, 1) := by decide +kernel
theorem dX7_added_168 : decode cX7_added 168 = .ok (.invokevirtual 180, 3) := by decide +kernel
theorem dX7_added_171 : decode cX7_added 171 = .ok (.ifCond .eq 26, 3) := by decide +kernel
theorem dX7_added_174 : decode cX7_added 174 = .ok (.iinc 8 1, 3) := by decide +kernel
theorem dX7_added_177 : decode cX7_added 177 = .ok (.iload 9, 2) := by decide +kernel
theorem dX7_added_179 : decode cX7_added 179 = .ok (.bipush (-9), 2) := by decide +kernel
theorem dX7_added_181 : decode cX7_added 181 = .ok (.if_icmp .ne 8, 3) := by decide +kernel
theorem dX7_added_184 : decode cX7_added 184 = .ok (.iload 11, 2) := by decide +kernel
theorem dX7_added_186 : decode cX7_added 186 = .ok (.goto 5, 3) := by decide +kernel
theorem dX7_added_189 : decode cX7_added 189 = .ok (.iload 9, 2) := by decide +kernel
theorem dX7_added_191 : decode cX7_added 191 = .ok (.istore 9, 2) := by decide +kernel
theorem dX7_added_193 : decode cX7_added 193 = .ok (.iload 11, 2) := by decide +kernel
theorem dX7_added_195 : decode cX7_added 195 = .ok (.istore 10, 2) := by decide +kernel
theorem dX7_added_197 : decode cX7_added 197 = .ok (.iinc 11 1, 3) := by decide +kernel
theorem dX7_added_200 : decode cX7_added 200 = .ok (.goto (-61), 3) := by decide +kernel
theorem dX7_added_203 : decode cX7_added 203 = .ok (.iload 5, 2) := by decide +kernel
theorem dX7_added_205 : decode cX7_added 205 = .ok (.ifCond .ne 8, 3) := by decide +kernel
theorem dX7_added_208 : decode cX7_added 208 = .ok (.iload 8, 2) := by decide +kernel
theorem dX7_added_210 : decode cX7_added 210 = .ok (.goto 16, 3) := by decide +kernel
theorem dX7_added_213 : decode cX7_added 213 = .ok (.iload 5, 2) := by decide +kernel
theorem dX7_added_215 : decode cX7_added 215 = .ok (.iconst 1, 1) := by decide +kernel
theorem dX7_added_216 : decode cX7_added 216 = .ok (.if_icmp .ne 8, 3) := by decide +kernel
theorem dX7_added_219 : decode cX7_added 219 = .ok (.iload 9, 2) := by decide +kernel
theorem dX7_added_221 : decode cX7_added 221 = .ok (.goto 5, 3) := by decide +kernel
theorem dX7_added_224 : decode cX7_added 224 = .ok (.iload 10, 2) := by decide +kernel
theorem dX7_added_226 : decode cX7_added 226 = .ok (.ireturn, 1) := by decide +kernel
set_option maxRecDepth 20000 in
theorem ggX7_turn_X7_within : GoodIn wsX7_turn wsX7_within := goodIn_r _ [6] (by decide +kernel) (by decide +kernel)
set_option maxRecDepth 20000 in
theorem gX7_turn_X7_within : GoodIn wsX7_turn (va_wsS RX7 58 yX7_within wsX7_within) := goodIn_app (goodIn_of _ (by decide +kernel)) ggX7_turn_X7_within
theorem dX7_turn_0 : decode cX7_turn 0 = .ok (.iload_n 1, 1) := by decide +kernel
theorem dX7_turn_1 : decode cX7_turn 1 = .ok (.iconst 0, 1) := by decide +kernel
theorem dX7_turn_2 : decode cX7_turn 2 = .ok (.iconst 1, 1) := by decide +kernel
theorem dX7_turn_3 : decode cX7_turn 3 = .ok (.invokestatic 58, 3) := by decide +kernel
theorem dX7_turn_6 : decode cX7_turn 6 = .ok (.ifCond .ne 6, 3) := by decide +kernel
theorem dX7_turn_9 : decode cX7_turn 9 = .ok (.bipush (-2), 2) := by decide +kernel
theorem dX7_turn_11 : decode cX7_turn 11 = .ok (.ireturn, 1) := by decide +kernel
theorem dX7_turn_12 : decode cX7_turn 12 = .ok (.aload_n 0, 1) := by decide +kernel
theorem dX7_turn_13 : decode cX7_turn 13 = .ok (.getfield 62, 3) := by decide +kernel
theorem dX7_turn_16 : decode cX7_turn 16 = .ok (.ifCond .ne 6, 3) := by decide +kernel
theorem dX7_turn_19 : decode cX7_turn 19 = .ok (.bipush (-3), 2) := by decide +kernel
theorem dX7_turn_21 : decode cX7_turn 21 = .ok (.ireturn, 1) := by decide +kernel
theorem dX7_turn_22 : decode cX7_turn 22 = .ok (.iconst 0, 1) := by decide +kernel
theorem dX7_turn_23 : decode cX7_turn 23 = .ok (.istore_n 2, 1) := by decide +kernel
theorem dX7_turn_24 : decode cX7_turn 24 = .ok (.iconst 0, 1) := by decide +kernel
theorem dX7_turn_25 : decode cX7_turn 25 = .ok (.istore_n 3, 1) := by decide +kernel
theorem dX7_turn_26 : decode cX7_turn 26 = .ok (.iload_n 3, 1) := by decide +kernel
theorem dX7_turn_27 : decode cX7_turn 27 = .ok (.aload_n 0, 1) := by decide +kernel
theorem dX7_turn_28 : decode cX7_turn 28 = .ok (.getfield 62, 3) := by decide +kernel
theorem dX7_turn_31 : decode cX7_turn 31 = .ok (.if_icmp .ge 18, 3) := by decide +kernel
theorem dX7_turn_34 : decode cX7_turn 34 = .ok (.iload_n 2, 1) := by decide +kernel
theorem dX7_turn_35 : decode cX7_turn 35 = .ok (.aload_n 0, 1) := by decide +kernel
theorem dX7_turn_36 : decode cX7_turn 36 = .ok (.getfield 25, 3) := by decide +kernel
theorem dX7_turn_39 : decode cX7_turn 39 = .ok (.iload_n 3, 1) := by decide +kernel
theorem dX7_turn_40 : decode cX7_turn 40 = .ok (.iaload, 1) := by decide +kernel
theorem dX7_turn_41 : decode cX7_turn 41 = .ok (.ixor, 1) := by decide +kernel
theorem dX7_turn_42 : decode cX7_turn 42 = .ok (.istore_n 2, 1) := by decide +kernel
theorem dX7_turn_43 : decode cX7_turn 43 = .ok (.iinc 3 1, 3) := by decide +kernel
theorem dX7_turn_46 : decode cX7_turn 46 = .ok (.goto (-20), 3) := by decide +kernel
theorem dX7_turn_49 : decode cX7_turn 49 = .ok (.iconst 0, 1) := by decide +kernel
theorem dX7_turn_50 : decode cX7_turn 50 = .ok (.istore_n 3, 1) := by decide +kernel
theorem dX7_turn_51 : decode cX7_turn 51 = .ok (.iload_n 3, 1) := by decide +kernel
theorem dX7_turn_52 : decode cX7_turn 52 = .ok (.aload_n 0, 1) := by decide +kernel
theorem dX7_turn_53 : decode cX7_turn 53 = .ok (.getfield 62, 3) := by decide +kernel
theorem dX7_turn_56 : decode cX7_turn 56 = .ok (.if_icmp .ge 47, 3) := by decide +kernel
theorem dX7_turn_59 : decode cX7_turn 59 = .ok (.iload_n 2, 1) := by decide +kernel
theorem dX7_turn_60 : decode cX7_turn 60 = .ok (.ifCond .eq 43, 3) := by decide +kernel
theorem dX7_turn_63 : decode cX7_turn 63 = .ok (.aload_n 0, 1) := by decide +kernel
theorem dX7_turn_64 : decode cX7_turn 64 = .ok (.getfield 25, 3) := by decide +kernel
theorem dX7_turn_67 : decode cX7_turn 67 = .ok (.iload_n 3, 1) := by decide +kernel
theorem dX7_turn_68 : decode cX7_turn 68 = .ok (.iaload, 1) := by decide +kernel
theorem dX7_turn_69 : decode cX7_turn 69 = .ok (.iload_n 2, 1) := by decide +kernel
theorem dX7_turn_70 : decode cX7_turn 70 = .ok (.ixor, 1) := by decide +kernel
theorem dX7_turn_71 : decode cX7_turn 71 = .ok (.aload_n 0, 1) := by decide +kernel
theorem dX7_turn_72 : decode cX7_turn 72 = .ok (.getfield 25, 3) := by decide +kernel
theorem dX7_turn_75 : decode cX7_turn 75 = .ok (.iload_n 3, 1) := by decide +kernel
theorem dX7_turn_76 : decode cX7_turn 76 = .ok (.iaload, 1) := by decide +kernel
theorem dX7_turn_77 : decode cX7_turn 77 = .ok (.if_icmp .ge 20, 3) := by decide +kernel
theorem dX7_turn_80 : decode cX7_turn 80 = .ok (.iload_n 1, 1) := by decide +kernel
theorem dX7_turn_81 : decode cX7_turn 81 = .ok (.ifCond .ne 7, 3) := by decide +kernel
theorem dX7_turn_84 : decode cX7_turn 84 = .ok (.iload_n 3, 1) := by decide +kernel
theorem dX7_turn_85 : decode cX7_turn 85 = .ok (.goto 11, 3) := by decide +kernel
theorem dX7_turn_88 : decode cX7_turn 88 = .ok (.aload_n 0, 1) := by decide +kernel
theorem dX7_turn_89 : decode cX7_turn 89 = .ok (.getfield 25, 3) := by decide +kernel
theorem dX7_turn_92 : decode cX7_turn 92 = .ok (.iload_n 3, 1) := by decide +kernel
theorem dX7_turn_93 : decode cX7_turn 93 = .ok (.iaload, 1) := by decide +kernel
theorem dX7_turn_94 : decode cX7_turn 94 = .ok (.iload_n 2, 1) := by decide +kernel
theorem dX7_turn_95 : decode cX7_turn 95 = .ok (.ixor, 1) := by decide +kernel
theorem dX7_turn_96 : decode cX7_turn 96 = .ok (.ireturn, 1) := by decide +kernel
theorem dX7_turn_97 : decode cX7_turn 97 = .ok (.iinc 3 1, 3) := by decide +kernel
theorem dX7_turn_100 : decode cX7_turn 100 = .ok (.goto (-49), 3) := by decide +kernel
theorem dX7_turn_103 : decode cX7_turn 103 = .ok (.bipush (-9), 2) := by decide +kernel
theorem dX7_turn_105 : decode cX7_turn 105 = .ok (.ireturn, 1) := by decide +kernel
set_option maxRecDepth 20000 in
theorem ggX7_reading_X7_isWire : GoodIn wsX7_reading wsX7_isWire := goodIn_r _ [9, 10, 14, 15, 16, 17, 18, 19, 20, 21, 22, 23, 24, 25, 26, 27, 28, 29, 30, 31, 32, 33, 34, 35, 36] (by decide +kernel) (by decide +kernel)
set_option maxRecDepth 20000 in
theorem gX7_reading_X7_isWire : GoodIn wsX7_reading (wsV RX7 113 RX7 yX7_isWire wsX7_isWire) := goodIn_app (goodIn_of _ (by decide +kernel)) ggX7_reading_X7_isWire
set_option maxRecDepth 20000 in
theorem ggX7_reading_X7_within : GoodIn wsX7_reading wsX7_within := goodIn_r _ [13] (by decide +kernel) (by decide +kernel)
set_option maxRecDepth 20000 in
theorem gX7_reading_X7_within : GoodIn wsX7_reading (va_wsS RX7 58 yX7_within wsX7_within) := goodIn_app (goodIn_of _ (by decide +kernel)) ggX7_reading_X7_within
theorem dX7_reading_0 : decode cX7_reading 0 = .ok (.aload_n 0, 1) := by decide +kernel
theorem dX7_reading_1 : decode cX7_reading 1 = .ok (.iload_n 2, 1) := by decide +kernel
theorem dX7_reading_2 : decode cX7_reading 2 = .ok (.invokevirtual 113, 3) := by decide +kernel
theorem dX7_reading_5 : decode cX7_reading 5 = .ok (.ifCond .ne 5, 3) := by decide +kernel
theorem dX7_reading_8 : decode cX7_reading 8 = .ok (.iconst (-1), 1) := by decide +kernel
theorem dX7_reading_9 : decode cX7_reading 9 = .ok (.ireturn, 1) := by decide +kernel
theorem dX7_reading_10 : decode cX7_reading 10 = .ok (.iload_n 1, 1) := by decide +kernel
theorem dX7_reading_11 : decode cX7_reading 11 = .ok (.iconst 0, 1) := by decide +kernel
theorem dX7_reading_12 : decode cX7_reading 12 = .ok (.sipush 999, 3) := by decide +kernel
theorem dX7_reading_15 : decode cX7_reading 15 = .ok (.invokestatic 58, 3) := by decide +kernel
theorem dX7_reading_18 : decode cX7_reading 18 = .ok (.ifCond .eq 13, 3) := by decide +kernel
theorem dX7_reading_21 : decode cX7_reading 21 = .ok (.iload_n 3, 1) := by decide +kernel
theorem dX7_reading_22 : decode cX7_reading 22 = .ok (.iconst 0, 1) := by decide +kernel
theorem dX7_reading_23 : decode cX7_reading 23 = .ok (.bipush 18, 2) := by decide +kernel
theorem dX7_reading_25 : decode cX7_reading 25 = .ok (.invokestatic 58, 3) := by decide +kernel
theorem dX7_reading_28 : decode cX7_reading 28 = .ok (.ifCond .ne 6, 3) := by decide +kernel
theorem dX7_reading_31 : decode cX7_reading 31 = .ok (.bipush (-2), 2) := by decide +kernel
theorem dX7_reading_33 : decode cX7_reading 33 = .ok (.ireturn, 1) := by decide +kernel
theorem dX7_reading_34 : decode cX7_reading 34 = .ok (.aload_n 0, 1) := by decide +kernel
theorem dX7_reading_35 : decode cX7_reading 35 = .ok (.getfield 89, 3) := by decide +kernel
theorem dX7_reading_38 : decode cX7_reading 38 = .ok (.bipush 8, 2) := by decide +kernel
theorem dX7_reading_40 : decode cX7_reading 40 = .ok (.if_icmp .ne 6, 3) := by decide +kernel
theorem dX7_reading_43 : decode cX7_reading 43 = .ok (.bipush (-4), 2) := by decide +kernel
theorem dX7_reading_45 : decode cX7_reading 45 = .ok (.ireturn, 1) := by decide +kernel
theorem dX7_reading_46 : decode cX7_reading 46 = .ok (.aload_n 0, 1) := by decide +kernel
theorem dX7_reading_47 : decode cX7_reading 47 = .ok (.getfield 40, 3) := by decide +kernel
theorem dX7_reading_50 : decode cX7_reading 50 = .ok (.aload_n 0, 1) := by decide +kernel
theorem dX7_reading_51 : decode cX7_reading 51 = .ok (.getfield 89, 3) := by decide +kernel
theorem dX7_reading_54 : decode cX7_reading 54 = .ok (.iload_n 1, 1) := by decide +kernel
theorem dX7_reading_55 : decode cX7_reading 55 = .ok (.iastore, 1) := by decide +kernel
theorem dX7_reading_56 : decode cX7_reading 56 = .ok (.aload_n 0, 1) := by decide +kernel
theorem dX7_reading_57 : decode cX7_reading 57 = .ok (.getfield 43, 3) := by decide +kernel
theorem dX7_reading_60 : decode cX7_reading 60 = .ok (.aload_n 0, 1) := by decide +kernel
theorem dX7_reading_61 : decode cX7_reading 61 = .ok (.getfield 89, 3) := by decide +kernel
theorem dX7_reading_64 : decode cX7_reading 64 = .ok (.iload_n 2, 1) := by decide +kernel
theorem dX7_reading_65 : decode cX7_reading 65 = .ok (.iastore, 1) := by decide +kernel
theorem dX7_reading_66 : decode cX7_reading 66 = .ok (.aload_n 0, 1) := by decide +kernel
theorem dX7_reading_67 : decode cX7_reading 67 = .ok (.getfield 46, 3) := by decide +kernel
theorem dX7_reading_70 : decode cX7_reading 70 = .ok (.aload_n 0, 1) := by decide +kernel
theorem dX7_reading_71 : decode cX7_reading 71 = .ok (.getfield 89, 3) := by decide +kernel
theorem dX7_reading_74 : decode cX7_reading 74 = .ok (.iload_n 3, 1) := by decide +kernel
theorem dX7_reading_75 : decode cX7_reading 75 = .ok (.iastore, 1) := by decide +kernel
theorem dX7_reading_76 : decode cX7_reading 76 = .ok (.aload_n 0, 1) := by decide +kernel
theorem dX7_reading_77 : decode cX7_reading 77 = .ok (.dup, 1) := by decide +kernel
theorem dX7_reading_78 : decode cX7_reading 78 = .ok (.getfield 89, 3) := by decide +kernel
theorem dX7_reading_81 : decode cX7_reading 81 = .ok (.iconst 1, 1) := by decide +kernel
theorem dX7_reading_82 : decode cX7_reading 82 = .ok (.iadd, 1) := by decide +kernel
theorem dX7_reading_83 : decode cX7_reading 83 = .ok (.putfield 89, 3) := by decide +kernel
theorem dX7_reading_86 : decode cX7_reading 86 = .ok (.aload_n 0, 1) := by decide +kernel
theorem dX7_reading_87 : decode cX7_reading 87 = .ok (.getfield 89, 3) := by decide +kernel
theorem dX7_reading_90 : decode cX7_reading 90 = .ok (.iconst 1, 1) := by decide +kernel
theorem dX7_reading_91 : decode cX7_reading 91 = .ok (.isub, 1) := by decide +kernel
theorem dX7_reading_92 : decode cX7_reading 92 = .ok (.ireturn, 1) := by decide +kernel
set_option maxRecDepth 20000 in
theorem ggX7_back_X7_within : GoodIn wsX7_back wsX7_within := goodIn_r _ [5] (by decide +kernel) (by decide +kernel)
set_option maxRecDepth 20000 in
theorem gX7_back_X7_within : GoodIn wsX7_back (va_wsS RX7 58 yX7_within wsX7_within) := goodIn_app (goodIn_of _ (by decide +kernel)) ggX7_back_X7_within
theorem dX7_back_0 : decode cX7_back 0 = .ok (.iload_n 1, 1) := by decide +kernel
theorem dX7_back_1 : decode cX7_back 1 = .ok (.iconst 0, 1) := by decide +kernel
theorem dX7_back_2 : decode cX7_back 2 = .ok (.aload_n 0, 1) := by decide +kernel
theorem dX7_back_3 : decode cX7_back 3 = .ok (.getfield 89, 3) := by decide +kernel
theorem dX7_back_6 : decode cX7_back 6 = .ok (.invokestatic 58, 3) := by decide +kernel
theorem dX7_back_9 : decode cX7_back 9 = .ok (.ifCond .ne 6, 3) := by decide +kernel
theorem dX7_back_12 : decode cX7_back 12 = .ok (.bipush (-2), 2) := by decide +kernel
theorem dX7_back_14 : decode cX7_back 14 = .ok (.ireturn, 1) := by decide +kernel
theorem dX7_back_15 : decode cX7_back 15 = .ok (.aload_n 0, 1) := by decide +kernel
theorem dX7_back_16 : decode cX7_back 16 = .ok (.dup, 1) := by decide +kernel
theorem dX7_back_17 : decode cX7_back 17 = .ok (.getfield 89, 3) := by decide +kernel
theorem dX7_back_20 : decode cX7_back 20 = .ok (.iload_n 1, 1) := by decide +kernel
theorem dX7_back_21 : decode cX7_back 21 = .ok (.isub, 1) := by decide +kernel
theorem dX7_back_22 : decode cX7_back 22 = .ok (.putfield 89, 3) := by decide +kernel
theorem dX7_back_25 : decode cX7_back 25 = .ok (.aload_n 0, 1) := by decide +kernel
theorem dX7_back_26 : decode cX7_back 26 = .ok (.getfield 89, 3) := by decide +kernel
theorem dX7_back_29 : decode cX7_back 29 = .ok (.ireturn, 1) := by decide +kernel
set_option maxRecDepth 20000 in
theorem ggX7_areSo_X7_roomOf : GoodIn wsX7_areSo wsX7_roomOf := goodIn_r _ [11, 12, 13, 14, 15, 10, 16, 37, 38, 39, 40, 41, 42, 43, 44, 45, 46, 47, 48, 49, 50, 51, 52, 53, 54, 55, 56, 57, 58, 59] (by decide +kernel) (by decide +kernel)
set_option maxRecDepth 20000 in
theorem gX7_areSo_X7_roomOf : GoodIn wsX7_areSo (wsV RX7 107 RX7 yX7_roomOf wsX7_roomOf) := goodIn_app (goodIn_of _ (by decide +kernel)) ggX7_areSo_X7_roomOf
set_option maxRecDepth 20000 in
theorem ggX7_areSo_X7_numberNow : GoodIn wsX7_areSo wsX7_numberNow := goodIn_r _ [20, 1, 2, 21, 22, 23, 10, 24, 7, 8, 9, 11, 12, 13, 14, 15, 16, 37, 38, 39, 40, 41, 42, 43, 44, 45, 46, 47, 48, 49, 50, 51, 52, 53, 54, 55, 56, 57, 58, 59] (by decide +kernel) (by decide +kernel)
set_option maxRecDepth 20000 in
theorem gX7_areSo_X7_numberNow : GoodIn wsX7_areSo (wsV RX7 116 RX7 yX7_numberNow wsX7_numberNow) := goodIn_app (goodIn_of _ (by decide +kernel)) ggX7_areSo_X7_numberNow
set_option maxRecDepth 20000 in
theorem ggX7_areSo_X7_canAdd : GoodIn wsX7_areSo wsX7_canAdd := goodIn_r _ [28, 29, 30, 31, 10, 32, 1, 21, 22, 23, 24, 7, 8, 9, 11, 12, 13, 14, 15, 16, 17, 18, 19, 20, 2, 37, 38, 39, 40, 41, 42, 43, 44, 45, 46, 47, 48, 49, 50, 51, 52, 53, 54, 55, 56, 57, 58, 59] (by decide +kernel) (by decide +kernel)
set_option maxRecDepth 20000 in
theorem gX7_areSo_X7_canAdd : GoodIn wsX7_areSo (wsV RX7 132 RX7 yX7_canAdd wsX7_canAdd) := goodIn_app (goodIn_of _ (by decide +kernel)) ggX7_areSo_X7_canAdd
set_option maxRecDepth 20000 in
theorem ggX7_areSo_X7_figureOf : GoodIn wsX7_areSo wsX7_figureOf := goodIn_r _ [36, 21, 22, 23, 10, 24, 7, 8, 9, 11, 12, 13, 14, 15, 16, 37, 38, 39, 40, 41, 42, 43, 44, 45, 46, 47, 48, 49, 50, 51, 52, 53, 54, 55, 56, 57, 58, 59] (by decide +kernel) (by decide +kernel)
set_option maxRecDepth 20000 in
theorem gX7_areSo_X7_figureOf : GoodIn wsX7_areSo (wsV RX7 126 RX7 yX7_figureOf wsX7_figureOf) := goodIn_app (goodIn_of _ (by decide +kernel)) ggX7_areSo_X7_figureOf
theorem dX7_areSo_0 : decode cX7_areSo 0 = .ok (.iconst 0, 1) := by decide +kernel
theorem dX7_areSo_1 : decode cX7_areSo 1 = .ok (.istore_n 1, 1) := by decide +kernel
theorem dX7_areSo_2 : decode cX7_areSo 2 = .ok (.iload_n 1, 1) := by decide +kernel
theorem dX7_areSo_3 : decode cX7_areSo 3 = .ok (.aload_n 0, 1) := by decide +kernel
theorem dX7_areSo_4 : decode cX7_areSo 4 = .ok (.getfield 62, 3) := by decide +kernel
theorem dX7_areSo_7 : decode cX7_areSo 7 = .ok (.if_icmp .ge 25, 3) := by decide +kernel
theorem dX7_areSo_10 : decode cX7_areSo 10 = .ok (.aload_n 0, 1) := by decide +kernel
theorem dX7_areSo_11 : decode cX7_areSo 11 = .ok (.getfield 25, 3) := by decide +kernel
theorem dX7_areSo_14 : decode cX7_areSo 14 = .ok (.iload_n 1, 1) := by decide +kernel
theorem dX7_areSo_15 : decode cX7_areSo 15 = .ok (.iaload, 1) := by decide +kernel
theorem dX7_areSo_16 : decode cX7_areSo 16 = .ok (.aload_n 0, 1) := by decide +kernel
theorem dX7_areSo_17 : decode cX7_areSo 17 = .ok (.iload_n 1, 1) := by decide +kernel
theorem dX7_areSo_18 : decode cX7_areSo 18 = .ok (.invokevirtual 107, 3) := by decide +kernel
theorem dX7_areSo_21 : decode cX7_areSo 21 = .ok (.if_icmp .le 5, 3) := by decide +kernel
theorem dX7_areSo_24 : decode cX7_areSo 24 = .ok (.iconst 0, 1) := by decide +kernel
theorem dX7_areSo_25 : decode cX7_areSo 25 = .ok (.ireturn, 1) := by decide +kernel
theorem dX7_areSo_26 : decode cX7_areSo 26 = .ok (.iinc 1 1, 3) := by decide +kernel
theorem dX7_areSo_29 : decode cX7_areSo 29 = .ok (.goto (-27), 3) := by decide +kernel
theorem dX7_areSo_32 : decode cX7_areSo 32 = .ok (.aload_n 0, 1) := by decide +kernel
theorem dX7_areSo_33 : decode cX7_areSo 33 = .ok (.invokevirtual 116, 3) := by decide +kernel
theorem dX7_areSo_36 : decode cX7_areSo 36 = .ok (.istore_n 1, 1) := by decide +kernel
theorem dX7_areSo_37 : decode cX7_areSo 37 = .ok (.iconst 0, 1) := by decide +kernel
theorem dX7_areSo_38 : decode cX7_areSo 38 = .ok (.istore_n 2, 1) := by decide +kernel
theorem dX7_areSo_39 : decode cX7_areSo 39 = .ok (.iload_n 2, 1) := by decide +kernel
theorem dX7_areSo_40 : decode cX7_areSo 40 = .ok (.aload_n 0, 1) := by decide +kernel
theorem dX7_areSo_41 : decode cX7_areSo 41 = .ok (.getfield 89, 3) := by decide +kernel
theorem dX7_areSo_44 : decode cX7_areSo 44 = .ok (.if_icmp .ge 51, 3) := by decide +kernel
theorem dX7_areSo_47 : decode cX7_areSo 47 = .ok (.aload_n 0, 1) := by decide +kernel
theorem dX7_areSo_48 : decode cX7_areSo 48 = .ok (.aload_n 0, 1) := by decide +kernel
theorem dX7_areSo_49 : decode cX7_areSo 49 = .ok (.getfield 40, 3) := by decide +kernel
theorem dX7_areSo_52 : decode cX7_areSo 52 = .ok (.iload_n 2, 1) := by decide +kernel
theorem dX7_areSo_53 : decode cX7_areSo 53 = .ok (.iaload, 1) := by decide +kernel
theorem dX7_areSo_54 : decode cX7_areSo 54 = .ok (.invokevirtual 132, 3) := by decide +kernel
theorem dX7_areSo_57 : decode cX7_areSo 57 = .ok (.ifCond .eq 30, 3) := by decide +kernel
theorem dX7_areSo_60 : decode cX7_areSo 60 = .ok (.aload_n 0, 1) := by decide +kernel
theorem dX7_areSo_61 : decode cX7_areSo 61 = .ok (.aload_n 0, 1) := by decide +kernel
theorem dX7_areSo_62 : decode cX7_areSo 62 = .ok (.getfield 43, 3) := by decide +kernel
theorem dX7_areSo_65 : decode cX7_areSo 65 = .ok (.iload_n 2, 1) := by decide +kernel
theorem dX7_areSo_66 : decode cX7_areSo 66 = .ok (.iaload, 1) := by decide +kernel
theorem dX7_areSo_67 : decode cX7_areSo 67 = .ok (.iload_n 1, 1) := by decide +kernel
theorem dX7_areSo_68 : decode cX7_areSo 68 = .ok (.aload_n 0, 1) := by decide +kernel
theorem dX7_areSo_69 : decode cX7_areSo 69 = .ok (.getfield 40, 3) := by decide +kernel
theorem dX7_areSo_72 : decode cX7_areSo 72 = .ok (.iload_n 2, 1) := by decide +kernel
theorem dX7_areSo_73 : decode cX7_areSo 73 = .ok (.iaload, 1) := by decide +kernel
theorem dX7_areSo_74 : decode cX7_areSo 74 = .ok (.iadd, 1) := by decide +kernel
theorem dX7_areSo_75 : decode cX7_areSo 75 = .ok (.invokevirtual 126, 3) := by decide +kernel
theorem dX7_areSo_78 : decode cX7_areSo 78 = .ok (.aload_n 0, 1) := by decide +kernel
theorem dX7_areSo_79 : decode cX7_areSo 79 = .ok (.getfield 46, 3) := by decide +kernel
theorem dX7_areSo_82 : decode cX7_areSo 82 = .ok (.iload_n 2, 1) := by decide +kernel
theorem dX7_areSo_83 : decode cX7_areSo 83 = .ok (.iaload, 1) := by decide +kernel
theorem dX7_areSo_84 : decode cX7_areSo 84 = .ok (.if_icmp .eq 5, 3) := by decide +kernel
theorem dX7_areSo_87 : decode cX7_areSo 87 = .ok (.iconst 0, 1) := by decide +kernel
theorem dX7_areSo_88 : decode cX7_areSo 88 = .ok (.ireturn, 1) := by decide +kernel
theorem dX7_areSo_89 : decode cX7_areSo 89 = .ok (.iinc 2 1, 3) := by decide +kernel
theorem dX7_areSo_92 : decode cX7_areSo 92 = .ok (.goto (-53), 3) := by decide +kernel
theorem dX7_areSo_95 : decode cX7_areSo 95 = .ok (.iconst 1, 1) := by decide +kernel
theorem dX7_areSo_96 : decode cX7_areSo 96 = .ok (.ireturn, 1) := by decide +kernel
set_option maxRecDepth 20000 in
theorem ggX7_mens_X7_isWire : GoodIn wsX7_mens wsX7_isWire := goodIn_r _ [6, 7, 45, 46, 47, 48, 49, 50, 51, 52, 53, 54, 55, 56, 57, 58, 59, 60, 61, 62, 63, 64, 65, 66, 67] (by decide +kernel) (by decide +kernel)
set_option maxRecDepth 20000 in
theorem gX7_mens_X7_isWire : GoodIn wsX7_mens (wsV RX7 113 RX7 yX7_isWire wsX7_isWire) := goodIn_app (goodIn_of _ (by decide +kernel)) ggX7_mens_X7_isWire
set_option maxRecDepth 20000 in
theorem ggX7_mens_X7_areSo : GoodIn wsX7_mens wsX7_areSo := goodIn_r _ [11, 7, 12, 13, 14, 15, 16, 17, 18, 19, 5, 20, 21, 1, 22, 23, 24, 25, 26, 27, 28, 29, 30, 31, 32, 33, 34, 35, 36, 37, 38, 39, 40, 41, 42, 43, 44, 45, 46, 47, 48, 49, 50, 51, 52, 53, 54, 55, 56, 57, 58, 59, 60, 61, 62, 63, 64, 65, 66, 67] (by decide +kernel) (by decide +kernel)
set_option maxRecDepth 20000 in
theorem gX7_mens_X7_areSo : GoodIn wsX7_mens (wsV RX7 183 RX7 yX7_areSo wsX7_areSo) := goodIn_app (goodIn_of _ (by decide +kernel)) ggX7_mens_X7_areSo
theorem dX7_mens_0 : decode cX7_mens 0 = .ok (.aload_n 0, 1) := by decide +kernel
theorem dX7_mens_1 : decode cX7_mens 1 = .ok (.iload_n 1, 1) := by decide +kernel
theorem dX7_mens_2 : decode cX7_mens 2 = .ok (.invokevirtual 113, 3) := by decide +kernel
theorem dX7_mens_5 : decode cX7_mens 5 = .ok (.ifCond .ne 5, 3) := by decide +kernel
theorem dX7_mens_8 : decode cX7_mens 8 = .ok (.iconst (-1), 1) := by decide +kernel
theorem dX7_mens_9 : decode cX7_mens 9 = .ok (.ireturn, 1) := by decide +kernel
theorem dX7_mens_10 : decode cX7_mens 10 = .ok (.aload_n 0, 1) := by decide +kernel
theorem dX7_mens_11 : decode cX7_mens 11 = .ok (.getfield 22, 3) := by decide +kernel
theorem dX7_mens_14 : decode cX7_mens 14 = .ok (.iload_n 1, 1) := by decide +kernel
theorem dX7_mens_15 : decode cX7_mens 15 = .ok (.iaload, 1) := by decide +kernel
theorem dX7_mens_16 : decode cX7_mens 16 = .ok (.istore_n 2, 1) := by decide +kernel
theorem dX7_mens_17 : decode cX7_mens 17 = .ok (.iconst 0, 1) := by decide +kernel
theorem dX7_mens_18 : decode cX7_mens 18 = .ok (.istore_n 3, 1) := by decide +kernel
theorem dX7_mens_19 : decode cX7_mens 19 = .ok (.iconst 1, 1) := by decide +kernel
theorem dX7_mens_20 : decode cX7_mens 20 = .ok (.istore 4, 2) := by decide +kernel
theorem dX7_mens_22 : decode cX7_mens 22 = .ok (.iload 4, 2) := by decide +kernel
theorem dX7_mens_24 : decode cX7_mens 24 = .ok (.bipush 9, 2) := by decide +kernel
theorem dX7_mens_26 : decode cX7_mens 26 = .ok (.if_icmp .gt 35, 3) := by decide +kernel
theorem dX7_mens_29 : decode cX7_mens 29 = .ok (.aload_n 0, 1) := by decide +kernel
theorem dX7_mens_30 : decode cX7_mens 30 = .ok (.getfield 22, 3) := by decide +kernel
theorem dX7_mens_33 : decode cX7_mens 33 = .ok (.iload_n 1, 1) := by decide +kernel
theorem dX7_mens_34 : decode cX7_mens 34 = .ok (.iload 4, 2) := by decide +kernel
theorem dX7_mens_36 : decode cX7_mens 36 = .ok (.iastore, 1) := by decide +kernel
theorem dX7_mens_37 : decode cX7_mens 37 = .ok (.iload_n 3, 1) := by decide +kernel
theorem dX7_mens_38 : decode cX7_mens 38 = .ok (.aload_n 0, 1) := by decide +kernel
theorem dX7_mens_39 : decode cX7_mens 39 = .ok (.invokevirtual 183, 3) := by decide +kernel
theorem dX7_mens_42 : decode cX7_mens 42 = .ok (.ifCond .eq 10, 3) := by decide +kernel
theorem dX7_mens_45 : decode cX7_mens 45 = .ok (.iconst 1, 1) := by decide +kernel
theorem dX7_mens_46 : decode cX7_mens 46 = .ok (.iload 4, 2) := by decide +kernel
theorem dX7_mens_48 : decode cX7_mens 48 = .ok (.ishl, 1) := by decide +kernel
theorem dX7_mens_49 : decode cX7_mens 49 = .ok (.goto 4, 3) := by decide +kernel
theorem dX7_mens_52 : decode cX7_mens 52 = .ok (.iconst 0, 1) := by decide +kernel
theorem dX7_mens_53 : decode cX7_mens 53 = .ok (.ior, 1) := by decide +kernel
theorem dX7_mens_54 : decode cX7_mens 54 = .ok (.istore_n 3, 1) := by decide +kernel
theorem dX7_mens_55 : decode cX7_mens 55 = .ok (.iinc 4 1, 3) := by decide +kernel
theorem dX7_mens_58 : decode cX7_mens 58 = .ok (.goto (-36), 3) := by decide +kernel
theorem dX7_mens_61 : decode cX7_mens 61 = .ok (.aload_n 0, 1) := by decide +kernel
theorem dX7_mens_62 : decode cX7_mens 62 = .ok (.getfield 22, 3) := by decide +kernel
theorem dX7_mens_65 : decode cX7_mens 65 = .ok (.iload_n 1, 1) := by decide +kernel
theorem dX7_mens_66 : decode cX7_mens 66 = .ok (.iload_n 2, 1) := by decide +kernel
theorem dX7_mens_67 : decode cX7_mens 67 = .ok (.iastore, 1) := by decide +kernel
theorem dX7_mens_68 : decode cX7_mens 68 = .ok (.iload_n 3, 1) := by decide +kernel
theorem dX7_mens_69 : decode cX7_mens 69 = .ok (.ireturn, 1) := by decide +kernel
set_option maxRecDepth 20000 in
theorem ggX7_kinds_X7_isWire : GoodIn wsX7_kinds wsX7_isWire := goodIn_r _ [6, 7, 45, 46, 47, 48, 49, 50, 51, 52, 53, 54, 55, 56, 57, 58, 59, 60, 61, 62, 63, 64, 65, 66, 67] (by decide +kernel) (by decide +kernel)
set_option maxRecDepth 20000 in
theorem gX7_kinds_X7_isWire : GoodIn wsX7_kinds (wsV RX7 113 RX7 yX7_isWire wsX7_isWire) := goodIn_app (goodIn_of _ (by decide +kernel)) ggX7_kinds_X7_isWire
set_option maxRecDepth 20000 in
theorem ggX7_kinds_X7_areSo : GoodIn wsX7_kinds wsX7_areSo := goodIn_r _ [11, 7, 12, 13, 14, 15, 16, 17, 18, 19, 5, 20, 1, 21, 22, 23, 24, 25, 26, 27, 28, 29, 30, 31, 32, 33, 34, 35, 36, 37, 38, 39, 40, 41, 42, 43, 44, 45, 46, 47, 48, 49, 50, 51, 52, 53, 54, 55, 56, 57, 58, 59, 60, 61, 62, 63, 64, 65, 66, 67] (by decide +kernel) (by decide +kernel)
set_option maxRecDepth 20000 in
theorem gX7_kinds_X7_areSo : GoodIn wsX7_kinds (wsV RX7 183 RX7 yX7_areSo wsX7_areSo) := goodIn_app (goodIn_of _ (by decide +kernel)) ggX7_kinds_X7_areSo
theorem dX7_kinds_0 : decode cX7_kinds 0 = .ok (.aload_n 0, 1) := by decide +kernel
theorem dX7_kinds_1 : decode cX7_kinds 1 = .ok (.iload_n 1, 1) := by decide +kernel
theorem dX7_kinds_2 : decode cX7_kinds 2 = .ok (.invokevirtual 113, 3) := by decide +kernel
theorem dX7_kinds_5 : decode cX7_kinds 5 = .ok (.ifCond .ne 5, 3) := by decide +kernel
theorem dX7_kinds_8 : decode cX7_kinds 8 = .ok (.iconst (-1), 1) := by decide +kernel
theorem dX7_kinds_9 : decode cX7_kinds 9 = .ok (.ireturn, 1) := by decide +kernel
theorem dX7_kinds_10 : decode cX7_kinds 10 = .ok (.aload_n 0, 1) := by decide +kernel
theorem dX7_kinds_11 : decode cX7_kinds 11 = .ok (.getfield 19, 3) := by decide +kernel
theorem dX7_kinds_14 : decode cX7_kinds 14 = .ok (.iload_n 1, 1) := by decide +kernel
theorem dX7_kinds_15 : decode cX7_kinds 15 = .ok (.iaload, 1) := by decide +kernel
theorem dX7_kinds_16 : decode cX7_kinds 16 = .ok (.istore_n 2, 1) := by decide +kernel
theorem dX7_kinds_17 : decode cX7_kinds 17 = .ok (.iconst 0, 1) := by decide +kernel
theorem dX7_kinds_18 : decode cX7_kinds 18 = .ok (.istore_n 3, 1) := by decide +kernel
theorem dX7_kinds_19 : decode cX7_kinds 19 = .ok (.iconst 0, 1) := by decide +kernel
theorem dX7_kinds_20 : decode cX7_kinds 20 = .ok (.istore 4, 2) := by decide +kernel
theorem dX7_kinds_22 : decode cX7_kinds 22 = .ok (.iload 4, 2) := by decide +kernel
theorem dX7_kinds_24 : decode cX7_kinds 24 = .ok (.iconst 3, 1) := by decide +kernel
theorem dX7_kinds_25 : decode cX7_kinds 25 = .ok (.if_icmp .ge 35, 3) := by decide +kernel
theorem dX7_kinds_28 : decode cX7_kinds 28 = .ok (.aload_n 0, 1) := by decide +kernel
theorem dX7_kinds_29 : decode cX7_kinds 29 = .ok (.getfield 19, 3) := by decide +kernel
theorem dX7_kinds_32 : decode cX7_kinds 32 = .ok (.iload_n 1, 1) := by decide +kernel
theorem dX7_kinds_33 : decode cX7_kinds 33 = .ok (.iload 4, 2) := by decide +kernel
theorem dX7_kinds_35 : decode cX7_kinds 35 = .ok (.iastore, 1) := by decide +kernel
theorem dX7_kinds_36 : decode cX7_kinds 36 = .ok (.iload_n 3, 1) := by decide +kernel
theorem dX7_kinds_37 : decode cX7_kinds 37 = .ok (.aload_n 0, 1) := by decide +kernel
theorem dX7_kinds_38 : decode cX7_kinds 38 = .ok (.invokevirtual 183, 3) := by decide +kernel
theorem dX7_kinds_41 : decode cX7_kinds 41 = .ok (.ifCond .eq 10, 3) := by decide +kernel
theorem dX7_kinds_44 : decode cX7_kinds 44 = .ok (.iconst 1, 1) := by decide +kernel
theorem dX7_kinds_45 : decode cX7_kinds 45 = .ok (.iload 4, 2) := by decide +kernel
theorem dX7_kinds_47 : decode cX7_kinds 47 = .ok (.ishl, 1) := by decide +kernel
theorem dX7_kinds_48 : decode cX7_kinds 48 = .ok (.goto 4, 3) := by decide +kernel
theorem dX7_kinds_51 : decode cX7_kinds 51 = .ok (.iconst 0, 1) := by decide +kernel
theorem dX7_kinds_52 : decode cX7_kinds 52 = .ok (.ior, 1) := by decide +kernel
theorem dX7_kinds_53 : decode cX7_kinds 53 = .ok (.istore_n 3, 1) := by decide +kernel
theorem dX7_kinds_54 : decode cX7_kinds 54 = .ok (.iinc 4 1, 3) := by decide +kernel
theorem dX7_kinds_57 : decode cX7_kinds 57 = .ok (.goto (-35), 3) := by decide +kernel
theorem dX7_kinds_60 : decode cX7_kinds 60 = .ok (.aload_n 0, 1) := by decide +kernel
theorem dX7_kinds_61 : decode cX7_kinds 61 = .ok (.getfield 19, 3) := by decide +kernel
theorem dX7_kinds_64 : decode cX7_kinds 64 = .ok (.iload_n 1, 1) := by decide +kernel
theorem dX7_kinds_65 : decode cX7_kinds 65 = .ok (.iload_n 2, 1) := by decide +kernel
theorem dX7_kinds_66 : decode cX7_kinds 66 = .ok (.iastore, 1) := by decide +kernel
theorem dX7_kinds_67 : decode cX7_kinds 67 = .ok (.iload_n 3, 1) := by decide +kernel
theorem dX7_kinds_68 : decode cX7_kinds 68 = .ok (.ireturn, 1) := by decide +kernel
theorem dX7_inLeastTerms_0 : decode cX7_inLeastTerms 0 = .ok (.lload_n 0, 1) := by decide +kernel
theorem dX7_inLeastTerms_1 : decode cX7_inLeastTerms 1 = .ok (.lstore 5, 2) := by decide +kernel
theorem dX7_inLeastTerms_3 : decode cX7_inLeastTerms 3 = .ok (.lload_n 2, 1) := by decide +kernel
theorem dX7_inLeastTerms_4 : decode cX7_inLeastTerms 4 = .ok (.lstore 7, 2) := by decide +kernel
theorem dX7_inLeastTerms_6 : decode cX7_inLeastTerms 6 = .ok (.lload 7, 2) := by decide +kernel
theorem dX7_inLeastTerms_8 : decode cX7_inLeastTerms 8 = .ok (.lconst 0, 1) := by decide +kernel
theorem dX7_inLeastTerms_9 : decode cX7_inLeastTerms 9 = .ok (.lcmp, 1) := by decide +kernel
theorem dX7_inLeastTerms_10 : decode cX7_inLeastTerms 10 = .ok (.ifCond .eq 21, 3) := by decide +kernel
theorem dX7_inLeastTerms_13 : decode cX7_inLeastTerms 13 = .ok (.lload 5, 2) := by decide +kernel
theorem dX7_inLeastTerms_15 : decode cX7_inLeastTerms 15 = .ok (.lload 7, 2) := by decide +kernel
theorem dX7_inLeastTerms_17 : decode cX7_inLeastTerms 17 = .ok (.lrem, 1) := by decide +kernel
theorem dX7_inLeastTerms_18 : decode cX7_inLeastTerms 18 = .ok (.lstore 9, 2) := by decide +kernel
theorem dX7_inLeastTerms_20 : decode cX7_inLeastTerms 20 = .ok (.lload 7, 2) := by decide +kernel
theorem dX7_inLeastTerms_22 : decode cX7_inLeastTerms 22 = .ok (.lstore 5, 2) := by decide +kernel
theorem dX7_inLeastTerms_24 : decode cX7_inLeastTerms 24 = .ok (.lload 9, 2) := by decide +kernel
theorem dX7_inLeastTerms_26 : decode cX7_inLeastTerms 26 = .ok (.lstore 7, 2) := by decide +kernel
theorem dX7_inLeastTerms_28 : decode cX7_inLeastTerms 28 = .ok (.goto (-22), 3) := by decide +kernel
theorem dX7_inLeastTerms_31 : decode cX7_inLeastTerms 31 = .ok (.iload 4, 2) := by decide +kernel
theorem dX7_inLeastTerms_33 : decode cX7_inLeastTerms 33 = .ok (.ifCond .ne 10, 3) := by decide +kernel
theorem dX7_inLeastTerms_36 : decode cX7_inLeastTerms 36 = .ok (.lload_n 0, 1) := by decide +kernel
theorem dX7_inLeastTerms_37 : decode cX7_inLeastTerms 37 = .ok (.lload 5, 2) := by decide +kernel
theorem dX7_inLeastTerms_39 : decode cX7_inLeastTerms 39 = .ok (.ldiv, 1) := by decide +kernel
theorem dX7_inLeastTerms_40 : decode cX7_inLeastTerms 40 = .ok (.goto 7, 3) := by decide +kernel
theorem dX7_inLeastTerms_43 : decode cX7_inLeastTerms 43 = .ok (.lload_n 2, 1) := by decide +kernel
theorem dX7_inLeastTerms_44 : decode cX7_inLeastTerms 44 = .ok (.lload 5, 2) := by decide +kernel
theorem dX7_inLeastTerms_46 : decode cX7_inLeastTerms 46 = .ok (.ldiv, 1) := by decide +kernel
theorem dX7_inLeastTerms_47 : decode cX7_inLeastTerms 47 = .ok (.lreturn, 1) := by decide +kernel
set_option maxRecDepth 20000 in
theorem ggX7_findWays_X7_roomOf : GoodIn wsX7_findWays wsX7_roomOf := goodIn_r _ [7, 8, 9, 10, 11, 6, 12, 13, 14, 15, 16, 17, 18, 19, 20, 21, 22, 23, 24, 25, 26, 27, 28, 29, 30, 31, 32, 33, 34, 35] (by decide +kernel) (by decide +kernel)
set_option maxRecDepth 20000 in
theorem gX7_findWays_X7_roomOf : GoodIn wsX7_findWays (wsV RX7 107 RX7 yX7_roomOf wsX7_roomOf) := goodIn_app (goodIn_of _ (by decide +kernel)) ggX7_findWays_X7_roomOf
theorem dX7_findWays_0 : decode cX7_findWays 0 = .ok (.iconst 0, 1) := by decide +kernel
theorem dX7_findWays_1 : decode cX7_findWays 1 = .ok (.istore_n 1, 1) := by decide +kernel
theorem dX7_findWays_2 : decode cX7_findWays 2 = .ok (.iload_n 1, 1) := by decide +kernel
theorem dX7_findWays_3 : decode cX7_findWays 3 = .ok (.bipush 108, 2) := by decide +kernel
theorem dX7_findWays_5 : decode cX7_findWays 5 = .ok (.if_icmp .gt 24, 3) := by decide +kernel
theorem dX7_findWays_8 : decode cX7_findWays 8 = .ok (.aload_n 0, 1) := by decide +kernel
theorem dX7_findWays_9 : decode cX7_findWays 9 = .ok (.getfield 49, 3) := by decide +kernel
theorem dX7_findWays_12 : decode cX7_findWays 12 = .ok (.iload_n 1, 1) := by decide +kernel
theorem dX7_findWays_13 : decode cX7_findWays 13 = .ok (.iload_n 1, 1) := by decide +kernel
theorem dX7_findWays_14 : decode cX7_findWays 14 = .ok (.ifCond .ne 7, 3) := by decide +kernel
theorem dX7_findWays_17 : decode cX7_findWays 17 = .ok (.iconst 1, 1) := by decide +kernel
theorem dX7_findWays_18 : decode cX7_findWays 18 = .ok (.goto 4, 3) := by decide +kernel
theorem dX7_findWays_21 : decode cX7_findWays 21 = .ok (.iconst 0, 1) := by decide +kernel
theorem dX7_findWays_22 : decode cX7_findWays 22 = .ok (.iastore, 1) := by decide +kernel
theorem dX7_findWays_23 : decode cX7_findWays 23 = .ok (.iinc 1 1, 3) := by decide +kernel
theorem dX7_findWays_26 : decode cX7_findWays 26 = .ok (.goto (-24), 3) := by decide +kernel
theorem dX7_findWays_29 : decode cX7_findWays 29 = .ok (.iconst 0, 1) := by decide +kernel
theorem dX7_findWays_30 : decode cX7_findWays 30 = .ok (.istore_n 1, 1) := by decide +kernel
theorem dX7_findWays_31 : decode cX7_findWays 31 = .ok (.iload_n 1, 1) := by decide +kernel
theorem dX7_findWays_32 : decode cX7_findWays 32 = .ok (.aload_n 0, 1) := by decide +kernel
theorem dX7_findWays_33 : decode cX7_findWays 33 = .ok (.getfield 62, 3) := by decide +kernel
theorem dX7_findWays_36 : decode cX7_findWays 36 = .ok (.if_icmp .ge 68, 3) := by decide +kernel
theorem dX7_findWays_39 : decode cX7_findWays 39 = .ok (.bipush 108, 2) := by decide +kernel
theorem dX7_findWays_41 : decode cX7_findWays 41 = .ok (.istore_n 2, 1) := by decide +kernel
theorem dX7_findWays_42 : decode cX7_findWays 42 = .ok (.iload_n 2, 1) := by decide +kernel
theorem dX7_findWays_43 : decode cX7_findWays 43 = .ok (.ifCond .lt 55, 3) := by decide +kernel
theorem dX7_findWays_46 : decode cX7_findWays 46 = .ok (.iconst 0, 1) := by decide +kernel
theorem dX7_findWays_47 : decode cX7_findWays 47 = .ok (.istore_n 3, 1) := by decide +kernel
theorem dX7_findWays_48 : decode cX7_findWays 48 = .ok (.iconst 0, 1) := by decide +kernel
theorem dX7_findWays_49 : decode cX7_findWays 49 = .ok (.istore 4, 2) := by decide +kernel
theorem dX7_findWays_51 : decode cX7_findWays 51 = .ok (.iload 4, 2) := by decide +kernel
theorem dX7_findWays_53 : decode cX7_findWays 53 = .ok (.aload_n 0, 1) := by decide +kernel
theorem dX7_findWays_54 : decode cX7_findWays 54 = .ok (.iload_n 1, 1) := by decide +kernel
theorem dX7_findWays_55 : decode cX7_findWays 55 = .ok (.invokevirtual 107, 3) := by decide +kernel
theorem dX7_findWays_58 : decode cX7_findWays 58 = .ok (.if_icmp .gt 27, 3) := by decide +kernel
theorem dX7_findWays_61 : decode cX7_findWays 61 = .ok (.iload 4, 2) := by decide +kernel
theorem dX7_findWays_63 : decode cX7_findWays 63 = .ok (.iload_n 2, 1) := by decide +kernel
theorem dX7_findWays_64 : decode cX7_findWays 64 = .ok (.if_icmp .gt 21, 3) := by decide +kernel
theorem dX7_findWays_67 : decode cX7_findWays 67 = .ok (.iload_n 3, 1) := by decide +kernel
theorem dX7_findWays_68 : decode cX7_findWays 68 = .ok (.aload_n 0, 1) := by decide +kernel
theorem dX7_findWays_69 : decode cX7_findWays 69 = .ok (.getfield 49, 3) := by decide +kernel
theorem dX7_findWays_72 : decode cX7_findWays 72 = .ok (.iload_n 2, 1) := by decide +kernel
theorem dX7_findWays_73 : decode cX7_findWays 73 = .ok (.iload 4, 2) := by decide +kernel
theorem dX7_findWays_75 : decode cX7_findWays 75 = .ok (.isub, 1) := by decide +kernel
theorem dX7_findWays_76 : decode cX7_findWays 76 = .ok (.iaload, 1) := by decide +kernel
theorem dX7_findWays_77 : decode cX7_findWays 77 = .ok (.iadd, 1) := by decide +kernel
theorem dX7_findWays_78 : decode cX7_findWays 78 = .ok (.istore_n 3, 1) := by decide +kernel
theorem dX7_findWays_79 : decode cX7_findWays 79 = .ok (.iinc 4 1, 3) := by decide +kernel
theorem dX7_findWays_82 : decode cX7_findWays 82 = .ok (.goto (-31), 3) := by decide +kernel
theorem dX7_findWays_85 : decode cX7_findWays 85 = .ok (.aload_n 0, 1) := by decide +kernel
theorem dX7_findWays_86 : decode cX7_findWays 86 = .ok (.getfield 49, 3) := by decide +kernel
theorem dX7_findWays_89 : decode cX7_findWays 89 = .ok (.iload_n 2, 1) := by decide +kernel
theorem dX7_findWays_90 : decode cX7_findWays 90 = .ok (.iload_n 3, 1) := by decide +kernel
theorem dX7_findWays_91 : decode cX7_findWays 91 = .ok (.iastore, 1) := by decide +kernel
theorem dX7_findWays_92 : decode cX7_findWays 92 = .ok (.iinc 2 (-1), 3) := by decide +kernel
theorem dX7_findWays_95 : decode cX7_findWays 95 = .ok (.goto (-53), 3) := by decide +kernel
theorem dX7_findWays_98 : decode cX7_findWays 98 = .ok (.iinc 1 1, 3) := by decide +kernel
theorem dX7_findWays_101 : decode cX7_findWays 101 = .ok (.goto (-70), 3) := by decide +kernel
theorem dX7_findWays_104 : decode cX7_findWays 104 = .ok (.return_, 1) := by decide +kernel
set_option maxRecDepth 20000 in
theorem ggX7_odds_X7_within : GoodIn wsX7_odds wsX7_within := goodIn_r _ [7] (by decide +kernel) (by decide +kernel)
set_option maxRecDepth 20000 in
theorem gX7_odds_X7_within : GoodIn wsX7_odds (va_wsS RX7 58 yX7_within wsX7_within) := goodIn_app (goodIn_of _ (by decide +kernel)) ggX7_odds_X7_within
set_option maxRecDepth 20000 in
theorem ggX7_odds_X7_findWays : GoodIn wsX7_odds wsX7_findWays := goodIn_r _ [11, 3, 1, 12, 13, 14, 6, 15, 16, 17, 18, 19, 20, 28, 29, 30, 31, 32, 33, 34, 35, 36, 37, 38, 39, 40, 41, 42, 43, 44, 45, 46, 47, 48, 49, 50] (by decide +kernel) (by decide +kernel)
set_option maxRecDepth 20000 in
theorem gX7_odds_X7_findWays : GoodIn wsX7_odds (wsV RX7 187 RX7 yX7_findWays wsX7_findWays) := goodIn_app (goodIn_of _ (by decide +kernel)) ggX7_odds_X7_findWays
set_option maxRecDepth 20000 in
theorem ggX7_odds_X7_worthOf : GoodIn wsX7_odds wsX7_worthOf := goodIn_r _ [24, 12, 13, 14, 6, 15, 16, 17, 18, 19, 20, 28, 29, 30, 31, 32, 33, 34, 35, 36, 37, 38, 39, 40, 41, 42, 43, 44, 45, 46, 47, 48, 49, 50] (by decide +kernel) (by decide +kernel)
set_option maxRecDepth 20000 in
theorem gX7_odds_X7_worthOf : GoodIn wsX7_odds (wsV RX7 110 RX7 yX7_worthOf wsX7_worthOf) := goodIn_app (goodIn_of _ (by decide +kernel)) ggX7_odds_X7_worthOf
set_option maxRecDepth 20000 in
theorem ggX7_odds_X7_inLeastTerms : GoodIn wsX7_odds wsX7_inLeastTerms := goodIn_r _ [27] (by decide +kernel) (by decide +kernel)
set_option maxRecDepth 20000 in
theorem gX7_odds_X7_inLeastTerms : GoodIn wsX7_odds (va_wsS RX7 190 yX7_inLeastTerms wsX7_inLeastTerms) := goodIn_app (goodIn_of _ (by decide +kernel)) ggX7_odds_X7_inLeastTerms
theorem dX7_odds_0 : decode cX7_odds 0 = .ok (.iload_n 1, 1) := by decide +kernel
theorem dX7_odds_1 : decode cX7_odds 1 = .ok (.iconst 0, 1) := by decide +kernel
theorem dX7_odds_2 : decode cX7_odds 2 = .ok (.bipush 108, 2) := by decide +kernel
theorem dX7_odds_4 : decode cX7_odds 4 = .ok (.invokestatic 58, 3) := by decide +kernel
theorem dX7_odds_7 : decode cX7_odds 7 = .ok (.ifCond .eq 19, 3) := by decide +kernel
theorem dX7_odds_10 : decode cX7_odds 10 = .ok (.iload_n 2, 1) := by decide +kernel
theorem dX7_odds_11 : decode cX7_odds 11 = .ok (.iconst 0, 1) := by decide +kernel
theorem dX7_odds_12 : decode cX7_odds 12 = .ok (.iconst 1, 1) := by decide +kernel
theorem dX7_odds_13 : decode cX7_odds 13 = .ok (.invokestatic 58, 3) := by decide +kernel
theorem dX7_odds_16 : decode cX7_odds 16 = .ok (.ifCond .eq 10, 3) := by decide +kernel
theorem dX7_odds_19 : decode cX7_odds 19 = .ok (.aload_n 0, 1) := by decide +kernel
theorem dX7_odds_20 : decode cX7_odds 20 = .ok (.getfield 62, 3) := by decide +kernel
theorem dX7_odds_23 : decode cX7_odds 23 = .ok (.ifCond .ne 7, 3) := by decide +kernel
theorem dX7_odds_26 : decode cX7_odds 26 = .ok (.ldc2_w 56, 3) := by decide +kernel
theorem dX7_odds_29 : decode cX7_odds 29 = .ok (.lreturn, 1) := by decide +kernel
theorem dX7_odds_30 : decode cX7_odds 30 = .ok (.aload_n 0, 1) := by decide +kernel
theorem dX7_odds_31 : decode cX7_odds 31 = .ok (.invokevirtual 187, 3) := by decide +kernel
theorem dX7_odds_34 : decode cX7_odds 34 = .ok (.aload_n 0, 1) := by decide +kernel
theorem dX7_odds_35 : decode cX7_odds 35 = .ok (.getfield 49, 3) := by decide +kernel
theorem dX7_odds_38 : decode cX7_odds 38 = .ok (.iload_n 1, 1) := by decide +kernel
theorem dX7_odds_39 : decode cX7_odds 39 = .ok (.iaload, 1) := by decide +kernel
theorem dX7_odds_40 : decode cX7_odds 40 = .ok (.i2l, 1) := by decide +kernel
theorem dX7_odds_41 : decode cX7_odds 41 = .ok (.aload_n 0, 1) := by decide +kernel
theorem dX7_odds_42 : decode cX7_odds 42 = .ok (.aload_n 0, 1) := by decide +kernel
theorem dX7_odds_43 : decode cX7_odds 43 = .ok (.getfield 62, 3) := by decide +kernel
theorem dX7_odds_46 : decode cX7_odds 46 = .ok (.invokevirtual 110, 3) := by decide +kernel
theorem dX7_odds_49 : decode cX7_odds 49 = .ok (.i2l, 1) := by decide +kernel
theorem dX7_odds_50 : decode cX7_odds 50 = .ok (.iload_n 2, 1) := by decide +kernel
theorem dX7_odds_51 : decode cX7_odds 51 = .ok (.invokestatic 190, 3) := by decide +kernel
theorem dX7_odds_54 : decode cX7_odds 54 = .ok (.lreturn, 1) := by decide +kernel
set_option maxRecDepth 20000 in
theorem ggX7_sheet_X7_isSheet : GoodIn wsX7_sheet wsX7_isSheet := goodIn_r _ [8, 9, 10, 7, 11] (by decide +kernel) (by decide +kernel)
set_option maxRecDepth 20000 in
theorem gX7_sheet_X7_isSheet : GoodIn wsX7_sheet (va_wsS RX7 68 yX7_isSheet wsX7_isSheet) := goodIn_app (goodIn_of _ (by decide +kernel)) ggX7_sheet_X7_isSheet
set_option maxRecDepth 20000 in
theorem ggX7_sheet_X7_isSort : GoodIn wsX7_sheet wsX7_isSort := goodIn_r _ [14, 9, 10, 7, 11] (by decide +kernel) (by decide +kernel)
set_option maxRecDepth 20000 in
theorem gX7_sheet_X7_isSort : GoodIn wsX7_sheet (va_wsS RX7 72 yX7_isSort wsX7_isSort) := goodIn_app (goodIn_of _ (by decide +kernel)) ggX7_sheet_X7_isSort
set_option maxRecDepth 20000 in
theorem ggX7_sheet_X7_fails : GoodIn wsX7_sheet wsX7_fails := goodIn_r _ [18, 1, 19, 20, 21, 22, 23, 24, 25, 26, 27, 28, 29, 30, 31, 32, 33, 34, 35, 36, 37, 38, 39, 40, 41] (by decide +kernel) (by decide +kernel)
set_option maxRecDepth 20000 in
theorem gX7_sheet_X7_fails : GoodIn wsX7_sheet (wsV RX7 79 RX7 yX7_fails wsX7_fails) := goodIn_app (goodIn_of _ (by decide +kernel)) ggX7_sheet_X7_fails
theorem dX7_sheet_0 : decode cX7_sheet 0 = .ok (.aload_n 0, 1) := by decide +kernel
theorem dX7_sheet_1 : decode cX7_sheet 1 = .ok (.iconst 0, 1) := by decide +kernel
theorem dX7_sheet_2 : decode cX7_sheet 2 = .ok (.putfield 52, 3) := by decide +kernel
theorem dX7_sheet_5 : decode cX7_sheet 5 = .ok (.iload_n 1, 1) := by decide +kernel
theorem dX7_sheet_6 : decode cX7_sheet 6 = .ok (.invokestatic 68, 3) := by decide +kernel
theorem dX7_sheet_9 : decode cX7_sheet 9 = .ok (.ifCond .ne 5, 3) := by decide +kernel
theorem dX7_sheet_12 : decode cX7_sheet 12 = .ok (.iconst (-1), 1) := by decide +kernel
theorem dX7_sheet_13 : decode cX7_sheet 13 = .ok (.ireturn, 1) := by decide +kernel
theorem dX7_sheet_14 : decode cX7_sheet 14 = .ok (.iload_n 2, 1) := by decide +kernel
theorem dX7_sheet_15 : decode cX7_sheet 15 = .ok (.invokestatic 72, 3) := by decide +kernel
theorem dX7_sheet_18 : decode cX7_sheet 18 = .ok (.ifCond .eq 9, 3) := by decide +kernel
theorem dX7_sheet_21 : decode cX7_sheet 21 = .ok (.iload_n 3, 1) := by decide +kernel
theorem dX7_sheet_22 : decode cX7_sheet 22 = .ok (.bipush 60, 2) := by decide +kernel
theorem dX7_sheet_24 : decode cX7_sheet 24 = .ok (.if_icmp .le 6, 3) := by decide +kernel
theorem dX7_sheet_27 : decode cX7_sheet 27 = .ok (.bipush (-2), 2) := by decide +kernel
theorem dX7_sheet_29 : decode cX7_sheet 29 = .ok (.ireturn, 1) := by decide +kernel
theorem dX7_sheet_30 : decode cX7_sheet 30 = .ok (.iload_n 3, 1) := by decide +kernel
theorem dX7_sheet_31 : decode cX7_sheet 31 = .ok (.ifCond .ge 9, 3) := by decide +kernel
theorem dX7_sheet_34 : decode cX7_sheet 34 = .ok (.aload_n 0, 1) := by decide +kernel
theorem dX7_sheet_35 : decode cX7_sheet 35 = .ok (.iconst 4, 1) := by decide +kernel
theorem dX7_sheet_36 : decode cX7_sheet 36 = .ok (.invokevirtual 79, 3) := by decide +kernel
theorem dX7_sheet_39 : decode cX7_sheet 39 = .ok (.ireturn, 1) := by decide +kernel
theorem dX7_sheet_40 : decode cX7_sheet 40 = .ok (.aload_n 0, 1) := by decide +kernel
theorem dX7_sheet_41 : decode cX7_sheet 41 = .ok (.getfield 9, 3) := by decide +kernel
theorem dX7_sheet_44 : decode cX7_sheet 44 = .ok (.iload_n 1, 1) := by decide +kernel
theorem dX7_sheet_45 : decode cX7_sheet 45 = .ok (.iload_n 2, 1) := by decide +kernel
theorem dX7_sheet_46 : decode cX7_sheet 46 = .ok (.iastore, 1) := by decide +kernel
theorem dX7_sheet_47 : decode cX7_sheet 47 = .ok (.aload_n 0, 1) := by decide +kernel
theorem dX7_sheet_48 : decode cX7_sheet 48 = .ok (.getfield 13, 3) := by decide +kernel
theorem dX7_sheet_51 : decode cX7_sheet 51 = .ok (.iload_n 1, 1) := by decide +kernel
theorem dX7_sheet_52 : decode cX7_sheet 52 = .ok (.iload_n 3, 1) := by decide +kernel
theorem dX7_sheet_53 : decode cX7_sheet 53 = .ok (.iastore, 1) := by decide +kernel
theorem dX7_sheet_54 : decode cX7_sheet 54 = .ok (.iconst 0, 1) := by decide +kernel
theorem dX7_sheet_55 : decode cX7_sheet 55 = .ok (.istore 4, 2) := by decide +kernel
theorem dX7_sheet_57 : decode cX7_sheet 57 = .ok (.iload 4, 2) := by decide +kernel
theorem dX7_sheet_59 : decode cX7_sheet 59 = .ok (.bipush 60, 2) := by decide +kernel
theorem dX7_sheet_61 : decode cX7_sheet 61 = .ok (.if_icmp .ge 22, 3) := by decide +kernel
theorem dX7_sheet_64 : decode cX7_sheet 64 = .ok (.aload_n 0, 1) := by decide +kernel
theorem dX7_sheet_65 : decode cX7_sheet 65 = .ok (.getfield 16, 3) := by decide +kernel
theorem dX7_sheet_68 : decode cX7_sheet 68 = .ok (.bipush 60, 2) := by decide +kernel
theorem dX7_sheet_70 : decode cX7_sheet 70 = .ok (.iload_n 1, 1) := by decide +kernel
theorem dX7_sheet_71 : decode cX7_sheet 71 = .ok (.imul, 1) := by decide +kernel
theorem dX7_sheet_72 : decode cX7_sheet 72 = .ok (.iload 4, 2) := by decide +kernel
theorem dX7_sheet_74 : decode cX7_sheet 74 = .ok (.iadd, 1) := by decide +kernel
theorem dX7_sheet_75 : decode cX7_sheet 75 = .ok (.iconst 0, 1) := by decide +kernel
theorem dX7_sheet_76 : decode cX7_sheet 76 = .ok (.iastore, 1) := by decide +kernel
theorem dX7_sheet_77 : decode cX7_sheet 77 = .ok (.iinc 4 1, 3) := by decide +kernel
theorem dX7_sheet_80 : decode cX7_sheet 80 = .ok (.goto (-23), 3) := by decide +kernel
theorem dX7_sheet_83 : decode cX7_sheet 83 = .ok (.iconst 1, 1) := by decide +kernel
theorem dX7_sheet_84 : decode cX7_sheet 84 = .ok (.ireturn, 1) := by decide +kernel
set_option maxRecDepth 20000 in
theorem ggX7_lose_X7_isSheet : GoodIn wsX7_lose wsX7_isSheet := goodIn_r _ [5, 6, 7, 4, 8] (by decide +kernel) (by decide +kernel)
set_option maxRecDepth 20000 in
theorem gX7_lose_X7_isSheet : GoodIn wsX7_lose (va_wsS RX7 68 yX7_isSheet wsX7_isSheet) := goodIn_app (goodIn_of _ (by decide +kernel)) ggX7_lose_X7_isSheet
theorem dX7_lose_0 : decode cX7_lose 0 = .ok (.iload_n 1, 1) := by decide +kernel
theorem dX7_lose_1 : decode cX7_lose 1 = .ok (.invokestatic 68, 3) := by decide +kernel
theorem dX7_lose_4 : decode cX7_lose 4 = .ok (.ifCond .ne 5, 3) := by decide +kernel
theorem dX7_lose_7 : decode cX7_lose 7 = .ok (.iconst (-1), 1) := by decide +kernel
theorem dX7_lose_8 : decode cX7_lose 8 = .ok (.ireturn, 1) := by decide +kernel
theorem dX7_lose_9 : decode cX7_lose 9 = .ok (.aload_n 0, 1) := by decide +kernel
theorem dX7_lose_10 : decode cX7_lose 10 = .ok (.getfield 9, 3) := by decide +kernel
theorem dX7_lose_13 : decode cX7_lose 13 = .ok (.iload_n 1, 1) := by decide +kernel
theorem dX7_lose_14 : decode cX7_lose 14 = .ok (.iaload, 1) := by decide +kernel
theorem dX7_lose_15 : decode cX7_lose 15 = .ok (.bipush (-9), 2) := by decide +kernel
theorem dX7_lose_17 : decode cX7_lose 17 = .ok (.if_icmp .ne 7, 3) := by decide +kernel
theorem dX7_lose_20 : decode cX7_lose 20 = .ok (.iconst 0, 1) := by decide +kernel
theorem dX7_lose_21 : decode cX7_lose 21 = .ok (.goto 4, 3) := by decide +kernel
theorem dX7_lose_24 : decode cX7_lose 24 = .ok (.iconst 1, 1) := by decide +kernel
theorem dX7_lose_25 : decode cX7_lose 25 = .ok (.istore_n 2, 1) := by decide +kernel
theorem dX7_lose_26 : decode cX7_lose 26 = .ok (.aload_n 0, 1) := by decide +kernel
theorem dX7_lose_27 : decode cX7_lose 27 = .ok (.getfield 9, 3) := by decide +kernel
theorem dX7_lose_30 : decode cX7_lose 30 = .ok (.iload_n 1, 1) := by decide +kernel
theorem dX7_lose_31 : decode cX7_lose 31 = .ok (.bipush (-9), 2) := by decide +kernel
theorem dX7_lose_33 : decode cX7_lose 33 = .ok (.iastore, 1) := by decide +kernel
theorem dX7_lose_34 : decode cX7_lose 34 = .ok (.iload_n 2, 1) := by decide +kernel
theorem dX7_lose_35 : decode cX7_lose 35 = .ok (.ireturn, 1) := by decide +kernel
set_option maxRecDepth 20000 in
theorem ggX7_put_X7_isSheet : GoodIn wsX7_put wsX7_isSheet := goodIn_r _ [8, 9, 10, 7, 11] (by decide +kernel) (by decide +kernel)
set_option maxRecDepth 20000 in
theorem gX7_put_X7_isSheet : GoodIn wsX7_put (va_wsS RX7 68 yX7_isSheet wsX7_isSheet) := goodIn_app (goodIn_of _ (by decide +kernel)) ggX7_put_X7_isSheet
set_option maxRecDepth 20000 in
theorem ggX7_put_X7_fails : GoodIn wsX7_put wsX7_fails := goodIn_r _ [15, 1, 16, 17, 18, 19, 20, 21, 22, 23, 24, 25, 26, 27, 28, 29, 30, 31, 32, 33, 34, 35, 36, 37, 38] (by decide +kernel) (by decide +kernel)
set_option maxRecDepth 20000 in
theorem gX7_put_X7_fails : GoodIn wsX7_put (wsV RX7 79 RX7 yX7_fails wsX7_fails) := goodIn_app (goodIn_of _ (by decide +kernel)) ggX7_put_X7_fails
set_option maxRecDepth 20000 in
theorem ggX7_put_X7_within : GoodIn wsX7_put wsX7_within := goodIn_r _ [11] (by decide +kernel) (by decide +kernel)
set_option maxRecDepth 20000 in
theorem gX7_put_X7_within : GoodIn wsX7_put (va_wsS RX7 58 yX7_within wsX7_within) := goodIn_app (goodIn_of _ (by decide +kernel)) ggX7_put_X7_within
theorem dX7_put_0 : decode cX7_put 0 = .ok (.aload_n 0, 1) := by decide +kernel
theorem dX7_put_1 : decode cX7_put 1 = .ok (.iconst 0, 1) := by decide +kernel
theorem dX7_put_2 : decode cX7_put 2 = .ok (.putfield 52, 3) := by decide +kernel
theorem dX7_put_5 : decode cX7_put 5 = .ok (.iload_n 1, 1) := by decide +kernel
theorem dX7_put_6 : decode cX7_put 6 = .ok (.invokestatic 68, 3) := by decide +kernel
theorem dX7_put_9 : decode cX7_put 9 = .ok (.ifCond .ne 5, 3) := by decide +kernel
theorem dX7_put_12 : decode cX7_put 12 = .ok (.iconst (-1), 1) := by decide +kernel
theorem dX7_put_13 : decode cX7_put 13 = .ok (.ireturn, 1) := by decide +kernel
theorem dX7_put_14 : decode cX7_put 14 = .ok (.aload_n 0, 1) := by decide +kernel
theorem dX7_put_15 : decode cX7_put 15 = .ok (.getfield 9, 3) := by decide +kernel
theorem dX7_put_18 : decode cX7_put 18 = .ok (.iload_n 1, 1) := by decide +kernel
theorem dX7_put_19 : decode cX7_put 19 = .ok (.iaload, 1) := by decide +kernel
theorem dX7_put_20 : decode cX7_put 20 = .ok (.bipush (-9), 2) := by decide +kernel
theorem dX7_put_22 : decode cX7_put 22 = .ok (.if_icmp .ne 9, 3) := by decide +kernel
theorem dX7_put_25 : decode cX7_put 25 = .ok (.aload_n 0, 1) := by decide +kernel
theorem dX7_put_26 : decode cX7_put 26 = .ok (.iconst 1, 1) := by decide +kernel
theorem dX7_put_27 : decode cX7_put 27 = .ok (.invokevirtual 79, 3) := by decide +kernel
theorem dX7_put_30 : decode cX7_put 30 = .ok (.ireturn, 1) := by decide +kernel
theorem dX7_put_31 : decode cX7_put 31 = .ok (.iload_n 2, 1) := by decide +kernel
theorem dX7_put_32 : decode cX7_put 32 = .ok (.iconst 0, 1) := by decide +kernel
theorem dX7_put_33 : decode cX7_put 33 = .ok (.aload_n 0, 1) := by decide +kernel
theorem dX7_put_34 : decode cX7_put 34 = .ok (.getfield 13, 3) := by decide +kernel
theorem dX7_put_37 : decode cX7_put 37 = .ok (.iload_n 1, 1) := by decide +kernel
theorem dX7_put_38 : decode cX7_put 38 = .ok (.iaload, 1) := by decide +kernel
theorem dX7_put_39 : decode cX7_put 39 = .ok (.iconst 1, 1) := by decide +kernel
theorem dX7_put_40 : decode cX7_put 40 = .ok (.isub, 1) := by decide +kernel
theorem dX7_put_41 : decode cX7_put 41 = .ok (.invokestatic 58, 3) := by decide +kernel
theorem dX7_put_44 : decode cX7_put 44 = .ok (.ifCond .ne 9, 3) := by decide +kernel
theorem dX7_put_47 : decode cX7_put 47 = .ok (.aload_n 0, 1) := by decide +kernel
theorem dX7_put_48 : decode cX7_put 48 = .ok (.iconst 3, 1) := by decide +kernel
theorem dX7_put_49 : decode cX7_put 49 = .ok (.invokevirtual 79, 3) := by decide +kernel
theorem dX7_put_52 : decode cX7_put 52 = .ok (.ireturn, 1) := by decide +kernel
theorem dX7_put_53 : decode cX7_put 53 = .ok (.aload_n 0, 1) := by decide +kernel
theorem dX7_put_54 : decode cX7_put 54 = .ok (.getfield 16, 3) := by decide +kernel
theorem dX7_put_57 : decode cX7_put 57 = .ok (.bipush 60, 2) := by decide +kernel
theorem dX7_put_59 : decode cX7_put 59 = .ok (.iload_n 1, 1) := by decide +kernel
theorem dX7_put_60 : decode cX7_put 60 = .ok (.imul, 1) := by decide +kernel
theorem dX7_put_61 : decode cX7_put 61 = .ok (.iload_n 2, 1) := by decide +kernel
theorem dX7_put_62 : decode cX7_put 62 = .ok (.iadd, 1) := by decide +kernel
theorem dX7_put_63 : decode cX7_put 63 = .ok (.aload_n 0, 1) := by decide +kernel
theorem dX7_put_64 : decode cX7_put 64 = .ok (.getfield 9, 3) := by decide +kernel
theorem dX7_put_67 : decode cX7_put 67 = .ok (.iload_n 1, 1) := by decide +kernel
theorem dX7_put_68 : decode cX7_put 68 = .ok (.iaload, 1) := by decide +kernel
theorem dX7_put_69 : decode cX7_put 69 = .ok (.ifCond .ne 8, 3) := by decide +kernel
theorem dX7_put_72 : decode cX7_put 72 = .ok (.iload_n 3, 1) := by decide +kernel
theorem dX7_put_73 : decode cX7_put 73 = .ok (.i2b, 1) := by decide +kernel
theorem dX7_put_74 : decode cX7_put 74 = .ok (.goto 19, 3) := by decide +kernel
theorem dX7_put_77 : decode cX7_put 77 = .ok (.aload_n 0, 1) := by decide +kernel
theorem dX7_put_78 : decode cX7_put 78 = .ok (.getfield 9, 3) := by decide +kernel
theorem dX7_put_81 : decode cX7_put 81 = .ok (.iload_n 1, 1) := by decide +kernel
theorem dX7_put_82 : decode cX7_put 82 = .ok (.iaload, 1) := by decide +kernel
theorem dX7_put_83 : decode cX7_put 83 = .ok (.iconst 1, 1) := by decide +kernel
theorem dX7_put_84 : decode cX7_put 84 = .ok (.if_icmp .ne 8, 3) := by decide +kernel
theorem dX7_put_87 : decode cX7_put 87 = .ok (.iload_n 3, 1) := by decide +kernel
theorem dX7_put_88 : decode cX7_put 88 = .ok (.i2s, 1) := by decide +kernel
theorem dX7_put_89 : decode cX7_put 89 = .ok (.goto 4, 3) := by decide +kernel
theorem dX7_put_92 : decode cX7_put 92 = .ok (.iload_n 3, 1) := by decide +kernel
theorem dX7_put_93 : decode cX7_put 93 = .ok (.iastore, 1) := by decide +kernel
theorem dX7_put_94 : decode cX7_put 94 = .ok (.iconst 1, 1) := by decide +kernel
theorem dX7_put_95 : decode cX7_put 95 = .ok (.ireturn, 1) := by decide +kernel
set_option maxRecDepth 20000 in
theorem ggX7_cell_X7_isSheet : GoodIn wsX7_cell wsX7_isSheet := goodIn_r _ [9, 10, 11, 8, 12] (by decide +kernel) (by decide +kernel)
set_option maxRecDepth 20000 in
theorem gX7_cell_X7_isSheet : GoodIn wsX7_cell (va_wsS RX7 68 yX7_isSheet wsX7_isSheet) := goodIn_app (goodIn_of _ (by decide +kernel)) ggX7_cell_X7_isSheet
set_option maxRecDepth 20000 in
theorem ggX7_cell_X7_isSort : GoodIn wsX7_cell wsX7_isSort := goodIn_r _ [15, 10, 11, 8, 12] (by decide +kernel) (by decide +kernel)
set_option maxRecDepth 20000 in
theorem gX7_cell_X7_isSort : GoodIn wsX7_cell (va_wsS RX7 72 yX7_isSort wsX7_isSort) := goodIn_app (goodIn_of _ (by decide +kernel)) ggX7_cell_X7_isSort
set_option maxRecDepth 20000 in
theorem ggX7_cell_X7_lost : GoodIn wsX7_cell wsX7_lost := goodIn_r _ [19, 1, 2, 20, 21, 22, 23, 24, 25, 26, 27, 28, 29, 30, 31, 32, 33, 34, 35, 36, 37, 38, 39, 40, 41, 42] (by decide +kernel) (by decide +kernel)
set_option maxRecDepth 20000 in
theorem gX7_cell_X7_lost : GoodIn wsX7_cell (wsV RX7 194 RX7 yX7_lost wsX7_lost) := goodIn_app (goodIn_of _ (by decide +kernel)) ggX7_cell_X7_lost
set_option maxRecDepth 20000 in
theorem ggX7_cell_X7_within : GoodIn wsX7_cell wsX7_within := goodIn_r _ [12] (by decide +kernel) (by decide +kernel)
set_option maxRecDepth 20000 in
theorem gX7_cell_X7_within : GoodIn wsX7_cell (va_wsS RX7 58 yX7_within wsX7_within) := goodIn_app (goodIn_of _ (by decide +kernel)) ggX7_cell_X7_within
theorem dX7_cell_0 : decode cX7_cell 0 = .ok (.aload_n 0, 1) := by decide +kernel
theorem dX7_cell_1 : decode cX7_cell 1 = .ok (.iconst 0, 1) := by decide +kernel
theorem dX7_cell_2 : decode cX7_cell 2 = .ok (.putfield 52, 3) := by decide +kernel
theorem dX7_cell_5 : decode cX7_cell 5 = .ok (.iload_n 1, 1) := by decide +kernel
theorem dX7_cell_6 : decode cX7_cell 6 = .ok (.invokestatic 68, 3) := by decide +kernel
theorem dX7_cell_9 : decode cX7_cell 9 = .ok (.ifCond .eq 10, 3) := by decide +kernel
theorem dX7_cell_12 : decode cX7_cell 12 = .ok (.iload_n 3, 1) := by decide +kernel
theorem dX7_cell_13 : decode cX7_cell 13 = .ok (.invokestatic 72, 3) := by decide +kernel
theorem dX7_cell_16 : decode cX7_cell 16 = .ok (.ifCond .ne 7, 3) := by decide +kernel
theorem dX7_cell_19 : decode cX7_cell 19 = .ok (.ldc2_w 56, 3) := by decide +kernel
theorem dX7_cell_22 : decode cX7_cell 22 = .ok (.lreturn, 1) := by decide +kernel
theorem dX7_cell_23 : decode cX7_cell 23 = .ok (.aload_n 0, 1) := by decide +kernel
theorem dX7_cell_24 : decode cX7_cell 24 = .ok (.getfield 9, 3) := by decide +kernel
theorem dX7_cell_27 : decode cX7_cell 27 = .ok (.iload_n 1, 1) := by decide +kernel
theorem dX7_cell_28 : decode cX7_cell 28 = .ok (.iaload, 1) := by decide +kernel
theorem dX7_cell_29 : decode cX7_cell 29 = .ok (.bipush (-9), 2) := by decide +kernel
theorem dX7_cell_31 : decode cX7_cell 31 = .ok (.if_icmp .eq 19, 3) := by decide +kernel
theorem dX7_cell_34 : decode cX7_cell 34 = .ok (.aload_n 0, 1) := by decide +kernel
theorem dX7_cell_35 : decode cX7_cell 35 = .ok (.getfield 9, 3) := by decide +kernel
theorem dX7_cell_38 : decode cX7_cell 38 = .ok (.iload_n 1, 1) := by decide +kernel
theorem dX7_cell_39 : decode cX7_cell 39 = .ok (.iaload, 1) := by decide +kernel
theorem dX7_cell_40 : decode cX7_cell 40 = .ok (.iload_n 3, 1) := by decide +kernel
theorem dX7_cell_41 : decode cX7_cell 41 = .ok (.if_icmp .eq 9, 3) := by decide +kernel
theorem dX7_cell_44 : decode cX7_cell 44 = .ok (.aload_n 0, 1) := by decide +kernel
theorem dX7_cell_45 : decode cX7_cell 45 = .ok (.iconst 2, 1) := by decide +kernel
theorem dX7_cell_46 : decode cX7_cell 46 = .ok (.invokevirtual 194, 3) := by decide +kernel
theorem dX7_cell_49 : decode cX7_cell 49 = .ok (.lreturn, 1) := by decide +kernel
theorem dX7_cell_50 : decode cX7_cell 50 = .ok (.aload_n 0, 1) := by decide +kernel
theorem dX7_cell_51 : decode cX7_cell 51 = .ok (.getfield 9, 3) := by decide +kernel
theorem dX7_cell_54 : decode cX7_cell 54 = .ok (.iload_n 1, 1) := by decide +kernel
theorem dX7_cell_55 : decode cX7_cell 55 = .ok (.iaload, 1) := by decide +kernel
theorem dX7_cell_56 : decode cX7_cell 56 = .ok (.bipush (-9), 2) := by decide +kernel
theorem dX7_cell_58 : decode cX7_cell 58 = .ok (.if_icmp .ne 9, 3) := by decide +kernel
theorem dX7_cell_61 : decode cX7_cell 61 = .ok (.aload_n 0, 1) := by decide +kernel
theorem dX7_cell_62 : decode cX7_cell 62 = .ok (.iconst 1, 1) := by decide +kernel
theorem dX7_cell_63 : decode cX7_cell 63 = .ok (.invokevirtual 194, 3) := by decide +kernel
theorem dX7_cell_66 : decode cX7_cell 66 = .ok (.lreturn, 1) := by decide +kernel
theorem dX7_cell_67 : decode cX7_cell 67 = .ok (.iload_n 2, 1) := by decide +kernel
theorem dX7_cell_68 : decode cX7_cell 68 = .ok (.iconst 0, 1) := by decide +kernel
theorem dX7_cell_69 : decode cX7_cell 69 = .ok (.aload_n 0, 1) := by decide +kernel
theorem dX7_cell_70 : decode cX7_cell 70 = .ok (.getfield 13, 3) := by decide +kernel
theorem dX7_cell_73 : decode cX7_cell 73 = .ok (.iload_n 1, 1) := by decide +kernel
theorem dX7_cell_74 : decode cX7_cell 74 = .ok (.iaload, 1) := by decide +kernel
theorem dX7_cell_75 : decode cX7_cell 75 = .ok (.iconst 1, 1) := by decide +kernel
theorem dX7_cell_76 : decode cX7_cell 76 = .ok (.isub, 1) := by decide +kernel
theorem dX7_cell_77 : decode cX7_cell 77 = .ok (.invokestatic 58, 3) := by decide +kernel
theorem dX7_cell_80 : decode cX7_cell 80 = .ok (.ifCond .ne 9, 3) := by decide +kernel
theorem dX7_cell_83 : decode cX7_cell 83 = .ok (.aload_n 0, 1) := by decide +kernel
theorem dX7_cell_84 : decode cX7_cell 84 = .ok (.iconst 3, 1) := by decide +kernel
theorem dX7_cell_85 : decode cX7_cell 85 = .ok (.invokevirtual 194, 3) := by decide +kernel
theorem dX7_cell_88 : decode cX7_cell 88 = .ok (.lreturn, 1) := by decide +kernel
theorem dX7_cell_89 : decode cX7_cell 89 = .ok (.aload_n 0, 1) := by decide +kernel
theorem dX7_cell_90 : decode cX7_cell 90 = .ok (.getfield 16, 3) := by decide +kernel
theorem dX7_cell_93 : decode cX7_cell 93 = .ok (.bipush 60, 2) := by decide +kernel
theorem dX7_cell_95 : decode cX7_cell 95 = .ok (.iload_n 1, 1) := by decide +kernel
theorem dX7_cell_96 : decode cX7_cell 96 = .ok (.imul, 1) := by decide +kernel
theorem dX7_cell_97 : decode cX7_cell 97 = .ok (.iload_n 2, 1) := by decide +kernel
theorem dX7_cell_98 : decode cX7_cell 98 = .ok (.iadd, 1) := by decide +kernel
theorem dX7_cell_99 : decode cX7_cell 99 = .ok (.iaload, 1) := by decide +kernel
theorem dX7_cell_100 : decode cX7_cell 100 = .ok (.i2l, 1) := by decide +kernel
theorem dX7_cell_101 : decode cX7_cell 101 = .ok (.lreturn, 1) := by decide +kernel
set_option maxRecDepth 20000 in
theorem ggX7_copy_X7_isSheet : GoodIn wsX7_copy wsX7_isSheet := goodIn_r _ [8, 9, 10, 7, 11] (by decide +kernel) (by decide +kernel)
set_option maxRecDepth 20000 in
theorem gX7_copy_X7_isSheet : GoodIn wsX7_copy (va_wsS RX7 68 yX7_isSheet wsX7_isSheet) := goodIn_app (goodIn_of _ (by decide +kernel)) ggX7_copy_X7_isSheet
set_option maxRecDepth 20000 in
theorem ggX7_copy_X7_fails : GoodIn wsX7_copy wsX7_fails := goodIn_r _ [15, 1, 16, 17, 18, 19, 20, 21, 22, 23, 24, 25, 26, 27, 28, 29, 30, 31, 32, 33, 34, 35, 36, 37, 38] (by decide +kernel) (by decide +kernel)
set_option maxRecDepth 20000 in
theorem gX7_copy_X7_fails : GoodIn wsX7_copy (wsV RX7 79 RX7 yX7_fails wsX7_fails) := goodIn_app (goodIn_of _ (by decide +kernel)) ggX7_copy_X7_fails
theorem dX7_copy_0 : decode cX7_copy 0 = .ok (.aload_n 0, 1) := by decide +kernel
theorem dX7_copy_1 : decode cX7_copy 1 = .ok (.iconst 0, 1) := by decide +kernel
theorem dX7_copy_2 : decode cX7_copy 2 = .ok (.putfield 52, 3) := by decide +kernel
theorem dX7_copy_5 : decode cX7_copy 5 = .ok (.iload_n 1, 1) := by decide +kernel
theorem dX7_copy_6 : decode cX7_copy 6 = .ok (.invokestatic 68, 3) := by decide +kernel
theorem dX7_copy_9 : decode cX7_copy 9 = .ok (.ifCond .eq 10, 3) := by decide +kernel
theorem dX7_copy_12 : decode cX7_copy 12 = .ok (.iload_n 3, 1) := by decide +kernel
theorem dX7_copy_13 : decode cX7_copy 13 = .ok (.invokestatic 68, 3) := by decide +kernel
theorem dX7_copy_16 : decode cX7_copy 16 = .ok (.ifCond .ne 5, 3) := by decide +kernel
theorem dX7_copy_19 : decode cX7_copy 19 = .ok (.iconst (-1), 1) := by decide +kernel
theorem dX7_copy_20 : decode cX7_copy 20 = .ok (.ireturn, 1) := by decide +kernel
theorem dX7_copy_21 : decode cX7_copy 21 = .ok (.aload_n 0, 1) := by decide +kernel
theorem dX7_copy_22 : decode cX7_copy 22 = .ok (.getfield 9, 3) := by decide +kernel
theorem dX7_copy_25 : decode cX7_copy 25 = .ok (.iload_n 1, 1) := by decide +kernel
theorem dX7_copy_26 : decode cX7_copy 26 = .ok (.iaload, 1) := by decide +kernel
theorem dX7_copy_27 : decode cX7_copy 27 = .ok (.bipush (-9), 2) := by decide +kernel
theorem dX7_copy_29 : decode cX7_copy 29 = .ok (.if_icmp .eq 14, 3) := by decide +kernel
theorem dX7_copy_32 : decode cX7_copy 32 = .ok (.aload_n 0, 1) := by decide +kernel
theorem dX7_copy_33 : decode cX7_copy 33 = .ok (.getfield 9, 3) := by decide +kernel
theorem dX7_copy_36 : decode cX7_copy 36 = .ok (.iload_n 3, 1) := by decide +kernel
theorem dX7_copy_37 : decode cX7_copy 37 = .ok (.iaload, 1) := by decide +kernel
theorem dX7_copy_38 : decode cX7_copy 38 = .ok (.bipush (-9), 2) := by decide +kernel
theorem dX7_copy_40 : decode cX7_copy 40 = .ok (.if_icmp .ne 9, 3) := by decide +kernel
theorem dX7_copy_43 : decode cX7_copy 43 = .ok (.aload_n 0, 1) := by decide +kernel
theorem dX7_copy_44 : decode cX7_copy 44 = .ok (.iconst 1, 1) := by decide +kernel
theorem dX7_copy_45 : decode cX7_copy 45 = .ok (.invokevirtual 79, 3) := by decide +kernel
theorem dX7_copy_48 : decode cX7_copy 48 = .ok (.ireturn, 1) := by decide +kernel
theorem dX7_copy_49 : decode cX7_copy 49 = .ok (.aload_n 0, 1) := by decide +kernel
theorem dX7_copy_50 : decode cX7_copy 50 = .ok (.getfield 9, 3) := by decide +kernel
theorem dX7_copy_53 : decode cX7_copy 53 = .ok (.iload_n 1, 1) := by decide +kernel
theorem dX7_copy_54 : decode cX7_copy 54 = .ok (.iaload, 1) := by decide +kernel
theorem dX7_copy_55 : decode cX7_copy 55 = .ok (.aload_n 0, 1) := by decide +kernel
theorem dX7_copy_56 : decode cX7_copy 56 = .ok (.getfield 9, 3) := by decide +kernel
theorem dX7_copy_59 : decode cX7_copy 59 = .ok (.iload_n 3, 1) := by decide +kernel
theorem dX7_copy_60 : decode cX7_copy 60 = .ok (.iaload, 1) := by decide +kernel
theorem dX7_copy_61 : decode cX7_copy 61 = .ok (.if_icmp .eq 9, 3) := by decide +kernel
theorem dX7_copy_64 : decode cX7_copy 64 = .ok (.aload_n 0, 1) := by decide +kernel
theorem dX7_copy_65 : decode cX7_copy 65 = .ok (.iconst 2, 1) := by decide +kernel
theorem dX7_copy_66 : decode cX7_copy 66 = .ok (.invokevirtual 79, 3) := by decide +kernel
theorem dX7_copy_69 : decode cX7_copy 69 = .ok (.ireturn, 1) := by decide +kernel
theorem dX7_copy_70 : decode cX7_copy 70 = .ok (.iload_n 2, 1) := by decide +kernel
theorem dX7_copy_71 : decode cX7_copy 71 = .ok (.ifCond .lt 38, 3) := by decide +kernel
theorem dX7_copy_74 : decode cX7_copy 74 = .ok (.iload 4, 2) := by decide +kernel
theorem dX7_copy_76 : decode cX7_copy 76 = .ok (.ifCond .lt 33, 3) := by decide +kernel
theorem dX7_copy_79 : decode cX7_copy 79 = .ok (.iload 5, 2) := by decide +kernel
theorem dX7_copy_81 : decode cX7_copy 81 = .ok (.ifCond .lt 28, 3) := by decide +kernel
theorem dX7_copy_84 : decode cX7_copy 84 = .ok (.iload_n 2, 1) := by decide +kernel
theorem dX7_copy_85 : decode cX7_copy 85 = .ok (.aload_n 0, 1) := by decide +kernel
theorem dX7_copy_86 : decode cX7_copy 86 = .ok (.getfield 13, 3) := by decide +kernel
theorem dX7_copy_89 : decode cX7_copy 89 = .ok (.iload_n 1, 1) := by decide +kernel
theorem dX7_copy_90 : decode cX7_copy 90 = .ok (.iaload, 1) := by decide +kernel
theorem dX7_copy_91 : decode cX7_copy 91 = .ok (.if_icmp .gt 18, 3) := by decide +kernel
theorem dX7_copy_94 : decode cX7_copy 94 = .ok (.iload 4, 2) := by decide +kernel
theorem dX7_copy_96 : decode cX7_copy 96 = .ok (.aload_n 0, 1) := by decide +kernel
theorem dX7_copy_97 : decode cX7_copy 97 = .ok (.getfield 13, 3) := by decide +kernel
theorem dX7_copy_100 : decode cX7_copy 100 = .ok (.iload_n 3, 1) := by decide +kernel
theorem dX7_copy_101 : decode cX7_copy 101 = .ok (.iaload, 1) := by decide +kernel
theorem dX7_copy_102 : decode cX7_copy 102 = .ok (.if_icmp .gt 7, 3) := by decide +kernel
theorem dX7_copy_105 : decode cX7_copy 105 = .ok (.iconst 1, 1) := by decide +kernel
theorem dX7_copy_106 : decode cX7_copy 106 = .ok (.goto 4, 3) := by decide +kernel
theorem dX7_copy_109 : decode cX7_copy 109 = .ok (.iconst 0, 1) := by decide +kernel
theorem dX7_copy_110 : decode cX7_copy 110 = .ok (.istore 6, 2) := by decide +kernel
theorem dX7_copy_112 : decode cX7_copy 112 = .ok (.iload 6, 2) := by decide +kernel
theorem dX7_copy_114 : decode cX7_copy 114 = .ok (.ifCond .eq 30, 3) := by decide +kernel
theorem dX7_copy_117 : decode cX7_copy 117 = .ok (.iload 5, 2) := by decide +kernel
theorem dX7_copy_119 : decode cX7_copy 119 = .ok (.aload_n 0, 1) := by decide +kernel
theorem dX7_copy_120 : decode cX7_copy 120 = .ok (.getfield 13, 3) := by decide +kernel
theorem dX7_copy_123 : decode cX7_copy 123 = .ok (.iload_n 1, 1) := by decide +kernel
theorem dX7_copy_124 : decode cX7_copy 124 = .ok (.iaload, 1) := by decide +kernel
theorem dX7_copy_125 : decode cX7_copy 125 = .ok (.iload_n 2, 1) := by decide +kernel
theorem dX7_copy_126 : decode cX7_copy 126 = .ok (.isub, 1) := by decide +kernel
theorem dX7_copy_127 : decode cX7_copy 127 = .ok (.if_icmp .gt 17, 3) := by decide +kernel
theorem dX7_copy_130 : decode cX7_copy 130 = .ok (.iload 5, 2) := by decide +kernel
theorem dX7_copy_132 : decode cX7_copy 132 = .ok (.aload_n 0, 1) := by decide +kernel
theorem dX7_copy_133 : decode cX7_copy 133 = .ok (.getfield 13, 3) := by decide +kernel
theorem dX7_copy_136 : decode cX7_copy 136 = .ok (.iload_n 3, 1) := by decide +kernel
theorem dX7_copy_137 : decode cX7_copy 137 = .ok (.iaload, 1) := by decide +kernel
theorem dX7_copy_138 : decode cX7_copy 138 = .ok (.iload 4, 2) := by decide +kernel
theorem dX7_copy_140 : decode cX7_copy 140 = .ok (.isub, 1) := by decide +kernel
theorem dX7_copy_141 : decode cX7_copy 141 = .ok (.if_icmp .le 9, 3) := by decide +kernel
theorem dX7_copy_144 : decode cX7_copy 144 = .ok (.aload_n 0, 1) := by decide +kernel
theorem dX7_copy_145 : decode cX7_copy 145 = .ok (.iconst 3, 1) := by decide +kernel
theorem dX7_copy_146 : decode cX7_copy 146 = .ok (.invokevirtual 79, 3) := by decide +kernel
theorem dX7_copy_149 : decode cX7_copy 149 = .ok (.ireturn, 1) := by decide +kernel
theorem dX7_copy_150 : decode cX7_copy 150 = .ok (.iload_n 2, 1) := by decide +kernel
theorem dX7_copy_151 : decode cX7_copy 151 = .ok (.iload 4, 2) := by decide +kernel
theorem dX7_copy_153 : decode cX7_copy 153 = .ok (.if_icmp .ge 7, 3) := by decide +kernel
theorem dX7_copy_156 : decode cX7_copy 156 = .ok (.iconst 1, 1) := by decide +kernel
theorem dX7_copy_157 : decode cX7_copy 157 = .ok (.goto 4, 3) := by decide +kernel
theorem dX7_copy_160 : decode cX7_copy 160 = .ok (.iconst 0, 1) := by decide +kernel
theorem dX7_copy_161 : decode cX7_copy 161 = .ok (.istore 7, 2) := by decide +kernel
theorem dX7_copy_163 : decode cX7_copy 163 = .ok (.iconst 0, 1) := by decide +kernel
theorem dX7_copy_164 : decode cX7_copy 164 = .ok (.istore 8, 2) := by decide +kernel
theorem dX7_copy_166 : decode cX7_copy 166 = .ok (.iload 8, 2) := by decide +kernel
theorem dX7_copy_168 : decode cX7_copy 168 = .ok (.iload 5, 2) := by decide +kernel
theorem dX7_copy_170 : decode cX7_copy 170 = .ok (.if_icmp .ge 57, 3) := by decide +kernel
theorem dX7_copy_173 : decode cX7_copy 173 = .ok (.iload 7, 2) := by decide +kernel
theorem dX7_copy_175 : decode cX7_copy 175 = .ok (.ifCond .eq 13, 3) := by decide +kernel
theorem dX7_copy_178 : decode cX7_copy 178 = .ok (.iload 5, 2) := by decide +kernel
theorem dX7_copy_180 : decode cX7_copy 180 = .ok (.iconst 1, 1) := by decide +kernel
theorem dX7_copy_181 : decode cX7_copy 181 = .ok (.isub, 1) := by decide +kernel
theorem dX7_copy_182 : decode cX7_copy 182 = .ok (.iload 8, 2) := by decide +kernel
theorem dX7_copy_184 : decode cX7_copy 184 = .ok (.isub, 1) := by decide +kernel
theorem dX7_copy_185 : decode cX7_copy 185 = .ok (.goto 5, 3) := by decide +kernel
theorem dX7_copy_188 : decode cX7_copy 188 = .ok (.iload 8, 2) := by decide +kernel
theorem dX7_copy_190 : decode cX7_copy 190 = .ok (.istore 9, 2) := by decide +kernel
theorem dX7_copy_192 : decode cX7_copy 192 = .ok (.aload_n 0, 1) := by decide +kernel
theorem dX7_copy_193 : decode cX7_copy 193 = .ok (.getfield 16, 3) := by decide +kernel
theorem dX7_copy_196 : decode cX7_copy 196 = .ok (.bipush 60, 2) := by decide +kernel
theorem dX7_copy_198 : decode cX7_copy 198 = .ok (.iload_n 3, 1) := by decide +kernel
theorem dX7_copy_199 : decode cX7_copy 199 = .ok (.imul, 1) := by decide +kernel
theorem dX7_copy_200 : decode cX7_copy 200 = .ok (.iload 4, 2) := by decide +kernel
theorem dX7_copy_202 : decode cX7_copy 202 = .ok (.iadd, 1) := by decide +kernel
theorem dX7_copy_203 : decode cX7_copy 203 = .ok (.iload 9, 2) := by decide +kernel
theorem dX7_copy_205 : decode cX7_copy 205 = .ok (.iadd, 1) := by decide +kernel
theorem dX7_copy_206 : decode cX7_copy 206 = .ok (.aload_n 0, 1) := by decide +kernel
theorem dX7_copy_207 : decode cX7_copy 207 = .ok (.getfield 16, 3) := by decide +kernel
theorem dX7_copy_210 : decode cX7_copy 210 = .ok (.bipush 60, 2) := by decide +kernel
theorem dX7_copy_212 : decode cX7_copy 212 = .ok (.iload_n 1, 1) := by decide +kernel
theorem dX7_copy_213 : decode cX7_copy 213 = .ok (.imul, 1) := by decide +kernel
theorem dX7_copy_214 : decode cX7_copy 214 = .ok (.iload_n 2, 1) := by decide +kernel
theorem dX7_copy_215 : decode cX7_copy 215 = .ok (.iadd, 1) := by decide +kernel
theorem dX7_copy_216 : decode cX7_copy 216 = .ok (.iload 9, 2) := by decide +kernel
theorem dX7_copy_218 : decode cX7_copy 218 = .ok (.iadd, 1) := by decide +kernel
theorem dX7_copy_219 : decode cX7_copy 219 = .ok (.iaload, 1) := by decide +kernel
theorem dX7_copy_220 : decode cX7_copy 220 = .ok (.iastore, 1) := by decide +kernel
theorem dX7_copy_221 : decode cX7_copy 221 = .ok (.iinc 8 1, 3) := by decide +kernel
theorem dX7_copy_224 : decode cX7_copy 224 = .ok (.goto (-58), 3) := by decide +kernel
theorem dX7_copy_227 : decode cX7_copy 227 = .ok (.iload 5, 2) := by decide +kernel
theorem dX7_copy_229 : decode cX7_copy 229 = .ok (.ireturn, 1) := by decide +kernel
theorem dX7_begins_0 : decode cX7_begins 0 = .ok (.aload_n 0, 1) := by decide +kernel
theorem dX7_begins_1 : decode cX7_begins 1 = .ok (.bipush 31, 2) := by decide +kernel
theorem dX7_begins_3 : decode cX7_begins 3 = .ok (.aload_n 0, 1) := by decide +kernel
theorem dX7_begins_4 : decode cX7_begins 4 = .ok (.getfield 198, 3) := by decide +kernel
theorem dX7_begins_7 : decode cX7_begins 7 = .ok (.imul, 1) := by decide +kernel
theorem dX7_begins_8 : decode cX7_begins 8 = .ok (.iload_n 1, 1) := by decide +kernel
theorem dX7_begins_9 : decode cX7_begins 9 = .ok (.iadd, 1) := by decide +kernel
theorem dX7_begins_10 : decode cX7_begins 10 = .ok (.putfield 198, 3) := by decide +kernel
theorem dX7_begins_13 : decode cX7_begins 13 = .ok (.return_, 1) := by decide +kernel
set_option maxRecDepth 20000 in
theorem ggX7_tell_X7_isWire : GoodIn wsX7_tell wsX7_isWire := goodIn_r _ [7, 8, 14, 15, 16, 17, 18, 19, 20, 21, 22, 23, 24, 25, 26, 27, 28, 29, 30, 31, 32, 33, 34, 35, 36] (by decide +kernel) (by decide +kernel)
set_option maxRecDepth 20000 in
theorem gX7_tell_X7_isWire : GoodIn wsX7_tell (wsV RX7 113 RX7 yX7_isWire wsX7_isWire) := goodIn_app (goodIn_of _ (by decide +kernel)) ggX7_tell_X7_isWire
set_option maxRecDepth 20000 in
theorem ggX7_tell_X7_begins : GoodIn wsX7_tell wsX7_begins := goodIn_r _ [12, 13, 14, 15, 16, 17, 18, 19, 20, 21, 22, 23, 24, 25, 26, 27, 28, 29, 30, 31, 32, 33, 34, 35, 36] (by decide +kernel) (by decide +kernel)
set_option maxRecDepth 20000 in
theorem gX7_tell_X7_begins : GoodIn wsX7_tell (wsV RX7 201 RX7 yX7_begins wsX7_begins) := goodIn_app (goodIn_of _ (by decide +kernel)) ggX7_tell_X7_begins
theorem dX7_tell_0 : decode cX7_tell 0 = .ok (.aload_n 0, 1) := by decide +kernel
theorem dX7_tell_1 : decode cX7_tell 1 = .ok (.iload_n 1, 1) := by decide +kernel
theorem dX7_tell_2 : decode cX7_tell 2 = .ok (.invokevirtual 113, 3) := by decide +kernel
theorem dX7_tell_5 : decode cX7_tell 5 = .ok (.ifCond .ne 5, 3) := by decide +kernel
theorem dX7_tell_8 : decode cX7_tell 8 = .ok (.iconst (-1), 1) := by decide +kernel
theorem dX7_tell_9 : decode cX7_tell 9 = .ok (.ireturn, 1) := by decide +kernel
theorem dX7_tell_10 : decode cX7_tell 10 = .ok (.aload_n 0, 1) := by decide +kernel
theorem dX7_tell_11 : decode cX7_tell 11 = .ok (.getfield 22, 3) := by decide +kernel
theorem dX7_tell_14 : decode cX7_tell 14 = .ok (.iload_n 1, 1) := by decide +kernel
theorem dX7_tell_15 : decode cX7_tell 15 = .ok (.iaload, 1) := by decide +kernel
theorem dX7_tell_16 : decode cX7_tell 16 = .ok (.istore_n 2, 1) := by decide +kernel
theorem dX7_tell_17 : decode cX7_tell 17 = .ok (.aload_n 0, 1) := by decide +kernel
theorem dX7_tell_18 : decode cX7_tell 18 = .ok (.getfield 19, 3) := by decide +kernel
theorem dX7_tell_21 : decode cX7_tell 21 = .ok (.iload_n 1, 1) := by decide +kernel
theorem dX7_tell_22 : decode cX7_tell 22 = .ok (.iaload, 1) := by decide +kernel
theorem dX7_tell_23 : decode cX7_tell 23 = .ok (.lookupswitch 67 #[(1, 25), (2, 40)], 25) := by decide +kernel
theorem dX7_tell_48 : decode cX7_tell 48 = .ok (.aload_n 0, 1) := by decide +kernel
theorem dX7_tell_49 : decode cX7_tell 49 = .ok (.iconst 2, 1) := by decide +kernel
theorem dX7_tell_50 : decode cX7_tell 50 = .ok (.invokevirtual 201, 3) := by decide +kernel
theorem dX7_tell_53 : decode cX7_tell 53 = .ok (.aload_n 0, 1) := by decide +kernel
theorem dX7_tell_54 : decode cX7_tell 54 = .ok (.iconst 1, 1) := by decide +kernel
theorem dX7_tell_55 : decode cX7_tell 55 = .ok (.invokevirtual 201, 3) := by decide +kernel
theorem dX7_tell_58 : decode cX7_tell 58 = .ok (.iload_n 2, 1) := by decide +kernel
theorem dX7_tell_59 : decode cX7_tell 59 = .ok (.bipush 100, 2) := by decide +kernel
theorem dX7_tell_61 : decode cX7_tell 61 = .ok (.iadd, 1) := by decide +kernel
theorem dX7_tell_62 : decode cX7_tell 62 = .ok (.ireturn, 1) := by decide +kernel
theorem dX7_tell_63 : decode cX7_tell 63 = .ok (.aload_n 0, 1) := by decide +kernel
theorem dX7_tell_64 : decode cX7_tell 64 = .ok (.iconst 3, 1) := by decide +kernel
theorem dX7_tell_65 : decode cX7_tell 65 = .ok (.invokevirtual 201, 3) := by decide +kernel
theorem dX7_tell_68 : decode cX7_tell 68 = .ok (.aload_n 0, 1) := by decide +kernel
theorem dX7_tell_69 : decode cX7_tell 69 = .ok (.iconst 2, 1) := by decide +kernel
theorem dX7_tell_70 : decode cX7_tell 70 = .ok (.invokevirtual 201, 3) := by decide +kernel
theorem dX7_tell_73 : decode cX7_tell 73 = .ok (.aload_n 0, 1) := by decide +kernel
theorem dX7_tell_74 : decode cX7_tell 74 = .ok (.iconst 1, 1) := by decide +kernel
theorem dX7_tell_75 : decode cX7_tell 75 = .ok (.invokevirtual 201, 3) := by decide +kernel
theorem dX7_tell_78 : decode cX7_tell 78 = .ok (.aload_n 0, 1) := by decide +kernel
theorem dX7_tell_79 : decode cX7_tell 79 = .ok (.iconst 1, 1) := by decide +kernel
theorem dX7_tell_80 : decode cX7_tell 80 = .ok (.invokevirtual 201, 3) := by decide +kernel
theorem dX7_tell_83 : decode cX7_tell 83 = .ok (.iconst 2, 1) := by decide +kernel
theorem dX7_tell_84 : decode cX7_tell 84 = .ok (.iload_n 2, 1) := by decide +kernel
theorem dX7_tell_85 : decode cX7_tell 85 = .ok (.imul, 1) := by decide +kernel
theorem dX7_tell_86 : decode cX7_tell 86 = .ok (.bipush 100, 2) := by decide +kernel
theorem dX7_tell_88 : decode cX7_tell 88 = .ok (.iadd, 1) := by decide +kernel
theorem dX7_tell_89 : decode cX7_tell 89 = .ok (.ireturn, 1) := by decide +kernel
theorem dX7_tell_90 : decode cX7_tell 90 = .ok (.aload_n 0, 1) := by decide +kernel
theorem dX7_tell_91 : decode cX7_tell 91 = .ok (.iconst 1, 1) := by decide +kernel
theorem dX7_tell_92 : decode cX7_tell 92 = .ok (.invokevirtual 201, 3) := by decide +kernel
theorem dX7_tell_95 : decode cX7_tell 95 = .ok (.iload_n 2, 1) := by decide +kernel
theorem dX7_tell_96 : decode cX7_tell 96 = .ok (.ireturn, 1) := by decide +kernel
set_option maxRecDepth 20000 in
theorem ggX7_feel_X7_isWire : GoodIn wsX7_feel wsX7_isWire := goodIn_r _ [7, 8, 14, 15, 16, 17, 18, 19, 20, 21, 22, 23, 24, 25, 26, 27, 28, 29, 30, 31, 32, 33, 34, 35, 36] (by decide +kernel) (by decide +kernel)
set_option maxRecDepth 20000 in
theorem gX7_feel_X7_isWire : GoodIn wsX7_feel (wsV RX7 113 RX7 yX7_isWire wsX7_isWire) := goodIn_app (goodIn_of _ (by decide +kernel)) ggX7_feel_X7_isWire
set_option maxRecDepth 20000 in
theorem ggX7_feel_X7_begins : GoodIn wsX7_feel wsX7_begins := goodIn_r _ [12, 13, 14, 15, 16, 17, 18, 19, 20, 21, 22, 23, 24, 25, 26, 27, 28, 29, 30, 31, 32, 33, 34, 35, 36] (by decide +kernel) (by decide +kernel)
set_option maxRecDepth 20000 in
theorem gX7_feel_X7_begins : GoodIn wsX7_feel (wsV RX7 201 RX7 yX7_begins wsX7_begins) := goodIn_app (goodIn_of _ (by decide +kernel)) ggX7_feel_X7_begins
theorem dX7_feel_0 : decode cX7_feel 0 = .ok (.aload_n 0, 1) := by decide +kernel
theorem dX7_feel_1 : decode cX7_feel 1 = .ok (.iload_n 1, 1) := by decide +kernel
theorem dX7_feel_2 : decode cX7_feel 2 = .ok (.invokevirtual 113, 3) := by decide +kernel
theorem dX7_feel_5 : decode cX7_feel 5 = .ok (.ifCond .ne 5, 3) := by decide +kernel
theorem dX7_feel_8 : decode cX7_feel 8 = .ok (.iconst (-1), 1) := by decide +kernel
theorem dX7_feel_9 : decode cX7_feel 9 = .ok (.ireturn, 1) := by decide +kernel
theorem dX7_feel_10 : decode cX7_feel 10 = .ok (.aload_n 0, 1) := by decide +kernel
theorem dX7_feel_11 : decode cX7_feel 11 = .ok (.aload_n 0, 1) := by decide +kernel
theorem dX7_feel_12 : decode cX7_feel 12 = .ok (.getfield 19, 3) := by decide +kernel
theorem dX7_feel_15 : decode cX7_feel 15 = .ok (.iload_n 1, 1) := by decide +kernel
theorem dX7_feel_16 : decode cX7_feel 16 = .ok (.iaload, 1) := by decide +kernel
theorem dX7_feel_17 : decode cX7_feel 17 = .ok (.iconst 2, 1) := by decide +kernel
theorem dX7_feel_18 : decode cX7_feel 18 = .ok (.if_icmp .ne 7, 3) := by decide +kernel
theorem dX7_feel_21 : decode cX7_feel 21 = .ok (.iconst 5, 1) := by decide +kernel
theorem dX7_feel_22 : decode cX7_feel 22 = .ok (.goto 4, 3) := by decide +kernel
theorem dX7_feel_25 : decode cX7_feel 25 = .ok (.iconst 4, 1) := by decide +kernel
theorem dX7_feel_26 : decode cX7_feel 26 = .ok (.invokevirtual 201, 3) := by decide +kernel
theorem dX7_feel_29 : decode cX7_feel 29 = .ok (.aload_n 0, 1) := by decide +kernel
theorem dX7_feel_30 : decode cX7_feel 30 = .ok (.getfield 19, 3) := by decide +kernel
theorem dX7_feel_33 : decode cX7_feel 33 = .ok (.iload_n 1, 1) := by decide +kernel
theorem dX7_feel_34 : decode cX7_feel 34 = .ok (.iaload, 1) := by decide +kernel
theorem dX7_feel_35 : decode cX7_feel 35 = .ok (.iconst 2, 1) := by decide +kernel
theorem dX7_feel_36 : decode cX7_feel 36 = .ok (.if_icmp .ne 8, 3) := by decide +kernel
theorem dX7_feel_39 : decode cX7_feel 39 = .ok (.bipush 90, 2) := by decide +kernel
theorem dX7_feel_41 : decode cX7_feel 41 = .ok (.goto 9, 3) := by decide +kernel
theorem dX7_feel_44 : decode cX7_feel 44 = .ok (.aload_n 0, 1) := by decide +kernel
theorem dX7_feel_45 : decode cX7_feel 45 = .ok (.getfield 25, 3) := by decide +kernel
theorem dX7_feel_48 : decode cX7_feel 48 = .ok (.iload_n 1, 1) := by decide +kernel
theorem dX7_feel_49 : decode cX7_feel 49 = .ok (.iaload, 1) := by decide +kernel
theorem dX7_feel_50 : decode cX7_feel 50 = .ok (.ireturn, 1) := by decide +kernel
set_option maxRecDepth 20000 in
theorem ggX7_as_X7_isWire : GoodIn wsX7_as wsX7_isWire := goodIn_r _ [7, 8, 16, 17, 18, 19, 20, 21, 22, 23, 24, 25, 26, 27, 28, 29, 30, 31, 32, 33, 34, 35, 36, 37, 38] (by decide +kernel) (by decide +kernel)
set_option maxRecDepth 20000 in
theorem gX7_as_X7_isWire : GoodIn wsX7_as (wsV RX7 113 RX7 yX7_isWire wsX7_isWire) := goodIn_app (goodIn_of _ (by decide +kernel)) ggX7_as_X7_isWire
set_option maxRecDepth 20000 in
theorem ggX7_as_X7_within : GoodIn wsX7_as wsX7_within := goodIn_r _ [11] (by decide +kernel) (by decide +kernel)
set_option maxRecDepth 20000 in
theorem gX7_as_X7_within : GoodIn wsX7_as (va_wsS RX7 58 yX7_within wsX7_within) := goodIn_app (goodIn_of _ (by decide +kernel)) ggX7_as_X7_within
set_option maxRecDepth 20000 in
theorem ggX7_as_X7_fails : GoodIn wsX7_as wsX7_fails := goodIn_r _ [15, 1, 16, 17, 18, 19, 20, 21, 22, 23, 24, 25, 26, 27, 28, 29, 30, 31, 32, 33, 34, 35, 36, 37, 38] (by decide +kernel) (by decide +kernel)
set_option maxRecDepth 20000 in
theorem gX7_as_X7_fails : GoodIn wsX7_as (wsV RX7 79 RX7 yX7_fails wsX7_fails) := goodIn_app (goodIn_of _ (by decide +kernel)) ggX7_as_X7_fails
theorem dX7_as_0 : decode cX7_as 0 = .ok (.aload_n 0, 1) := by decide +kernel
theorem dX7_as_1 : decode cX7_as 1 = .ok (.iconst 0, 1) := by decide +kernel
theorem dX7_as_2 : decode cX7_as 2 = .ok (.putfield 52, 3) := by decide +kernel
theorem dX7_as_5 : decode cX7_as 5 = .ok (.aload_n 0, 1) := by decide +kernel
theorem dX7_as_6 : decode cX7_as 6 = .ok (.iload_n 1, 1) := by decide +kernel
theorem dX7_as_7 : decode cX7_as 7 = .ok (.invokevirtual 113, 3) := by decide +kernel
theorem dX7_as_10 : decode cX7_as 10 = .ok (.ifCond .ne 5, 3) := by decide +kernel
theorem dX7_as_13 : decode cX7_as 13 = .ok (.iconst (-1), 1) := by decide +kernel
theorem dX7_as_14 : decode cX7_as 14 = .ok (.ireturn, 1) := by decide +kernel
theorem dX7_as_15 : decode cX7_as 15 = .ok (.iload_n 2, 1) := by decide +kernel
theorem dX7_as_16 : decode cX7_as 16 = .ok (.iconst 0, 1) := by decide +kernel
theorem dX7_as_17 : decode cX7_as 17 = .ok (.iconst 2, 1) := by decide +kernel
theorem dX7_as_18 : decode cX7_as 18 = .ok (.invokestatic 58, 3) := by decide +kernel
theorem dX7_as_21 : decode cX7_as 21 = .ok (.ifCond .ne 6, 3) := by decide +kernel
theorem dX7_as_24 : decode cX7_as 24 = .ok (.bipush (-2), 2) := by decide +kernel
theorem dX7_as_26 : decode cX7_as 26 = .ok (.ireturn, 1) := by decide +kernel
theorem dX7_as_27 : decode cX7_as 27 = .ok (.aload_n 0, 1) := by decide +kernel
theorem dX7_as_28 : decode cX7_as 28 = .ok (.getfield 19, 3) := by decide +kernel
theorem dX7_as_31 : decode cX7_as 31 = .ok (.iload_n 1, 1) := by decide +kernel
theorem dX7_as_32 : decode cX7_as 32 = .ok (.iaload, 1) := by decide +kernel
theorem dX7_as_33 : decode cX7_as 33 = .ok (.iload_n 2, 1) := by decide +kernel
theorem dX7_as_34 : decode cX7_as 34 = .ok (.if_icmp .lt 7, 3) := by decide +kernel
theorem dX7_as_37 : decode cX7_as 37 = .ok (.iconst 1, 1) := by decide +kernel
theorem dX7_as_38 : decode cX7_as 38 = .ok (.goto 8, 3) := by decide +kernel
theorem dX7_as_41 : decode cX7_as 41 = .ok (.aload_n 0, 1) := by decide +kernel
theorem dX7_as_42 : decode cX7_as 42 = .ok (.iconst 2, 1) := by decide +kernel
theorem dX7_as_43 : decode cX7_as 43 = .ok (.invokevirtual 79, 3) := by decide +kernel
theorem dX7_as_46 : decode cX7_as 46 = .ok (.ireturn, 1) := by decide +kernel
theorem dX7_trace_0 : decode cX7_trace 0 = .ok (.aload_n 0, 1) := by decide +kernel
theorem dX7_trace_1 : decode cX7_trace 1 = .ok (.getfield 198, 3) := by decide +kernel
theorem dX7_trace_4 : decode cX7_trace 4 = .ok (.ireturn, 1) := by decide +kernel
theorem dX7_fault_0 : decode cX7_fault 0 = .ok (.aload_n 0, 1) := by decide +kernel
theorem dX7_fault_1 : decode cX7_fault 1 = .ok (.getfield 52, 3) := by decide +kernel
theorem dX7_fault_4 : decode cX7_fault 4 = .ok (.ireturn, 1) := by decide +kernel
theorem dX7_many_0 : decode cX7_many 0 = .ok (.iload_n 1, 1) := by decide +kernel
theorem dX7_many_1 : decode cX7_many 1 = .ok (.tableswitch 66 0 2 #[27, 32, 61], 27) := by decide +kernel
theorem dX7_many_28 : decode cX7_many 28 = .ok (.aload_n 0, 1) := by decide +kernel
theorem dX7_many_29 : decode cX7_many 29 = .ok (.getfield 62, 3) := by decide +kernel
theorem dX7_many_32 : decode cX7_many 32 = .ok (.ireturn, 1) := by decide +kernel
theorem dX7_many_33 : decode cX7_many 33 = .ok (.iconst 0, 1) := by decide +kernel
theorem dX7_many_34 : decode cX7_many 34 = .ok (.istore_n 2, 1) := by decide +kernel
theorem dX7_many_35 : decode cX7_many 35 = .ok (.iconst 0, 1) := by decide +kernel
theorem dX7_many_36 : decode cX7_many 36 = .ok (.istore_n 3, 1) := by decide +kernel
theorem dX7_many_37 : decode cX7_many 37 = .ok (.iload_n 3, 1) := by decide +kernel
theorem dX7_many_38 : decode cX7_many 38 = .ok (.aload_n 0, 1) := by decide +kernel
theorem dX7_many_39 : decode cX7_many 39 = .ok (.getfield 62, 3) := by decide +kernel
theorem dX7_many_42 : decode cX7_many 42 = .ok (.if_icmp .ge 18, 3) := by decide +kernel
theorem dX7_many_45 : decode cX7_many 45 = .ok (.iload_n 2, 1) := by decide +kernel
theorem dX7_many_46 : decode cX7_many 46 = .ok (.aload_n 0, 1) := by decide +kernel
theorem dX7_many_47 : decode cX7_many 47 = .ok (.getfield 22, 3) := by decide +kernel
theorem dX7_many_50 : decode cX7_many 50 = .ok (.iload_n 3, 1) := by decide +kernel
theorem dX7_many_51 : decode cX7_many 51 = .ok (.iaload, 1) := by decide +kernel
theorem dX7_many_52 : decode cX7_many 52 = .ok (.iadd, 1) := by decide +kernel
theorem dX7_many_53 : decode cX7_many 53 = .ok (.istore_n 2, 1) := by decide +kernel
theorem dX7_many_54 : decode cX7_many 54 = .ok (.iinc 3 1, 3) := by decide +kernel
theorem dX7_many_57 : decode cX7_many 57 = .ok (.goto (-20), 3) := by decide +kernel
theorem dX7_many_60 : decode cX7_many 60 = .ok (.iload_n 2, 1) := by decide +kernel
theorem dX7_many_61 : decode cX7_many 61 = .ok (.ireturn, 1) := by decide +kernel
theorem dX7_many_62 : decode cX7_many 62 = .ok (.aload_n 0, 1) := by decide +kernel
theorem dX7_many_63 : decode cX7_many 63 = .ok (.getfield 89, 3) := by decide +kernel
theorem dX7_many_66 : decode cX7_many 66 = .ok (.ireturn, 1) := by decide +kernel
theorem dX7_many_67 : decode cX7_many 67 = .ok (.bipush (-2), 2) := by decide +kernel
theorem dX7_many_69 : decode cX7_many 69 = .ok (.ireturn, 1) := by decide +kernel
