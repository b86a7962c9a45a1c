set_option maxRecDepth 20000 in
theorem ggL_isSound_X5_energy : GoodIn wsL_isSound wsX5_energy := goodIn_r _ [33, 6, 34, 35, 36, 13, 37, 15, 21, 4, 22, 38, 39, 40, 41, 20, 150, 151, 152, 153, 154, 155, 156, 157, 158, 159, 160, 161] (by decide +kernel) (by decide +kernel)
set_option maxRecDepth 20000 in
theorem gL_isSound_X5_energy : GoodIn wsL_isSound (wsV RL 18 RX5 yX5_energy wsX5_energy) := goodIn_app (goodIn_of _ (by decide +kernel)) ggL_isSound_X5_energy
set_option maxRecDepth 20000 in
theorem ggL_isSound_X5_load : GoodIn wsL_isSound wsX5_load := goodIn_r _ [45, 6, 34, 35, 36, 13, 37, 15, 21, 4, 22, 46, 47, 48, 49, 50, 51, 52, 53, 54, 55, 56, 57, 58, 59, 60, 61, 62, 63, 64, 65, 150, 151, 152, 153, 154, 155, 156, 157, 158, 159, 160, 161] (by decide +kernel) (by decide +kernel)
set_option maxRecDepth 20000 in
theorem gL_isSound_X5_load : GoodIn wsL_isSound (wsV RL 21 RX5 yX5_load wsX5_load) := goodIn_app (goodIn_of _ (by decide +kernel)) ggL_isSound_X5_load
set_option maxRecDepth 20000 in
theorem ggL_isSound_X5_wayLength : GoodIn wsL_isSound wsX5_wayLength := goodIn_r _ [69, 6, 70, 71, 72, 4, 73, 34, 35, 36, 13, 37, 15, 21, 22, 74, 55, 56, 75, 76, 77, 78, 61, 150, 151, 152, 153, 154, 155, 156, 157, 158, 159, 160, 161] (by decide +kernel) (by decide +kernel)
set_option maxRecDepth 20000 in
theorem gL_isSound_X5_wayLength : GoodIn wsL_isSound (wsV RL 24 RX5 yX5_wayLength wsX5_wayLength) := goodIn_app (goodIn_of _ (by decide +kernel)) ggL_isSound_X5_wayLength
set_option maxRecDepth 20000 in
theorem ggL_isSound_X5_wayNode : GoodIn wsL_isSound wsX5_wayNode := goodIn_r _ [82, 6, 70, 71, 72, 4, 73, 34, 35, 36, 13, 37, 15, 21, 22, 74, 55, 56, 75, 76, 77, 78, 61, 83, 84, 85, 86, 62, 150, 151, 152, 153, 154, 155, 156, 157, 158, 159, 160, 161] (by decide +kernel) (by decide +kernel)
set_option maxRecDepth 20000 in
theorem gL_isSound_X5_wayNode : GoodIn wsL_isSound (wsV RL 27 RX5 yX5_wayNode wsX5_wayNode) := goodIn_app (goodIn_of _ (by decide +kernel)) ggL_isSound_X5_wayNode
set_option maxRecDepth 20000 in
theorem ggL_isSound_L_linkOf : GoodIn wsL_isSound wsL_linkOf := goodIn_r _ [90, 1, 2, 3, 4, 5, 6, 7, 8, 9, 10, 11, 12, 13, 14, 15, 16, 17, 18, 19, 20, 21, 22, 23, 24, 25, 26, 27, 28, 29, 91, 92, 93, 94, 34, 35, 36, 37, 46, 47, 48, 49, 50, 150, 151, 152, 153, 154, 155, 156, 157, 158, 159, 160, 161] (by decide +kernel) (by decide +kernel)
set_option maxRecDepth 20000 in
theorem gL_isSound_L_linkOf : GoodIn wsL_isSound (va_wsS RL 31 yL_linkOf wsL_linkOf) := goodIn_app (goodIn_of _ (by decide +kernel)) ggL_isSound_L_linkOf
set_option maxRecDepth 20000 in
theorem ggL_isSound_X5_isWhole : GoodIn wsL_isSound wsX5_isWhole := goodIn_r _ [98, 99, 6, 70, 71, 72, 4, 73, 34, 35, 36, 13, 37, 15, 21, 22, 100, 101, 102, 103, 104, 105, 106, 107, 108, 109, 110, 111, 11, 12, 14, 16, 17, 18, 19, 20, 23, 24, 25, 26, 27, 28, 29, 112, 47, 48, 49, 50, 113, 114, 74, 55, 56, 115, 116, 117, 118, 119, 120, 76, 77, 78, 61, 121, 84, 85, 86, 62, 122, 123, 124, 125, 126, 127, 150, 151, 152, 153, 154, 155, 156, 157, 158, 159, 160, 161, 162, 163, 164, 165, 166] (by decide +kernel) (by decide +kernel)
set_option maxRecDepth 20000 in
theorem gL_isSound_X5_isWhole : GoodIn wsL_isSound (wsV RL 37 RX5 yX5_isWhole wsX5_isWhole) := goodIn_app (goodIn_of _ (by decide +kernel)) ggL_isSound_X5_isWhole
set_option maxRecDepth 20000 in
theorem ggL_isSound_X5_sensor : GoodIn wsL_isSound wsX5_sensor := goodIn_r _ [131, 6, 34, 35, 36, 13, 37, 15, 21, 4, 22, 7, 8, 9, 132, 133, 134, 135, 136, 150, 151, 152, 153, 154, 155, 156, 157, 158, 159, 160, 161] (by decide +kernel) (by decide +kernel)
set_option maxRecDepth 20000 in
theorem gL_isSound_X5_sensor : GoodIn wsL_isSound (wsV RL 40 RX5 yX5_sensor wsX5_sensor) := goodIn_app (goodIn_of _ (by decide +kernel)) ggL_isSound_X5_sensor
set_option maxRecDepth 20000 in
theorem ggL_isSound_X5_interest : GoodIn wsL_isSound wsX5_interest := goodIn_r _ [140, 6, 34, 35, 36, 13, 37, 15, 21, 4, 22, 7, 8, 9, 141, 142, 143, 144, 145, 146, 147, 148, 149, 61, 55, 56, 150, 151, 152, 153, 154, 155, 156, 157, 158, 159, 160, 161] (by decide +kernel) (by decide +kernel)
set_option maxRecDepth 20000 in
theorem gL_isSound_X5_interest : GoodIn wsL_isSound (wsV RL 43 RX5 yX5_interest wsX5_interest) := goodIn_app (goodIn_of _ (by decide +kernel)) ggL_isSound_X5_interest
theorem dL_isSound_0 : decode cL_isSound 0 = .ok (.iconst 0, 1) := by decide +kernel
theorem dL_isSound_1 : decode cL_isSound 1 = .ok (.istore_n 2, 1) := by decide +kernel
theorem dL_isSound_2 : decode cL_isSound 2 = .ok (.iconst 0, 1) := by decide +kernel
theorem dL_isSound_3 : decode cL_isSound 3 = .ok (.istore_n 3, 1) := by decide +kernel
theorem dL_isSound_4 : decode cL_isSound 4 = .ok (.iconst 0, 1) := by decide +kernel
theorem dL_isSound_5 : decode cL_isSound 5 = .ok (.istore 4, 2) := by decide +kernel
theorem dL_isSound_7 : decode cL_isSound 7 = .ok (.iload 4, 2) := by decide +kernel
theorem dL_isSound_9 : decode cL_isSound 9 = .ok (.aload_n 0, 1) := by decide +kernel
theorem dL_isSound_10 : decode cL_isSound 10 = .ok (.iconst 0, 1) := by decide +kernel
theorem dL_isSound_11 : decode cL_isSound 11 = .ok (.invokevirtual 8, 3) := by decide +kernel
theorem dL_isSound_14 : decode cL_isSound 14 = .ok (.if_icmp .ge 46, 3) := by decide +kernel
theorem dL_isSound_17 : decode cL_isSound 17 = .ok (.iload_n 2, 1) := by decide +kernel
theorem dL_isSound_18 : decode cL_isSound 18 = .ok (.aload_n 0, 1) := by decide +kernel
theorem dL_isSound_19 : decode cL_isSound 19 = .ok (.iload 4, 2) := by decide +kernel
theorem dL_isSound_21 : decode cL_isSound 21 = .ok (.invokevirtual 18, 3) := by decide +kernel
theorem dL_isSound_24 : decode cL_isSound 24 = .ok (.iadd, 1) := by decide +kernel
theorem dL_isSound_25 : decode cL_isSound 25 = .ok (.istore_n 2, 1) := by decide +kernel
theorem dL_isSound_26 : decode cL_isSound 26 = .ok (.iload_n 3, 1) := by decide +kernel
theorem dL_isSound_27 : decode cL_isSound 27 = .ok (.aload_n 0, 1) := by decide +kernel
theorem dL_isSound_28 : decode cL_isSound 28 = .ok (.iload 4, 2) := by decide +kernel
theorem dL_isSound_30 : decode cL_isSound 30 = .ok (.invokevirtual 18, 3) := by decide +kernel
theorem dL_isSound_33 : decode cL_isSound 33 = .ok (.ifCond .le 7, 3) := by decide +kernel
theorem dL_isSound_36 : decode cL_isSound 36 = .ok (.iconst 1, 1) := by decide +kernel
theorem dL_isSound_37 : decode cL_isSound 37 = .ok (.goto 4, 3) := by decide +kernel
theorem dL_isSound_40 : decode cL_isSound 40 = .ok (.iconst 0, 1) := by decide +kernel
theorem dL_isSound_41 : decode cL_isSound 41 = .ok (.iadd, 1) := by decide +kernel
theorem dL_isSound_42 : decode cL_isSound 42 = .ok (.istore_n 3, 1) := by decide +kernel
theorem dL_isSound_43 : decode cL_isSound 43 = .ok (.aload_n 0, 1) := by decide +kernel
theorem dL_isSound_44 : decode cL_isSound 44 = .ok (.iload 4, 2) := by decide +kernel
theorem dL_isSound_46 : decode cL_isSound 46 = .ok (.invokevirtual 18, 3) := by decide +kernel
theorem dL_isSound_49 : decode cL_isSound 49 = .ok (.ifCond .ge 5, 3) := by decide +kernel
theorem dL_isSound_52 : decode cL_isSound 52 = .ok (.iconst 0, 1) := by decide +kernel
theorem dL_isSound_53 : decode cL_isSound 53 = .ok (.ireturn, 1) := by decide +kernel
theorem dL_isSound_54 : decode cL_isSound 54 = .ok (.iinc 4 1, 3) := by decide +kernel
theorem dL_isSound_57 : decode cL_isSound 57 = .ok (.goto (-50), 3) := by decide +kernel
theorem dL_isSound_60 : decode cL_isSound 60 = .ok (.iload_n 2, 1) := by decide +kernel
theorem dL_isSound_61 : decode cL_isSound 61 = .ok (.aload_n 0, 1) := by decide +kernel
theorem dL_isSound_62 : decode cL_isSound 62 = .ok (.bipush 10, 2) := by decide +kernel
theorem dL_isSound_64 : decode cL_isSound 64 = .ok (.invokevirtual 8, 3) := by decide +kernel
theorem dL_isSound_67 : decode cL_isSound 67 = .ok (.iadd, 1) := by decide +kernel
theorem dL_isSound_68 : decode cL_isSound 68 = .ok (.aload_n 1, 1) := by decide +kernel
theorem dL_isSound_69 : decode cL_isSound 69 = .ok (.iconst 0, 1) := by decide +kernel
theorem dL_isSound_70 : decode cL_isSound 70 = .ok (.iaload, 1) := by decide +kernel
theorem dL_isSound_71 : decode cL_isSound 71 = .ok (.if_icmp .ne 13, 3) := by decide +kernel
theorem dL_isSound_74 : decode cL_isSound 74 = .ok (.iload_n 3, 1) := by decide +kernel
theorem dL_isSound_75 : decode cL_isSound 75 = .ok (.aload_n 0, 1) := by decide +kernel
theorem dL_isSound_76 : decode cL_isSound 76 = .ok (.bipush 6, 2) := by decide +kernel
theorem dL_isSound_78 : decode cL_isSound 78 = .ok (.invokevirtual 8, 3) := by decide +kernel
theorem dL_isSound_81 : decode cL_isSound 81 = .ok (.if_icmp .eq 5, 3) := by decide +kernel
theorem dL_isSound_84 : decode cL_isSound 84 = .ok (.iconst 0, 1) := by decide +kernel
theorem dL_isSound_85 : decode cL_isSound 85 = .ok (.ireturn, 1) := by decide +kernel
theorem dL_isSound_86 : decode cL_isSound 86 = .ok (.iconst 0, 1) := by decide +kernel
theorem dL_isSound_87 : decode cL_isSound 87 = .ok (.istore 4, 2) := by decide +kernel
theorem dL_isSound_89 : decode cL_isSound 89 = .ok (.iconst 0, 1) := by decide +kernel
theorem dL_isSound_90 : decode cL_isSound 90 = .ok (.istore 5, 2) := by decide +kernel
theorem dL_isSound_92 : decode cL_isSound 92 = .ok (.iload 5, 2) := by decide +kernel
theorem dL_isSound_94 : decode cL_isSound 94 = .ok (.aload_n 0, 1) := by decide +kernel
theorem dL_isSound_95 : decode cL_isSound 95 = .ok (.iconst 1, 1) := by decide +kernel
theorem dL_isSound_96 : decode cL_isSound 96 = .ok (.invokevirtual 8, 3) := by decide +kernel
theorem dL_isSound_99 : decode cL_isSound 99 = .ok (.if_icmp .ge 20, 3) := by decide +kernel
theorem dL_isSound_102 : decode cL_isSound 102 = .ok (.iload 4, 2) := by decide +kernel
theorem dL_isSound_104 : decode cL_isSound 104 = .ok (.aload_n 0, 1) := by decide +kernel
theorem dL_isSound_105 : decode cL_isSound 105 = .ok (.iload 5, 2) := by decide +kernel
theorem dL_isSound_107 : decode cL_isSound 107 = .ok (.invokevirtual 21, 3) := by decide +kernel
theorem dL_isSound_110 : decode cL_isSound 110 = .ok (.iadd, 1) := by decide +kernel
theorem dL_isSound_111 : decode cL_isSound 111 = .ok (.istore 4, 2) := by decide +kernel
theorem dL_isSound_113 : decode cL_isSound 113 = .ok (.iinc 5 1, 3) := by decide +kernel
theorem dL_isSound_116 : decode cL_isSound 116 = .ok (.goto (-24), 3) := by decide +kernel
theorem dL_isSound_119 : decode cL_isSound 119 = .ok (.iconst 0, 1) := by decide +kernel
theorem dL_isSound_120 : decode cL_isSound 120 = .ok (.istore 5, 2) := by decide +kernel
theorem dL_isSound_122 : decode cL_isSound 122 = .ok (.iconst 0, 1) := by decide +kernel
theorem dL_isSound_123 : decode cL_isSound 123 = .ok (.istore 6, 2) := by decide +kernel
theorem dL_isSound_125 : decode cL_isSound 125 = .ok (.iload 6, 2) := by decide +kernel
theorem dL_isSound_127 : decode cL_isSound 127 = .ok (.aload_n 0, 1) := by decide +kernel
theorem dL_isSound_128 : decode cL_isSound 128 = .ok (.iconst 3, 1) := by decide +kernel
theorem dL_isSound_129 : decode cL_isSound 129 = .ok (.invokevirtual 8, 3) := by decide +kernel
theorem dL_isSound_132 : decode cL_isSound 132 = .ok (.if_icmp .ge 332, 3) := by decide +kernel
theorem dL_isSound_135 : decode cL_isSound 135 = .ok (.iconst 0, 1) := by decide +kernel
theorem dL_isSound_136 : decode cL_isSound 136 = .ok (.istore 7, 2) := by decide +kernel
theorem dL_isSound_138 : decode cL_isSound 138 = .ok (.iconst 0, 1) := by decide +kernel
theorem dL_isSound_139 : decode cL_isSound 139 = .ok (.istore 8, 2) := by decide +kernel
theorem dL_isSound_141 : decode cL_isSound 141 = .ok (.iload 8, 2) := by decide +kernel
theorem dL_isSound_143 : decode cL_isSound 143 = .ok (.aload_n 0, 1) := by decide +kernel
theorem dL_isSound_144 : decode cL_isSound 144 = .ok (.iconst 2, 1) := by decide +kernel
theorem dL_isSound_145 : decode cL_isSound 145 = .ok (.invokevirtual 8, 3) := by decide +kernel
theorem dL_isSound_148 : decode cL_isSound 148 = .ok (.if_icmp .ge 274, 3) := by decide +kernel
theorem dL_isSound_151 : decode cL_isSound 151 = .ok (.aload_n 0, 1) := by decide +kernel
theorem dL_isSound_152 : decode cL_isSound 152 = .ok (.iload 6, 2) := by decide +kernel
theorem dL_isSound_154 : decode cL_isSound 154 = .ok (.iload 8, 2) := by decide +kernel
theorem dL_isSound_156 : decode cL_isSound 156 = .ok (.invokevirtual 24, 3) := by decide +kernel
theorem dL_isSound_159 : decode cL_isSound 159 = .ok (.istore 9, 2) := by decide +kernel
theorem dL_isSound_161 : decode cL_isSound 161 = .ok (.iconst 0, 1) := by decide +kernel
theorem dL_isSound_162 : decode cL_isSound 162 = .ok (.istore 10, 2) := by decide +kernel
theorem dL_isSound_164 : decode cL_isSound 164 = .ok (.iload 9, 2) := by decide +kernel
theorem dL_isSound_166 : decode cL_isSound 166 = .ok (.ifCond .le 7, 3) := by decide +kernel
theorem dL_isSound_169 : decode cL_isSound 169 = .ok (.iconst 1, 1) := by decide +kernel
theorem dL_isSound_170 : decode cL_isSound 170 = .ok (.goto 4, 3) := by decide +kernel
theorem dL_isSound_173 : decode cL_isSound 173 = .ok (.iconst 0, 1) := by decide +kernel
theorem dL_isSound_174 : decode cL_isSound 174 = .ok (.istore 11, 2) := by decide +kernel
theorem dL_isSound_176 : decode cL_isSound 176 = .ok (.iconst 0, 1) := by decide +kernel
theorem dL_isSound_177 : decode cL_isSound 177 = .ok (.istore 12, 2) := by decide +kernel
theorem dL_isSound_179 : decode cL_isSound 179 = .ok (.iload 12, 2) := by decide +kernel
theorem dL_isSound_181 : decode cL_isSound 181 = .ok (.iload 9, 2) := by decide +kernel
theorem dL_isSound_183 : decode cL_isSound 183 = .ok (.if_icmp .ge 133, 3) := by decide +kernel
theorem dL_isSound_186 : decode cL_isSound 186 = .ok (.aload_n 0, 1) := by decide +kernel
theorem dL_isSound_187 : decode cL_isSound 187 = .ok (.iload 6, 2) := by decide +kernel
theorem dL_isSound_189 : decode cL_isSound 189 = .ok (.iload 8, 2) := by decide +kernel
theorem dL_isSound_191 : decode cL_isSound 191 = .ok (.iload 12, 2) := by decide +kernel
theorem dL_isSound_193 : decode cL_isSound 193 = .ok (.invokevirtual 27, 3) := by decide +kernel
theorem dL_isSound_196 : decode cL_isSound 196 = .ok (.istore 13, 2) := by decide +kernel
theorem dL_isSound_198 : decode cL_isSound 198 = .ok (.iload 13, 2) := by decide +kernel
theorem dL_isSound_200 : decode cL_isSound 200 = .ok (.ifCond .lt 24, 3) := by decide +kernel
theorem dL_isSound_203 : decode cL_isSound 203 = .ok (.iload 13, 2) := by decide +kernel
theorem dL_isSound_205 : decode cL_isSound 205 = .ok (.aload_n 0, 1) := by decide +kernel
theorem dL_isSound_206 : decode cL_isSound 206 = .ok (.iconst 0, 1) := by decide +kernel
theorem dL_isSound_207 : decode cL_isSound 207 = .ok (.invokevirtual 8, 3) := by decide +kernel
theorem dL_isSound_210 : decode cL_isSound 210 = .ok (.if_icmp .ge 14, 3) := by decide +kernel
theorem dL_isSound_213 : decode cL_isSound 213 = .ok (.iload 10, 2) := by decide +kernel
theorem dL_isSound_215 : decode cL_isSound 215 = .ok (.iload 13, 2) := by decide +kernel
theorem dL_isSound_217 : decode cL_isSound 217 = .ok (.ishr, 1) := by decide +kernel
theorem dL_isSound_218 : decode cL_isSound 218 = .ok (.iconst 1, 1) := by decide +kernel
theorem dL_isSound_219 : decode cL_isSound 219 = .ok (.iand, 1) := by decide +kernel
theorem dL_isSound_220 : decode cL_isSound 220 = .ok (.iconst 1, 1) := by decide +kernel
theorem dL_isSound_221 : decode cL_isSound 221 = .ok (.if_icmp .ne 5, 3) := by decide +kernel
theorem dL_isSound_224 : decode cL_isSound 224 = .ok (.iconst 0, 1) := by decide +kernel
theorem dL_isSound_225 : decode cL_isSound 225 = .ok (.ireturn, 1) := by decide +kernel
theorem dL_isSound_226 : decode cL_isSound 226 = .ok (.iload 10, 2) := by decide +kernel
theorem dL_isSound_228 : decode cL_isSound 228 = .ok (.iconst 1, 1) := by decide +kernel
theorem dL_isSound_229 : decode cL_isSound 229 = .ok (.iload 13, 2) := by decide +kernel
theorem dL_isSound_231 : decode cL_isSound 231 = .ok (.ishl, 1) := by decide +kernel
theorem dL_isSound_232 : decode cL_isSound 232 = .ok (.ior, 1) := by decide +kernel
theorem dL_isSound_233 : decode cL_isSound 233 = .ok (.istore 10, 2) := by decide +kernel
theorem dL_isSound_235 : decode cL_isSound 235 = .ok (.iload 12, 2) := by decide +kernel
theorem dL_isSound_237 : decode cL_isSound 237 = .ok (.ifCond .ne 7, 3) := by decide +kernel
theorem dL_isSound_240 : decode cL_isSound 240 = .ok (.iconst 0, 1) := by decide +kernel
theorem dL_isSound_241 : decode cL_isSound 241 = .ok (.goto 21, 3) := by decide +kernel
theorem dL_isSound_244 : decode cL_isSound 244 = .ok (.aload_n 0, 1) := by decide +kernel
theorem dL_isSound_245 : decode cL_isSound 245 = .ok (.aload_n 0, 1) := by decide +kernel
theorem dL_isSound_246 : decode cL_isSound 246 = .ok (.iload 6, 2) := by decide +kernel
theorem dL_isSound_248 : decode cL_isSound 248 = .ok (.iload 8, 2) := by decide +kernel
theorem dL_isSound_250 : decode cL_isSound 250 = .ok (.iload 12, 2) := by decide +kernel
theorem dL_isSound_252 : decode cL_isSound 252 = .ok (.iconst 1, 1) := by decide +kernel
theorem dL_isSound_253 : decode cL_isSound 253 = .ok (.isub, 1) := by decide +kernel
theorem dL_isSound_254 : decode cL_isSound 254 = .ok (.invokevirtual 27, 3) := by decide +kernel
theorem dL_isSound_257 : decode cL_isSound 257 = .ok (.iload 13, 2) := by decide +kernel
theorem dL_isSound_259 : decode cL_isSound 259 = .ok (.invokestatic 31, 3) := by decide +kernel
theorem dL_isSound_262 : decode cL_isSound 262 = .ok (.istore 14, 2) := by decide +kernel
theorem dL_isSound_264 : decode cL_isSound 264 = .ok (.iload 5, 2) := by decide +kernel
theorem dL_isSound_266 : decode cL_isSound 266 = .ok (.iload 12, 2) := by decide +kernel
theorem dL_isSound_268 : decode cL_isSound 268 = .ok (.ifCond .le 12, 3) := by decide +kernel
theorem dL_isSound_271 : decode cL_isSound 271 = .ok (.iload 14, 2) := by decide +kernel
theorem dL_isSound_273 : decode cL_isSound 273 = .ok (.ifCond .lt 7, 3) := by decide +kernel
theorem dL_isSound_276 : decode cL_isSound 276 = .ok (.iconst 1, 1) := by decide +kernel
theorem dL_isSound_277 : decode cL_isSound 277 = .ok (.goto 4, 3) := by decide +kernel
theorem dL_isSound_280 : decode cL_isSound 280 = .ok (.iconst 0, 1) := by decide +kernel
theorem dL_isSound_281 : decode cL_isSound 281 = .ok (.iadd, 1) := by decide +kernel
theorem dL_isSound_282 : decode cL_isSound 282 = .ok (.istore 5, 2) := by decide +kernel
theorem dL_isSound_284 : decode cL_isSound 284 = .ok (.iload 11, 2) := by decide +kernel
theorem dL_isSound_286 : decode cL_isSound 286 = .ok (.ifCond .eq 21, 3) := by decide +kernel
theorem dL_isSound_289 : decode cL_isSound 289 = .ok (.aload_n 0, 1) := by decide +kernel
theorem dL_isSound_290 : decode cL_isSound 290 = .ok (.iload 13, 2) := by decide +kernel
theorem dL_isSound_292 : decode cL_isSound 292 = .ok (.invokevirtual 18, 3) := by decide +kernel
theorem dL_isSound_295 : decode cL_isSound 295 = .ok (.ifCond .le 12, 3) := by decide +kernel
theorem dL_isSound_298 : decode cL_isSound 298 = .ok (.iload 14, 2) := by decide +kernel
theorem dL_isSound_300 : decode cL_isSound 300 = .ok (.ifCond .lt 7, 3) := by decide +kernel
theorem dL_isSound_303 : decode cL_isSound 303 = .ok (.iconst 1, 1) := by decide +kernel
theorem dL_isSound_304 : decode cL_isSound 304 = .ok (.goto 4, 3) := by decide +kernel
theorem dL_isSound_307 : decode cL_isSound 307 = .ok (.iconst 0, 1) := by decide +kernel
theorem dL_isSound_308 : decode cL_isSound 308 = .ok (.istore 11, 2) := by decide +kernel
theorem dL_isSound_310 : decode cL_isSound 310 = .ok (.iinc 12 1, 3) := by decide +kernel
theorem dL_isSound_313 : decode cL_isSound 313 = .ok (.goto (-134), 3) := by decide +kernel
theorem dL_isSound_316 : decode cL_isSound 316 = .ok (.aload_n 0, 1) := by decide +kernel
theorem dL_isSound_317 : decode cL_isSound 317 = .ok (.iload 6, 2) := by decide +kernel
theorem dL_isSound_319 : decode cL_isSound 319 = .ok (.iload 8, 2) := by decide +kernel
theorem dL_isSound_321 : decode cL_isSound 321 = .ok (.iload 9, 2) := by decide +kernel
theorem dL_isSound_323 : decode cL_isSound 323 = .ok (.invokevirtual 27, 3) := by decide +kernel
theorem dL_isSound_326 : decode cL_isSound 326 = .ok (.sipush (-1000), 3) := by decide +kernel
theorem dL_isSound_329 : decode cL_isSound 329 = .ok (.if_icmp .ne 70, 3) := by decide +kernel
theorem dL_isSound_332 : decode cL_isSound 332 = .ok (.aload_n 0, 1) := by decide +kernel
theorem dL_isSound_333 : decode cL_isSound 333 = .ok (.iload 6, 2) := by decide +kernel
theorem dL_isSound_335 : decode cL_isSound 335 = .ok (.iload 8, 2) := by decide +kernel
theorem dL_isSound_337 : decode cL_isSound 337 = .ok (.invokevirtual 37, 3) := by decide +kernel
theorem dL_isSound_340 : decode cL_isSound 340 = .ok (.iload 11, 2) := by decide +kernel
theorem dL_isSound_342 : decode cL_isSound 342 = .ok (.ifCond .eq 7, 3) := by decide +kernel
theorem dL_isSound_345 : decode cL_isSound 345 = .ok (.iconst 1, 1) := by decide +kernel
theorem dL_isSound_346 : decode cL_isSound 346 = .ok (.goto 4, 3) := by decide +kernel
theorem dL_isSound_349 : decode cL_isSound 349 = .ok (.iconst 0, 1) := by decide +kernel
theorem dL_isSound_350 : decode cL_isSound 350 = .ok (.if_icmp .ne 49, 3) := by decide +kernel
theorem dL_isSound_353 : decode cL_isSound 353 = .ok (.iload 9, 2) := by decide +kernel
theorem dL_isSound_355 : decode cL_isSound 355 = .ok (.ifCond .le 46, 3) := by decide +kernel
theorem dL_isSound_358 : decode cL_isSound 358 = .ok (.aload_n 0, 1) := by decide +kernel
theorem dL_isSound_359 : decode cL_isSound 359 = .ok (.iload 6, 2) := by decide +kernel
theorem dL_isSound_361 : decode cL_isSound 361 = .ok (.iload 8, 2) := by decide +kernel
theorem dL_isSound_363 : decode cL_isSound 363 = .ok (.iconst 0, 1) := by decide +kernel
theorem dL_isSound_364 : decode cL_isSound 364 = .ok (.invokevirtual 27, 3) := by decide +kernel
theorem dL_isSound_367 : decode cL_isSound 367 = .ok (.aload_n 0, 1) := by decide +kernel
theorem dL_isSound_368 : decode cL_isSound 368 = .ok (.iload 8, 2) := by decide +kernel
theorem dL_isSound_370 : decode cL_isSound 370 = .ok (.iconst 0, 1) := by decide +kernel
theorem dL_isSound_371 : decode cL_isSound 371 = .ok (.invokevirtual 40, 3) := by decide +kernel
theorem dL_isSound_374 : decode cL_isSound 374 = .ok (.if_icmp .ne 25, 3) := by decide +kernel
theorem dL_isSound_377 : decode cL_isSound 377 = .ok (.aload_n 0, 1) := by decide +kernel
theorem dL_isSound_378 : decode cL_isSound 378 = .ok (.iload 6, 2) := by decide +kernel
theorem dL_isSound_380 : decode cL_isSound 380 = .ok (.iload 8, 2) := by decide +kernel
theorem dL_isSound_382 : decode cL_isSound 382 = .ok (.iload 9, 2) := by decide +kernel
theorem dL_isSound_384 : decode cL_isSound 384 = .ok (.iconst 1, 1) := by decide +kernel
theorem dL_isSound_385 : decode cL_isSound 385 = .ok (.isub, 1) := by decide +kernel
theorem dL_isSound_386 : decode cL_isSound 386 = .ok (.invokevirtual 27, 3) := by decide +kernel
theorem dL_isSound_389 : decode cL_isSound 389 = .ok (.aload_n 0, 1) := by decide +kernel
theorem dL_isSound_390 : decode cL_isSound 390 = .ok (.iload 6, 2) := by decide +kernel
theorem dL_isSound_392 : decode cL_isSound 392 = .ok (.iconst 0, 1) := by decide +kernel
theorem dL_isSound_393 : decode cL_isSound 393 = .ok (.invokevirtual 43, 3) := by decide +kernel
theorem dL_isSound_396 : decode cL_isSound 396 = .ok (.if_icmp .eq 5, 3) := by decide +kernel
theorem dL_isSound_399 : decode cL_isSound 399 = .ok (.iconst 0, 1) := by decide +kernel
theorem dL_isSound_400 : decode cL_isSound 400 = .ok (.ireturn, 1) := by decide +kernel
theorem dL_isSound_401 : decode cL_isSound 401 = .ok (.iload 7, 2) := by decide +kernel
theorem dL_isSound_403 : decode cL_isSound 403 = .ok (.iload 9, 2) := by decide +kernel
theorem dL_isSound_405 : decode cL_isSound 405 = .ok (.ifCond .le 7, 3) := by decide +kernel
theorem dL_isSound_408 : decode cL_isSound 408 = .ok (.iconst 1, 1) := by decide +kernel
theorem dL_isSound_409 : decode cL_isSound 409 = .ok (.goto 4, 3) := by decide +kernel
theorem dL_isSound_412 : decode cL_isSound 412 = .ok (.iconst 0, 1) := by decide +kernel
theorem dL_isSound_413 : decode cL_isSound 413 = .ok (.iadd, 1) := by decide +kernel
theorem dL_isSound_414 : decode cL_isSound 414 = .ok (.istore 7, 2) := by decide +kernel
theorem dL_isSound_416 : decode cL_isSound 416 = .ok (.iinc 8 1, 3) := by decide +kernel
theorem dL_isSound_419 : decode cL_isSound 419 = .ok (.goto (-278), 3) := by decide +kernel
theorem dL_isSound_422 : decode cL_isSound 422 = .ok (.aload_n 0, 1) := by decide +kernel
theorem dL_isSound_423 : decode cL_isSound 423 = .ok (.iload 6, 2) := by decide +kernel
theorem dL_isSound_425 : decode cL_isSound 425 = .ok (.bipush 7, 2) := by decide +kernel
theorem dL_isSound_427 : decode cL_isSound 427 = .ok (.invokevirtual 43, 3) := by decide +kernel
theorem dL_isSound_430 : decode cL_isSound 430 = .ok (.iload 7, 2) := by decide +kernel
theorem dL_isSound_432 : decode cL_isSound 432 = .ok (.if_icmp .ne 24, 3) := by decide +kernel
theorem dL_isSound_435 : decode cL_isSound 435 = .ok (.aload_n 0, 1) := by decide +kernel
theorem dL_isSound_436 : decode cL_isSound 436 = .ok (.iload 6, 2) := by decide +kernel
theorem dL_isSound_438 : decode cL_isSound 438 = .ok (.iconst 5, 1) := by decide +kernel
theorem dL_isSound_439 : decode cL_isSound 439 = .ok (.invokevirtual 43, 3) := by decide +kernel
theorem dL_isSound_442 : decode cL_isSound 442 = .ok (.ifCond .lt 14, 3) := by decide +kernel
theorem dL_isSound_445 : decode cL_isSound 445 = .ok (.aload_n 0, 1) := by decide +kernel
theorem dL_isSound_446 : decode cL_isSound 446 = .ok (.iload 6, 2) := by decide +kernel
theorem dL_isSound_448 : decode cL_isSound 448 = .ok (.bipush 6, 2) := by decide +kernel
theorem dL_isSound_450 : decode cL_isSound 450 = .ok (.invokevirtual 43, 3) := by decide +kernel
theorem dL_isSound_453 : decode cL_isSound 453 = .ok (.ifCond .ge 5, 3) := by decide +kernel
theorem dL_isSound_456 : decode cL_isSound 456 = .ok (.iconst 0, 1) := by decide +kernel
theorem dL_isSound_457 : decode cL_isSound 457 = .ok (.ireturn, 1) := by decide +kernel
theorem dL_isSound_458 : decode cL_isSound 458 = .ok (.iinc 6 1, 3) := by decide +kernel
theorem dL_isSound_461 : decode cL_isSound 461 = .ok (.goto (-336), 3) := by decide +kernel
theorem dL_isSound_464 : decode cL_isSound 464 = .ok (.iload 4, 2) := by decide +kernel
theorem dL_isSound_466 : decode cL_isSound 466 = .ok (.iload 5, 2) := by decide +kernel
theorem dL_isSound_468 : decode cL_isSound 468 = .ok (.if_icmp .ne 7, 3) := by decide +kernel
theorem dL_isSound_471 : decode cL_isSound 471 = .ok (.iconst 1, 1) := by decide +kernel
theorem dL_isSound_472 : decode cL_isSound 472 = .ok (.goto 4, 3) := by decide +kernel
theorem dL_isSound_475 : decode cL_isSound 475 = .ok (.iconst 0, 1) := by decide +kernel
theorem dL_isSound_476 : decode cL_isSound 476 = .ok (.ireturn, 1) := by decide +kernel
set_option maxRecDepth 20000 in
theorem ggL_areTimesSound_X5_count : GoodIn wsL_areTimesSound wsX5_count := goodIn_r _ [5, 6, 7, 8, 4, 9, 10, 11, 12, 13, 14, 15, 16, 17, 18, 19, 20, 21, 22, 23, 24, 25, 26, 27, 28, 29, 100, 101, 102, 103, 104, 105, 106, 107, 108, 109, 110, 111] (by decide +kernel) (by decide +kernel)
set_option maxRecDepth 20000 in
theorem gL_areTimesSound_X5_count : GoodIn wsL_areTimesSound (wsV RL 8 RX5 yX5_count wsX5_count) := goodIn_app (goodIn_of _ (by decide +kernel)) ggL_areTimesSound_X5_count
set_option maxRecDepth 20000 in
theorem ggL_areTimesSound_X5_quickest : GoodIn wsL_areTimesSound wsX5_quickest := goodIn_r _ [33, 6, 34, 35, 36, 37, 13, 38, 15, 21, 4, 22, 39, 17, 18, 19, 20, 40, 41, 42, 43, 44, 45, 46, 47, 48, 49, 50, 51, 52, 53, 54, 11, 12, 14, 16, 23, 24, 25, 26, 27, 28, 29, 55, 56, 57, 58, 59, 60, 61, 62, 63, 64, 65, 66, 67, 68, 69, 70, 71, 72, 73, 74, 75, 76, 77, 78, 79, 80, 81, 82, 83, 84, 85, 86, 100, 101, 102, 103, 104, 105, 106, 107, 108, 109, 110, 111, 112, 113, 114, 115, 116] (by decide +kernel) (by decide +kernel)
set_option maxRecDepth 20000 in
theorem gL_areTimesSound_X5_quickest : GoodIn wsL_areTimesSound (wsV RL 46 RX5 yX5_quickest wsX5_quickest) := goodIn_app (goodIn_of _ (by decide +kernel)) ggL_areTimesSound_X5_quickest
set_option maxRecDepth 20000 in
theorem ggL_areTimesSound_X5_energy : GoodIn wsL_areTimesSound wsX5_energy := goodIn_r _ [90, 6, 35, 36, 37, 13, 38, 15, 21, 4, 22, 91, 92, 93, 94, 20, 100, 101, 102, 103, 104, 105, 106, 107, 108, 109, 110, 111] (by decide +kernel) (by decide +kernel)
set_option maxRecDepth 20000 in
theorem gL_areTimesSound_X5_energy : GoodIn wsL_areTimesSound (wsV RL 18 RX5 yX5_energy wsX5_energy) := goodIn_app (goodIn_of _ (by decide +kernel)) ggL_areTimesSound_X5_energy
set_option maxRecDepth 20000 in
theorem ggL_areTimesSound_X5_linkPart : GoodIn wsL_areTimesSound wsX5_linkPart := goodIn_r _ [98, 6, 35, 36, 37, 13, 38, 15, 21, 4, 22, 7, 8, 9, 99, 56, 57, 58, 59, 100, 101, 102, 103, 104, 105, 106, 107, 108, 109, 110, 111] (by decide +kernel) (by decide +kernel)
set_option maxRecDepth 20000 in
theorem gL_areTimesSound_X5_linkPart : GoodIn wsL_areTimesSound (wsV RL 14 RX5 yX5_linkPart wsX5_linkPart) := goodIn_app (goodIn_of _ (by decide +kernel)) ggL_areTimesSound_X5_linkPart
theorem dL_areTimesSound_0 : decode cL_areTimesSound 0 = .ok (.iconst 0, 1) := by decide +kernel
theorem dL_areTimesSound_1 : decode cL_areTimesSound 1 = .ok (.istore_n 2, 1) := by decide +kernel
theorem dL_areTimesSound_2 : decode cL_areTimesSound 2 = .ok (.iload_n 2, 1) := by decide +kernel
theorem dL_areTimesSound_3 : decode cL_areTimesSound 3 = .ok (.aload_n 0, 1) := by decide +kernel
theorem dL_areTimesSound_4 : decode cL_areTimesSound 4 = .ok (.iconst 0, 1) := by decide +kernel
theorem dL_areTimesSound_5 : decode cL_areTimesSound 5 = .ok (.invokevirtual 8, 3) := by decide +kernel
theorem dL_areTimesSound_8 : decode cL_areTimesSound 8 = .ok (.if_icmp .ge 252, 3) := by decide +kernel
theorem dL_areTimesSound_11 : decode cL_areTimesSound 11 = .ok (.aload_n 0, 1) := by decide +kernel
theorem dL_areTimesSound_12 : decode cL_areTimesSound 12 = .ok (.iload_n 1, 1) := by decide +kernel
theorem dL_areTimesSound_13 : decode cL_areTimesSound 13 = .ok (.iload_n 2, 1) := by decide +kernel
theorem dL_areTimesSound_14 : decode cL_areTimesSound 14 = .ok (.invokevirtual 46, 3) := by decide +kernel
theorem dL_areTimesSound_17 : decode cL_areTimesSound 17 = .ok (.istore_n 3, 1) := by decide +kernel
theorem dL_areTimesSound_18 : decode cL_areTimesSound 18 = .ok (.iload_n 3, 1) := by decide +kernel
theorem dL_areTimesSound_19 : decode cL_areTimesSound 19 = .ok (.aload_n 0, 1) := by decide +kernel
theorem dL_areTimesSound_20 : decode cL_areTimesSound 20 = .ok (.iload_n 2, 1) := by decide +kernel
theorem dL_areTimesSound_21 : decode cL_areTimesSound 21 = .ok (.iload_n 1, 1) := by decide +kernel
theorem dL_areTimesSound_22 : decode cL_areTimesSound 22 = .ok (.invokevirtual 46, 3) := by decide +kernel
theorem dL_areTimesSound_25 : decode cL_areTimesSound 25 = .ok (.if_icmp .ne 50, 3) := by decide +kernel
theorem dL_areTimesSound_28 : decode cL_areTimesSound 28 = .ok (.iload_n 2, 1) := by decide +kernel
theorem dL_areTimesSound_29 : decode cL_areTimesSound 29 = .ok (.iload_n 1, 1) := by decide +kernel
theorem dL_areTimesSound_30 : decode cL_areTimesSound 30 = .ok (.if_icmp .ne 22, 3) := by decide +kernel
theorem dL_areTimesSound_33 : decode cL_areTimesSound 33 = .ok (.iload_n 3, 1) := by decide +kernel
theorem dL_areTimesSound_34 : decode cL_areTimesSound 34 = .ok (.aload_n 0, 1) := by decide +kernel
theorem dL_areTimesSound_35 : decode cL_areTimesSound 35 = .ok (.iload_n 2, 1) := by decide +kernel
theorem dL_areTimesSound_36 : decode cL_areTimesSound 36 = .ok (.invokevirtual 18, 3) := by decide +kernel
theorem dL_areTimesSound_39 : decode cL_areTimesSound 39 = .ok (.ifCond .le 7, 3) := by decide +kernel
theorem dL_areTimesSound_42 : decode cL_areTimesSound 42 = .ok (.iconst 0, 1) := by decide +kernel
theorem dL_areTimesSound_43 : decode cL_areTimesSound 43 = .ok (.goto 6, 3) := by decide +kernel
theorem dL_areTimesSound_46 : decode cL_areTimesSound 46 = .ok (.sipush (-1000), 3) := by decide +kernel
theorem dL_areTimesSound_49 : decode cL_areTimesSound 49 = .ok (.if_icmp .ne 26, 3) := by decide +kernel
theorem dL_areTimesSound_52 : decode cL_areTimesSound 52 = .ok (.iload_n 3, 1) := by decide +kernel
theorem dL_areTimesSound_53 : decode cL_areTimesSound 53 = .ok (.sipush (-1000), 3) := by decide +kernel
theorem dL_areTimesSound_56 : decode cL_areTimesSound 56 = .ok (.if_icmp .eq 21, 3) := by decide +kernel
theorem dL_areTimesSound_59 : decode cL_areTimesSound 59 = .ok (.aload_n 0, 1) := by decide +kernel
theorem dL_areTimesSound_60 : decode cL_areTimesSound 60 = .ok (.iload_n 2, 1) := by decide +kernel
theorem dL_areTimesSound_61 : decode cL_areTimesSound 61 = .ok (.invokevirtual 18, 3) := by decide +kernel
theorem dL_areTimesSound_64 : decode cL_areTimesSound 64 = .ok (.ifCond .eq 11, 3) := by decide +kernel
theorem dL_areTimesSound_67 : decode cL_areTimesSound 67 = .ok (.aload_n 0, 1) := by decide +kernel
theorem dL_areTimesSound_68 : decode cL_areTimesSound 68 = .ok (.iload_n 1, 1) := by decide +kernel
theorem dL_areTimesSound_69 : decode cL_areTimesSound 69 = .ok (.invokevirtual 18, 3) := by decide +kernel
theorem dL_areTimesSound_72 : decode cL_areTimesSound 72 = .ok (.ifCond .ne 5, 3) := by decide +kernel
theorem dL_areTimesSound_75 : decode cL_areTimesSound 75 = .ok (.iconst 0, 1) := by decide +kernel
theorem dL_areTimesSound_76 : decode cL_areTimesSound 76 = .ok (.ireturn, 1) := by decide +kernel
theorem dL_areTimesSound_77 : decode cL_areTimesSound 77 = .ok (.iload_n 2, 1) := by decide +kernel
theorem dL_areTimesSound_78 : decode cL_areTimesSound 78 = .ok (.iload_n 1, 1) := by decide +kernel
theorem dL_areTimesSound_79 : decode cL_areTimesSound 79 = .ok (.if_icmp .eq 10, 3) := by decide +kernel
theorem dL_areTimesSound_82 : decode cL_areTimesSound 82 = .ok (.iload_n 3, 1) := by decide +kernel
theorem dL_areTimesSound_83 : decode cL_areTimesSound 83 = .ok (.sipush (-1000), 3) := by decide +kernel
theorem dL_areTimesSound_86 : decode cL_areTimesSound 86 = .ok (.if_icmp .ne 7, 3) := by decide +kernel
theorem dL_areTimesSound_89 : decode cL_areTimesSound 89 = .ok (.iconst 1, 1) := by decide +kernel
theorem dL_areTimesSound_90 : decode cL_areTimesSound 90 = .ok (.goto 4, 3) := by decide +kernel
theorem dL_areTimesSound_93 : decode cL_areTimesSound 93 = .ok (.iconst 0, 1) := by decide +kernel
theorem dL_areTimesSound_94 : decode cL_areTimesSound 94 = .ok (.istore 4, 2) := by decide +kernel
theorem dL_areTimesSound_96 : decode cL_areTimesSound 96 = .ok (.iconst 0, 1) := by decide +kernel
theorem dL_areTimesSound_97 : decode cL_areTimesSound 97 = .ok (.istore 5, 2) := by decide +kernel
theorem dL_areTimesSound_99 : decode cL_areTimesSound 99 = .ok (.iload 5, 2) := by decide +kernel
theorem dL_areTimesSound_101 : decode cL_areTimesSound 101 = .ok (.aload_n 0, 1) := by decide +kernel
theorem dL_areTimesSound_102 : decode cL_areTimesSound 102 = .ok (.iconst 1, 1) := by decide +kernel
theorem dL_areTimesSound_103 : decode cL_areTimesSound 103 = .ok (.invokevirtual 8, 3) := by decide +kernel
theorem dL_areTimesSound_106 : decode cL_areTimesSound 106 = .ok (.if_icmp .ge 141, 3) := by decide +kernel
theorem dL_areTimesSound_109 : decode cL_areTimesSound 109 = .ok (.aload_n 0, 1) := by decide +kernel
theorem dL_areTimesSound_110 : decode cL_areTimesSound 110 = .ok (.iload 5, 2) := by decide +kernel
theorem dL_areTimesSound_112 : decode cL_areTimesSound 112 = .ok (.iconst 0, 1) := by decide +kernel
theorem dL_areTimesSound_113 : decode cL_areTimesSound 113 = .ok (.invokevirtual 14, 3) := by decide +kernel
theorem dL_areTimesSound_116 : decode cL_areTimesSound 116 = .ok (.iload_n 2, 1) := by decide +kernel
theorem dL_areTimesSound_117 : decode cL_areTimesSound 117 = .ok (.if_icmp .ne 13, 3) := by decide +kernel
theorem dL_areTimesSound_120 : decode cL_areTimesSound 120 = .ok (.aload_n 0, 1) := by decide +kernel
theorem dL_areTimesSound_121 : decode cL_areTimesSound 121 = .ok (.iload 5, 2) := by decide +kernel
theorem dL_areTimesSound_123 : decode cL_areTimesSound 123 = .ok (.iconst 1, 1) := by decide +kernel
theorem dL_areTimesSound_124 : decode cL_areTimesSound 124 = .ok (.invokevirtual 14, 3) := by decide +kernel
theorem dL_areTimesSound_127 : decode cL_areTimesSound 127 = .ok (.goto 25, 3) := by decide +kernel
theorem dL_areTimesSound_130 : decode cL_areTimesSound 130 = .ok (.aload_n 0, 1) := by decide +kernel
theorem dL_areTimesSound_131 : decode cL_areTimesSound 131 = .ok (.iload 5, 2) := by decide +kernel
theorem dL_areTimesSound_133 : decode cL_areTimesSound 133 = .ok (.iconst 1, 1) := by decide +kernel
theorem dL_areTimesSound_134 : decode cL_areTimesSound 134 = .ok (.invokevirtual 14, 3) := by decide +kernel
theorem dL_areTimesSound_137 : decode cL_areTimesSound 137 = .ok (.iload_n 2, 1) := by decide +kernel
theorem dL_areTimesSound_138 : decode cL_areTimesSound 138 = .ok (.if_icmp .ne 13, 3) := by decide +kernel
theorem dL_areTimesSound_141 : decode cL_areTimesSound 141 = .ok (.aload_n 0, 1) := by decide +kernel
theorem dL_areTimesSound_142 : decode cL_areTimesSound 142 = .ok (.iload 5, 2) := by decide +kernel
theorem dL_areTimesSound_144 : decode cL_areTimesSound 144 = .ok (.iconst 0, 1) := by decide +kernel
theorem dL_areTimesSound_145 : decode cL_areTimesSound 145 = .ok (.invokevirtual 14, 3) := by decide +kernel
theorem dL_areTimesSound_148 : decode cL_areTimesSound 148 = .ok (.goto 4, 3) := by decide +kernel
theorem dL_areTimesSound_151 : decode cL_areTimesSound 151 = .ok (.iconst (-1), 1) := by decide +kernel
theorem dL_areTimesSound_152 : decode cL_areTimesSound 152 = .ok (.istore 6, 2) := by decide +kernel
theorem dL_areTimesSound_154 : decode cL_areTimesSound 154 = .ok (.iload 6, 2) := by decide +kernel
theorem dL_areTimesSound_156 : decode cL_areTimesSound 156 = .ok (.ifCond .lt 85, 3) := by decide +kernel
theorem dL_areTimesSound_159 : decode cL_areTimesSound 159 = .ok (.aload_n 0, 1) := by decide +kernel
theorem dL_areTimesSound_160 : decode cL_areTimesSound 160 = .ok (.iload_n 1, 1) := by decide +kernel
theorem dL_areTimesSound_161 : decode cL_areTimesSound 161 = .ok (.iload 6, 2) := by decide +kernel
theorem dL_areTimesSound_163 : decode cL_areTimesSound 163 = .ok (.invokevirtual 46, 3) := by decide +kernel
theorem dL_areTimesSound_166 : decode cL_areTimesSound 166 = .ok (.istore 7, 2) := by decide +kernel
theorem dL_areTimesSound_168 : decode cL_areTimesSound 168 = .ok (.iload 7, 2) := by decide +kernel
theorem dL_areTimesSound_170 : decode cL_areTimesSound 170 = .ok (.sipush (-1000), 3) := by decide +kernel
theorem dL_areTimesSound_173 : decode cL_areTimesSound 173 = .ok (.if_icmp .eq 34, 3) := by decide +kernel
theorem dL_areTimesSound_176 : decode cL_areTimesSound 176 = .ok (.aload_n 0, 1) := by decide +kernel
theorem dL_areTimesSound_177 : decode cL_areTimesSound 177 = .ok (.iload_n 2, 1) := by decide +kernel
theorem dL_areTimesSound_178 : decode cL_areTimesSound 178 = .ok (.invokevirtual 18, 3) := by decide +kernel
theorem dL_areTimesSound_181 : decode cL_areTimesSound 181 = .ok (.ifCond .le 26, 3) := by decide +kernel
theorem dL_areTimesSound_184 : decode cL_areTimesSound 184 = .ok (.iload_n 3, 1) := by decide +kernel
theorem dL_areTimesSound_185 : decode cL_areTimesSound 185 = .ok (.sipush (-1000), 3) := by decide +kernel
theorem dL_areTimesSound_188 : decode cL_areTimesSound 188 = .ok (.if_icmp .eq 17, 3) := by decide +kernel
theorem dL_areTimesSound_191 : decode cL_areTimesSound 191 = .ok (.iload_n 3, 1) := by decide +kernel
theorem dL_areTimesSound_192 : decode cL_areTimesSound 192 = .ok (.iload 7, 2) := by decide +kernel
theorem dL_areTimesSound_194 : decode cL_areTimesSound 194 = .ok (.aload_n 0, 1) := by decide +kernel
theorem dL_areTimesSound_195 : decode cL_areTimesSound 195 = .ok (.iload 5, 2) := by decide +kernel
theorem dL_areTimesSound_197 : decode cL_areTimesSound 197 = .ok (.iconst 2, 1) := by decide +kernel
theorem dL_areTimesSound_198 : decode cL_areTimesSound 198 = .ok (.invokevirtual 14, 3) := by decide +kernel
theorem dL_areTimesSound_201 : decode cL_areTimesSound 201 = .ok (.iadd, 1) := by decide +kernel
theorem dL_areTimesSound_202 : decode cL_areTimesSound 202 = .ok (.if_icmp .le 5, 3) := by decide +kernel
theorem dL_areTimesSound_205 : decode cL_areTimesSound 205 = .ok (.iconst 0, 1) := by decide +kernel
theorem dL_areTimesSound_206 : decode cL_areTimesSound 206 = .ok (.ireturn, 1) := by decide +kernel
theorem dL_areTimesSound_207 : decode cL_areTimesSound 207 = .ok (.iload 4, 2) := by decide +kernel
theorem dL_areTimesSound_209 : decode cL_areTimesSound 209 = .ok (.ifCond .ne 25, 3) := by decide +kernel
theorem dL_areTimesSound_212 : decode cL_areTimesSound 212 = .ok (.iload 7, 2) := by decide +kernel
theorem dL_areTimesSound_214 : decode cL_areTimesSound 214 = .ok (.sipush (-1000), 3) := by decide +kernel
theorem dL_areTimesSound_217 : decode cL_areTimesSound 217 = .ok (.if_icmp .eq 21, 3) := by decide +kernel
theorem dL_areTimesSound_220 : decode cL_areTimesSound 220 = .ok (.iload 7, 2) := by decide +kernel
theorem dL_areTimesSound_222 : decode cL_areTimesSound 222 = .ok (.aload_n 0, 1) := by decide +kernel
theorem dL_areTimesSound_223 : decode cL_areTimesSound 223 = .ok (.iload 5, 2) := by decide +kernel
theorem dL_areTimesSound_225 : decode cL_areTimesSound 225 = .ok (.iconst 2, 1) := by decide +kernel
theorem dL_areTimesSound_226 : decode cL_areTimesSound 226 = .ok (.invokevirtual 14, 3) := by decide +kernel
theorem dL_areTimesSound_229 : decode cL_areTimesSound 229 = .ok (.iadd, 1) := by decide +kernel
theorem dL_areTimesSound_230 : decode cL_areTimesSound 230 = .ok (.iload_n 3, 1) := by decide +kernel
theorem dL_areTimesSound_231 : decode cL_areTimesSound 231 = .ok (.if_icmp .ne 7, 3) := by decide +kernel
theorem dL_areTimesSound_234 : decode cL_areTimesSound 234 = .ok (.iconst 1, 1) := by decide +kernel
theorem dL_areTimesSound_235 : decode cL_areTimesSound 235 = .ok (.goto 4, 3) := by decide +kernel
theorem dL_areTimesSound_238 : decode cL_areTimesSound 238 = .ok (.iconst 0, 1) := by decide +kernel
theorem dL_areTimesSound_239 : decode cL_areTimesSound 239 = .ok (.istore 4, 2) := by decide +kernel
theorem dL_areTimesSound_241 : decode cL_areTimesSound 241 = .ok (.iinc 5 1, 3) := by decide +kernel
theorem dL_areTimesSound_244 : decode cL_areTimesSound 244 = .ok (.goto (-145), 3) := by decide +kernel
theorem dL_areTimesSound_247 : decode cL_areTimesSound 247 = .ok (.iload 4, 2) := by decide +kernel
theorem dL_areTimesSound_249 : decode cL_areTimesSound 249 = .ok (.ifCond .ne 5, 3) := by decide +kernel
theorem dL_areTimesSound_252 : decode cL_areTimesSound 252 = .ok (.iconst 0, 1) := by decide +kernel
theorem dL_areTimesSound_253 : decode cL_areTimesSound 253 = .ok (.ireturn, 1) := by decide +kernel
theorem dL_areTimesSound_254 : decode cL_areTimesSound 254 = .ok (.iinc 2 1, 3) := by decide +kernel
theorem dL_areTimesSound_257 : decode cL_areTimesSound 257 = .ok (.goto (-255), 3) := by decide +kernel
theorem dL_areTimesSound_260 : decode cL_areTimesSound 260 = .ok (.iconst 1, 1) := by decide +kernel
theorem dL_areTimesSound_261 : decode cL_areTimesSound 261 = .ok (.ireturn, 1) := by decide +kernel
set_option maxRecDepth 20000 in
theorem ggL_isForetold_X5_digest : GoodIn wsL_isForetold wsX5_digest := goodIn_r _ [5, 6, 7, 8, 9, 10, 11, 12, 13, 14, 15, 16, 17, 18, 19, 20, 21, 22, 23, 24, 25, 26, 27, 4, 28, 29, 30, 31, 32, 33, 34, 35, 36, 37, 38, 39, 40, 41, 42, 43, 44, 45, 46, 47, 48, 49, 50, 51, 52, 53, 54, 55, 280, 281, 282, 283, 284, 285, 286, 287, 288, 289, 290, 291] (by decide +kernel) (by decide +kernel)
set_option maxRecDepth 20000 in
theorem gL_isForetold_X5_digest : GoodIn wsL_isForetold (wsV RL 49 RX5 yX5_digest wsX5_digest) := goodIn_app (goodIn_of _ (by decide +kernel)) ggL_isForetold_X5_digest
set_option maxRecDepth 20000 in
theorem ggL_isForetold_X5_count : GoodIn wsL_isForetold wsX5_count := goodIn_r _ [59, 6, 60, 61, 4, 62, 63, 20, 21, 10, 22, 15, 23, 24, 25, 26, 14, 27, 28, 29, 30, 31, 32, 33, 34, 35, 280, 281, 282, 283, 284, 285, 286, 287, 288, 289, 290, 291] (by decide +kernel) (by decide +kernel)
set_option maxRecDepth 20000 in
theorem gL_isForetold_X5_count : GoodIn wsL_isForetold (wsV RL 8 RX5 yX5_count wsX5_count) := goodIn_app (goodIn_of _ (by decide +kernel)) ggL_isForetold_X5_count
set_option maxRecDepth 20000 in
theorem ggL_isForetold_X5_willDeliver : GoodIn wsL_isForetold wsX5_willDeliver := goodIn_r _ [67, 68, 6, 60, 61, 4, 62, 69, 70, 71, 72, 73, 74, 75, 76, 77, 78, 10, 79, 15, 14, 16, 17, 18, 44, 51, 80, 81, 82, 83, 84, 85, 86, 87, 88, 89, 90, 91, 92, 93, 94, 95, 96, 97, 98, 99, 100, 101, 20, 21, 22, 23, 24, 25, 26, 27, 28, 29, 30, 31, 32, 33, 34, 35, 102, 103, 104, 105, 106, 107, 108, 109, 110, 111, 112, 113, 114, 115, 116, 117, 118, 119, 120, 40, 41, 42, 43, 45, 46, 121, 122, 123, 124, 125, 126, 39, 127, 128, 129, 130, 131, 132, 133, 134, 135, 136, 137, 138, 139, 140, 141, 142, 143, 144, 145, 146, 147, 148, 149, 150, 151, 152, 153, 154, 155, 156, 157, 158, 159, 160, 161, 53, 54, 55, 162, 163, 164, 165, 166, 167, 168, 169, 170, 171, 172, 173, 174, 175, 176, 177, 178, 179, 180, 181, 182, 183, 184, 185, 186, 187, 188, 189, 190, 191, 192, 193, 194, 195, 196, 197, 198, 199, 200, 201, 202, 203, 204, 205, 206, 207, 208, 209, 210, 211, 212, 213, 214, 215, 216, 217, 218, 219, 220, 221, 222, 223, 224, 225, 226, 227, 228, 229, 230, 231, 232, 233, 234, 235, 236, 237, 238, 239, 240, 241, 242, 243, 244, 245, 246, 247, 280, 281, 282, 283, 284, 292, 293, 294, 295, 285, 286, 287, 288, 289, 290, 291, 296, 297, 298, 299, 300] (by decide +kernel) (by decide +kernel)
set_option maxRecDepth 20000 in
theorem gL_isForetold_X5_willDeliver : GoodIn wsL_isForetold (wsV RL 53 RX5 yX5_willDeliver wsX5_willDeliver) := goodIn_app (goodIn_of _ (by decide +kernel)) ggL_isForetold_X5_willDeliver
set_option maxRecDepth 20000 in
theorem ggL_isForetold_X5_firstDeath : GoodIn wsL_isForetold wsX5_firstDeath := goodIn_r _ [251, 6, 68, 63, 20, 21, 10, 22, 15, 23, 24, 25, 26, 14, 27, 4, 28, 29, 30, 31, 32, 33, 34, 35, 69, 70, 71, 72, 73, 74, 75, 76, 77, 78, 79, 16, 17, 18, 44, 51, 80, 81, 82, 83, 84, 85, 86, 87, 88, 89, 90, 91, 92, 93, 94, 95, 96, 97, 98, 99, 100, 101, 102, 103, 104, 105, 106, 107, 108, 109, 110, 111, 112, 113, 114, 115, 116, 117, 118, 119, 120, 40, 41, 42, 43, 45, 46, 121, 122, 123, 124, 125, 126, 39, 127, 128, 129, 130, 131, 132, 133, 134, 135, 136, 137, 138, 139, 140, 141, 142, 143, 144, 145, 146, 61, 62, 147, 148, 149, 150, 151, 152, 153, 154, 155, 156, 157, 158, 159, 160, 161, 53, 54, 55, 162, 163, 164, 165, 166, 167, 168, 169, 170, 171, 172, 173, 174, 175, 176, 177, 178, 179, 180, 181, 182, 183, 184, 185, 186, 187, 188, 189, 190, 191, 192, 193, 194, 195, 196, 197, 198, 199, 200, 201, 202, 203, 204, 205, 206, 207, 208, 209, 210, 211, 212, 213, 214, 215, 216, 217, 218, 219, 220, 221, 222, 223, 224, 225, 226, 227, 228, 229, 230, 231, 232, 233, 234, 235, 236, 237, 238, 239, 240, 241, 242, 243, 244, 245, 246, 247, 280, 281, 282, 283, 284, 292, 293, 294, 295, 285, 286, 287, 288, 289, 290, 291, 296, 297, 298, 299, 300] (by decide +kernel) (by decide +kernel)
set_option maxRecDepth 20000 in
theorem gL_isForetold_X5_firstDeath : GoodIn wsL_isForetold (wsV RL 56 RX5 yX5_firstDeath wsX5_firstDeath) := goodIn_app (goodIn_of _ (by decide +kernel)) ggL_isForetold_X5_firstDeath
set_option maxRecDepth 20000 in
theorem ggL_isForetold_X5_rounds : GoodIn wsL_isForetold wsX5_rounds := goodIn_r _ [255, 6, 256, 257, 68, 60, 61, 4, 62, 63, 20, 21, 10, 22, 15, 23, 24, 25, 26, 14, 27, 28, 29, 30, 31, 32, 33, 34, 35, 258, 259, 260, 261, 262, 263, 264, 265, 266, 267, 268, 269, 270, 77, 78, 79, 16, 17, 18, 44, 51, 80, 81, 82, 83, 84, 85, 86, 87, 88, 89, 69, 70, 71, 72, 73, 74, 75, 76, 90, 91, 92, 93, 94, 95, 96, 97, 98, 99, 100, 101, 102, 103, 104, 105, 106, 107, 108, 109, 110, 111, 112, 113, 114, 115, 116, 117, 118, 119, 120, 40, 41, 42, 43, 45, 46, 121, 122, 123, 124, 125, 126, 39, 127, 128, 129, 130, 131, 132, 133, 134, 135, 136, 137, 138, 139, 140, 141, 142, 143, 144, 145, 146, 147, 148, 149, 150, 151, 152, 153, 154, 155, 156, 157, 158, 159, 160, 161, 53, 54, 55, 162, 163, 164, 165, 166, 167, 168, 169, 170, 171, 172, 173, 174, 175, 176, 177, 178, 179, 180, 181, 182, 183, 184, 185, 186, 187, 188, 189, 190, 191, 192, 193, 194, 195, 196, 197, 198, 199, 200, 201, 202, 203, 204, 205, 206, 207, 208, 209, 210, 211, 212, 213, 214, 215, 216, 217, 218, 219, 220, 221, 222, 223, 224, 225, 226, 227, 228, 229, 230, 231, 232, 233, 234, 235, 236, 237, 238, 239, 240, 241, 242, 243, 244, 245, 246, 247, 271, 280, 281, 282, 283, 284, 292, 293, 294, 295, 285, 286, 287, 288, 289, 290, 291, 301, 302, 303, 296, 297, 298, 299, 300] (by decide +kernel) (by decide +kernel)
set_option maxRecDepth 20000 in
theorem gL_isForetold_X5_rounds : GoodIn wsL_isForetold (wsV RL 60 RX5 yX5_rounds wsX5_rounds) := goodIn_app (goodIn_of _ (by decide +kernel)) ggL_isForetold_X5_rounds
set_option maxRecDepth 20000 in
theorem ggL_isForetold_X5_undo : GoodIn wsL_isForetold wsX5_undo := goodIn_r _ [275, 257, 6, 276, 277, 278, 261, 279, 263, 265, 266, 267, 268, 264, 269, 270, 77, 78, 10, 79, 15, 14, 16, 17, 18, 44, 51, 80, 4, 81, 82, 83, 84, 85, 86, 87, 88, 89, 280, 281, 282, 283, 284, 301, 302, 303, 285, 286, 287, 288, 289, 290, 291] (by decide +kernel) (by decide +kernel)
set_option maxRecDepth 20000 in
theorem gL_isForetold_X5_undo : GoodIn wsL_isForetold (wsV RL 63 RX5 yX5_undo wsX5_undo) := goodIn_app (goodIn_of _ (by decide +kernel)) ggL_isForetold_X5_undo
theorem dL_isForetold_0 : decode cL_isForetold 0 = .ok (.aload_n 0, 1) := by decide +kernel
theorem dL_isForetold_1 : decode cL_isForetold 1 = .ok (.invokevirtual 49, 3) := by decide +kernel
theorem dL_isForetold_4 : decode cL_isForetold 4 = .ok (.lstore_n 2, 1) := by decide +kernel
theorem dL_isForetold_5 : decode cL_isForetold 5 = .ok (.aload_n 0, 1) := by decide +kernel
theorem dL_isForetold_6 : decode cL_isForetold 6 = .ok (.bipush 6, 2) := by decide +kernel
theorem dL_isForetold_8 : decode cL_isForetold 8 = .ok (.invokevirtual 8, 3) := by decide +kernel
theorem dL_isForetold_11 : decode cL_isForetold 11 = .ok (.istore 4, 2) := by decide +kernel
theorem dL_isForetold_13 : decode cL_isForetold 13 = .ok (.aload_n 0, 1) := by decide +kernel
theorem dL_isForetold_14 : decode cL_isForetold 14 = .ok (.iload_n 1, 1) := by decide +kernel
theorem dL_isForetold_15 : decode cL_isForetold 15 = .ok (.invokevirtual 53, 3) := by decide +kernel
theorem dL_isForetold_18 : decode cL_isForetold 18 = .ok (.istore 5, 2) := by decide +kernel
theorem dL_isForetold_20 : decode cL_isForetold 20 = .ok (.aload_n 0, 1) := by decide +kernel
theorem dL_isForetold_21 : decode cL_isForetold 21 = .ok (.invokevirtual 56, 3) := by decide +kernel
theorem dL_isForetold_24 : decode cL_isForetold 24 = .ok (.istore 6, 2) := by decide +kernel
theorem dL_isForetold_26 : decode cL_isForetold 26 = .ok (.aload_n 0, 1) := by decide +kernel
theorem dL_isForetold_27 : decode cL_isForetold 27 = .ok (.bipush 10, 2) := by decide +kernel
theorem dL_isForetold_29 : decode cL_isForetold 29 = .ok (.invokevirtual 8, 3) := by decide +kernel
theorem dL_isForetold_32 : decode cL_isForetold 32 = .ok (.istore 7, 2) := by decide +kernel
theorem dL_isForetold_34 : decode cL_isForetold 34 = .ok (.aload_n 0, 1) := by decide +kernel
theorem dL_isForetold_35 : decode cL_isForetold 35 = .ok (.iconst 3, 1) := by decide +kernel
theorem dL_isForetold_36 : decode cL_isForetold 36 = .ok (.invokevirtual 8, 3) := by decide +kernel
theorem dL_isForetold_39 : decode cL_isForetold 39 = .ok (.istore 8, 2) := by decide +kernel
theorem dL_isForetold_41 : decode cL_isForetold 41 = .ok (.aload_n 0, 1) := by decide +kernel
theorem dL_isForetold_42 : decode cL_isForetold 42 = .ok (.iload_n 1, 1) := by decide +kernel
theorem dL_isForetold_43 : decode cL_isForetold 43 = .ok (.invokevirtual 60, 3) := by decide +kernel
theorem dL_isForetold_46 : decode cL_isForetold 46 = .ok (.iload 5, 2) := by decide +kernel
theorem dL_isForetold_48 : decode cL_isForetold 48 = .ok (.if_icmp .ne 28, 3) := by decide +kernel
theorem dL_isForetold_51 : decode cL_isForetold 51 = .ok (.aload_n 0, 1) := by decide +kernel
theorem dL_isForetold_52 : decode cL_isForetold 52 = .ok (.iconst 5, 1) := by decide +kernel
theorem dL_isForetold_53 : decode cL_isForetold 53 = .ok (.invokevirtual 8, 3) := by decide +kernel
theorem dL_isForetold_56 : decode cL_isForetold 56 = .ok (.iload_n 1, 1) := by decide +kernel
theorem dL_isForetold_57 : decode cL_isForetold 57 = .ok (.if_icmp .lt 19, 3) := by decide +kernel
theorem dL_isForetold_60 : decode cL_isForetold 60 = .ok (.iload 8, 2) := by decide +kernel
theorem dL_isForetold_62 : decode cL_isForetold 62 = .ok (.ifCond .ne 16, 3) := by decide +kernel
theorem dL_isForetold_65 : decode cL_isForetold 65 = .ok (.aload_n 0, 1) := by decide +kernel
theorem dL_isForetold_66 : decode cL_isForetold 66 = .ok (.bipush 10, 2) := by decide +kernel
theorem dL_isForetold_68 : decode cL_isForetold 68 = .ok (.invokevirtual 8, 3) := by decide +kernel
theorem dL_isForetold_71 : decode cL_isForetold 71 = .ok (.iload 7, 2) := by decide +kernel
theorem dL_isForetold_73 : decode cL_isForetold 73 = .ok (.if_icmp .eq 5, 3) := by decide +kernel
theorem dL_isForetold_76 : decode cL_isForetold 76 = .ok (.iconst 0, 1) := by decide +kernel
theorem dL_isForetold_77 : decode cL_isForetold 77 = .ok (.ireturn, 1) := by decide +kernel
theorem dL_isForetold_78 : decode cL_isForetold 78 = .ok (.aload_n 0, 1) := by decide +kernel
theorem dL_isForetold_79 : decode cL_isForetold 79 = .ok (.bipush 6, 2) := by decide +kernel
theorem dL_isForetold_81 : decode cL_isForetold 81 = .ok (.invokevirtual 8, 3) := by decide +kernel
theorem dL_isForetold_84 : decode cL_isForetold 84 = .ok (.istore 9, 2) := by decide +kernel
theorem dL_isForetold_86 : decode cL_isForetold 86 = .ok (.iload 6, 2) := by decide +kernel
theorem dL_isForetold_88 : decode cL_isForetold 88 = .ok (.sipush (-1000), 3) := by decide +kernel
theorem dL_isForetold_91 : decode cL_isForetold 91 = .ok (.if_icmp .eq 16, 3) := by decide +kernel
theorem dL_isForetold_94 : decode cL_isForetold 94 = .ok (.iload 6, 2) := by decide +kernel
theorem dL_isForetold_96 : decode cL_isForetold 96 = .ok (.iload_n 1, 1) := by decide +kernel
theorem dL_isForetold_97 : decode cL_isForetold 97 = .ok (.if_icmp .gt 10, 3) := by decide +kernel
theorem dL_isForetold_100 : decode cL_isForetold 100 = .ok (.iload 9, 2) := by decide +kernel
theorem dL_isForetold_102 : decode cL_isForetold 102 = .ok (.iload 4, 2) := by decide +kernel
theorem dL_isForetold_104 : decode cL_isForetold 104 = .ok (.if_icmp .ge 24, 3) := by decide +kernel
theorem dL_isForetold_107 : decode cL_isForetold 107 = .ok (.iload 6, 2) := by decide +kernel
theorem dL_isForetold_109 : decode cL_isForetold 109 = .ok (.sipush (-1000), 3) := by decide +kernel
theorem dL_isForetold_112 : decode cL_isForetold 112 = .ok (.if_icmp .eq 9, 3) := by decide +kernel
theorem dL_isForetold_115 : decode cL_isForetold 115 = .ok (.iload 6, 2) := by decide +kernel
theorem dL_isForetold_117 : decode cL_isForetold 117 = .ok (.iload_n 1, 1) := by decide +kernel
theorem dL_isForetold_118 : decode cL_isForetold 118 = .ok (.if_icmp .le 12, 3) := by decide +kernel
theorem dL_isForetold_121 : decode cL_isForetold 121 = .ok (.iload 9, 2) := by decide +kernel
theorem dL_isForetold_123 : decode cL_isForetold 123 = .ok (.iload 4, 2) := by decide +kernel
theorem dL_isForetold_125 : decode cL_isForetold 125 = .ok (.if_icmp .eq 5, 3) := by decide +kernel
theorem dL_isForetold_128 : decode cL_isForetold 128 = .ok (.iconst 0, 1) := by decide +kernel
theorem dL_isForetold_129 : decode cL_isForetold 129 = .ok (.ireturn, 1) := by decide +kernel
theorem dL_isForetold_130 : decode cL_isForetold 130 = .ok (.aload_n 0, 1) := by decide +kernel
theorem dL_isForetold_131 : decode cL_isForetold 131 = .ok (.invokevirtual 63, 3) := by decide +kernel
theorem dL_isForetold_134 : decode cL_isForetold 134 = .ok (.ifCond .lt 16, 3) := by decide +kernel
theorem dL_isForetold_137 : decode cL_isForetold 137 = .ok (.aload_n 0, 1) := by decide +kernel
theorem dL_isForetold_138 : decode cL_isForetold 138 = .ok (.invokevirtual 49, 3) := by decide +kernel
theorem dL_isForetold_141 : decode cL_isForetold 141 = .ok (.lload_n 2, 1) := by decide +kernel
theorem dL_isForetold_142 : decode cL_isForetold 142 = .ok (.lcmp, 1) := by decide +kernel
theorem dL_isForetold_143 : decode cL_isForetold 143 = .ok (.ifCond .ne 7, 3) := by decide +kernel
theorem dL_isForetold_146 : decode cL_isForetold 146 = .ok (.iconst 1, 1) := by decide +kernel
theorem dL_isForetold_147 : decode cL_isForetold 147 = .ok (.goto 4, 3) := by decide +kernel
theorem dL_isForetold_150 : decode cL_isForetold 150 = .ok (.iconst 0, 1) := by decide +kernel
theorem dL_isForetold_151 : decode cL_isForetold 151 = .ok (.ireturn, 1) := by decide +kernel
set_option maxRecDepth 20000 in
theorem ggL_changes_L_low : GoodIn wsL_changes wsL_low := goodIn_r _ [4, 5] (by decide +kernel) (by decide +kernel)
set_option maxRecDepth 20000 in
theorem gL_changes_L_low : GoodIn wsL_changes (va_wsS RL 66 yL_low wsL_low) := goodIn_app (goodIn_of _ (by decide +kernel)) ggL_changes_L_low
set_option maxRecDepth 20000 in
theorem ggL_changes_X5_addNode : GoodIn wsL_changes wsX5_addNode := goodIn_r _ [10, 11, 12, 13, 14, 9, 15, 16, 17, 18, 19, 20, 21, 22, 23, 24, 25, 26, 27, 28, 29, 30, 31, 32, 33, 34, 35, 36, 37, 38, 39, 40, 41, 42, 43, 44, 45, 46, 47, 48, 49, 50, 51, 52, 53, 54, 55, 56, 57, 58, 59, 60, 61, 62, 63, 64, 65, 66, 67, 68, 69, 70, 71, 72, 333, 334, 335, 336, 337, 338, 339, 340, 341, 342, 343, 344, 345, 346, 347] (by decide +kernel) (by decide +kernel)
set_option maxRecDepth 20000 in
theorem gL_changes_X5_addNode : GoodIn wsL_changes (wsV RL 69 RX5 yX5_addNode wsX5_addNode) := goodIn_app (goodIn_of _ (by decide +kernel)) ggL_changes_X5_addNode
set_option maxRecDepth 20000 in
theorem ggL_changes_X5_charge : GoodIn wsL_changes wsX5_charge := goodIn_r _ [76, 11, 12, 77, 78, 79, 19, 80, 21, 27, 9, 28, 13, 14, 15, 36, 37, 38, 39, 40, 41, 42, 43, 44, 45, 46, 47, 48, 49, 50, 51, 26, 52, 53, 54, 55, 56, 57, 58, 59, 60, 61, 62, 63, 64, 65, 66, 81, 82, 83, 84, 85, 86, 87, 88, 71, 72, 333, 334, 335, 336, 337, 338, 339, 340, 341, 342, 343, 344, 345, 346, 347] (by decide +kernel) (by decide +kernel)
set_option maxRecDepth 20000 in
theorem gL_changes_X5_charge : GoodIn wsL_changes (wsV RL 72 RX5 yX5_charge wsX5_charge) := goodIn_app (goodIn_of _ (by decide +kernel)) ggL_changes_X5_charge
set_option maxRecDepth 20000 in
theorem ggL_changes_X5_link : GoodIn wsL_changes wsX5_link := goodIn_r _ [92, 11, 12, 77, 78, 79, 19, 80, 21, 27, 9, 28, 13, 14, 15, 93, 94, 95, 96, 97, 98, 99, 100, 52, 101, 102, 103, 16, 17, 18, 20, 22, 23, 24, 25, 26, 29, 30, 31, 32, 33, 34, 35, 36, 37, 38, 39, 40, 41, 42, 43, 44, 45, 46, 47, 48, 49, 50, 51, 53, 54, 55, 56, 57, 58, 59, 60, 61, 62, 63, 64, 65, 66, 104, 105, 106, 107, 71, 72, 333, 334, 335, 336, 337, 338, 339, 340, 341, 342, 343, 344, 345, 346, 347] (by decide +kernel) (by decide +kernel)
set_option maxRecDepth 20000 in
theorem gL_changes_X5_link : GoodIn wsL_changes (wsV RL 75 RX5 yX5_link wsX5_link) := goodIn_app (goodIn_of _ (by decide +kernel)) ggL_changes_X5_link
set_option maxRecDepth 20000 in
theorem ggL_changes_X5_cut : GoodIn wsL_changes wsX5_cut := goodIn_r _ [111, 11, 12, 77, 78, 79, 19, 80, 21, 27, 9, 28, 36, 37, 38, 39, 40, 41, 42, 43, 44, 45, 46, 47, 48, 49, 50, 51, 26, 52, 53, 54, 55, 56, 57, 58, 59, 60, 61, 62, 63, 64, 65, 66, 112, 113, 114, 115, 116, 117, 118, 119, 71, 72, 120, 121, 333, 334, 335, 336, 337, 338, 339, 340, 341, 342, 343, 344, 345, 346, 347] (by decide +kernel) (by decide +kernel)
set_option maxRecDepth 20000 in
theorem gL_changes_X5_cut : GoodIn wsL_changes (wsV RL 78 RX5 yX5_cut wsX5_cut) := goodIn_app (goodIn_of _ (by decide +kernel)) ggL_changes_X5_cut
set_option maxRecDepth 20000 in
theorem ggL_changes_X5_addSensor : GoodIn wsL_changes wsX5_addSensor := goodIn_r _ [125, 11, 12, 77, 78, 79, 19, 80, 21, 27, 9, 28, 13, 14, 15, 16, 17, 18, 20, 22, 23, 24, 25, 26, 29, 30, 31, 32, 33, 34, 35, 36, 37, 38, 39, 40, 41, 42, 43, 44, 45, 46, 47, 48, 49, 50, 51, 52, 53, 54, 55, 56, 57, 58, 59, 60, 61, 62, 63, 64, 65, 66, 126, 127, 128, 129, 71, 72, 333, 334, 335, 336, 337, 338, 339, 340, 341, 342, 343, 344, 345, 346, 347] (by decide +kernel) (by decide +kernel)
set_option maxRecDepth 20000 in
theorem gL_changes_X5_addSensor : GoodIn wsL_changes (wsV RL 81 RX5 yX5_addSensor wsX5_addSensor) := goodIn_app (goodIn_of _ (by decide +kernel)) ggL_changes_X5_addSensor
set_option maxRecDepth 20000 in
theorem ggL_changes_X5_measure : GoodIn wsL_changes wsX5_measure := goodIn_r _ [133, 11, 12, 77, 78, 79, 19, 80, 21, 27, 9, 28, 13, 14, 15, 36, 37, 38, 39, 40, 41, 42, 43, 44, 45, 46, 47, 48, 49, 50, 51, 26, 52, 53, 54, 55, 56, 57, 58, 59, 60, 61, 62, 63, 64, 65, 66, 134, 135, 136, 137, 138, 139, 140, 141, 71, 72, 333, 334, 335, 336, 337, 338, 339, 340, 341, 342, 343, 344, 345, 346, 347] (by decide +kernel) (by decide +kernel)
set_option maxRecDepth 20000 in
theorem gL_changes_X5_measure : GoodIn wsL_changes (wsV RL 84 RX5 yX5_measure wsX5_measure) := goodIn_app (goodIn_of _ (by decide +kernel)) ggL_changes_X5_measure
set_option maxRecDepth 20000 in
theorem ggL_changes_X5_count : GoodIn wsL_changes wsX5_count := goodIn_r _ [145, 11, 13, 14, 9, 15, 16, 17, 18, 19, 20, 21, 22, 23, 24, 25, 26, 27, 28, 29, 30, 31, 32, 33, 34, 35, 333, 334, 335, 336, 337, 338, 339, 340, 341, 342, 343, 344] (by decide +kernel) (by decide +kernel)
set_option maxRecDepth 20000 in
theorem gL_changes_X5_count : GoodIn wsL_changes (wsV RL 8 RX5 yX5_count wsX5_count) := goodIn_app (goodIn_of _ (by decide +kernel)) ggL_changes_X5_count
set_option maxRecDepth 20000 in
theorem ggL_changes_X5_ask : GoodIn wsL_changes wsX5_ask := goodIn_r _ [149, 11, 150, 12, 77, 78, 79, 19, 80, 21, 27, 9, 28, 13, 14, 15, 16, 17, 18, 20, 22, 23, 24, 25, 26, 29, 30, 31, 32, 33, 34, 35, 36, 37, 38, 39, 40, 41, 42, 43, 44, 45, 46, 47, 48, 49, 50, 51, 52, 53, 54, 55, 56, 57, 58, 59, 60, 61, 62, 63, 64, 65, 66, 151, 152, 153, 154, 71, 72, 155, 156, 333, 334, 335, 336, 337, 338, 339, 340, 341, 342, 343, 344, 345, 346, 347] (by decide +kernel) (by decide +kernel)
set_option maxRecDepth 20000 in
theorem gL_changes_X5_ask : GoodIn wsL_changes (wsV RL 87 RX5 yX5_ask wsX5_ask) := goodIn_app (goodIn_of _ (by decide +kernel)) ggL_changes_X5_ask
set_option maxRecDepth 20000 in
theorem ggL_changes_X5_withdraw : GoodIn wsL_changes wsX5_withdraw := goodIn_r _ [160, 11, 12, 77, 78, 79, 19, 80, 21, 27, 9, 28, 36, 37, 38, 39, 40, 41, 42, 43, 44, 45, 46, 47, 48, 49, 50, 51, 26, 52, 53, 54, 55, 56, 57, 58, 59, 60, 61, 62, 63, 64, 65, 66, 161, 162, 163, 164, 116, 117, 118, 119, 71, 72, 120, 121, 16, 17, 18, 20, 22, 23, 24, 25, 29, 30, 31, 32, 33, 34, 35, 333, 334, 335, 336, 337, 338, 339, 340, 341, 342, 343, 344, 345, 346, 347] (by decide +kernel) (by decide +kernel)
set_option maxRecDepth 20000 in
theorem gL_changes_X5_withdraw : GoodIn wsL_changes (wsV RL 91 RX5 yX5_withdraw wsX5_withdraw) := goodIn_app (goodIn_of _ (by decide +kernel)) ggL_changes_X5_withdraw
set_option maxRecDepth 20000 in
theorem ggL_changes_X5_setPeriod : GoodIn wsL_changes wsX5_setPeriod := goodIn_r _ [168, 12, 11, 13, 14, 9, 15, 36, 37, 38, 39, 40, 41, 42, 43, 44, 45, 46, 47, 48, 49, 50, 19, 51, 21, 26, 52, 53, 54, 55, 56, 57, 58, 59, 60, 61, 62, 63, 64, 65, 66, 16, 17, 18, 20, 22, 23, 24, 25, 27, 28, 29, 30, 31, 32, 33, 34, 35, 169, 170, 171, 172, 71, 72, 333, 334, 335, 336, 337, 345, 346, 347, 338, 339, 340, 341, 342, 343, 344] (by decide +kernel) (by decide +kernel)
set_option maxRecDepth 20000 in
theorem gL_changes_X5_setPeriod : GoodIn wsL_changes (wsV RL 94 RX5 yX5_setPeriod wsX5_setPeriod) := goodIn_app (goodIn_of _ (by decide +kernel)) ggL_changes_X5_setPeriod
set_option maxRecDepth 20000 in
theorem ggL_changes_X5_rounds : GoodIn wsL_changes wsX5_rounds := goodIn_r _ [176, 11, 150, 12, 177, 13, 14, 9, 15, 16, 17, 18, 19, 20, 21, 22, 23, 24, 25, 26, 27, 28, 29, 30, 31, 32, 33, 34, 35, 36, 37, 38, 39, 40, 41, 42, 43, 44, 45, 46, 47, 48, 49, 50, 51, 52, 53, 54, 55, 56, 57, 58, 59, 60, 61, 62, 63, 64, 65, 66, 178, 179, 180, 181, 182, 183, 184, 185, 186, 187, 188, 189, 190, 191, 192, 193, 194, 195, 196, 197, 198, 98, 99, 100, 71, 72, 199, 200, 201, 202, 203, 204, 205, 206, 207, 208, 209, 210, 211, 212, 213, 214, 215, 155, 156, 216, 162, 163, 164, 116, 117, 118, 119, 120, 121, 217, 218, 219, 220, 221, 222, 223, 135, 136, 137, 224, 225, 226, 227, 228, 229, 230, 231, 232, 233, 234, 235, 236, 237, 238, 239, 240, 241, 242, 243, 244, 245, 246, 247, 248, 249, 250, 251, 252, 253, 254, 255, 256, 257, 258, 259, 260, 261, 262, 263, 264, 265, 266, 267, 268, 269, 270, 271, 272, 273, 274, 275, 276, 277, 278, 279, 280, 281, 282, 283, 284, 285, 286, 287, 288, 289, 290, 291, 292, 293, 294, 295, 296, 297, 298, 299, 300, 301, 302, 303, 304, 305, 306, 307, 308, 309, 101, 102, 103, 310, 311, 312, 313, 314, 315, 316, 317, 318, 319, 320, 321, 322, 323, 324, 325, 326, 327, 328, 329, 330, 331, 332, 333, 334, 335, 336, 337, 348, 349, 350, 351, 338, 339, 340, 341, 342, 343, 344, 345, 346, 347, 352, 353, 354, 355, 356] (by decide +kernel) (by decide +kernel)
set_option maxRecDepth 20000 in
theorem gL_changes_X5_rounds : GoodIn wsL_changes (wsV RL 60 RX5 yX5_rounds wsX5_rounds) := goodIn_app (goodIn_of _ (by decide +kernel)) ggL_changes_X5_rounds
theorem dL_changes_0 : decode cL_changes 0 = .ok (.iload_n 1, 1) := by decide +kernel
theorem dL_changes_1 : decode cL_changes 1 = .ok (.iconst 4, 1) := by decide +kernel
theorem dL_changes_2 : decode cL_changes 2 = .ok (.ishr, 1) := by decide +kernel
theorem dL_changes_3 : decode cL_changes 3 = .ok (.bipush 10, 2) := by decide +kernel
theorem dL_changes_5 : decode cL_changes 5 = .ok (.invokestatic 66, 3) := by decide +kernel
theorem dL_changes_8 : decode cL_changes 8 = .ok (.istore_n 3, 1) := by decide +kernel
theorem dL_changes_9 : decode cL_changes 9 = .ok (.iload_n 1, 1) := by decide +kernel
theorem dL_changes_10 : decode cL_changes 10 = .ok (.bipush 8, 2) := by decide +kernel
theorem dL_changes_12 : decode cL_changes 12 = .ok (.ishr, 1) := by decide +kernel
theorem dL_changes_13 : decode cL_changes 13 = .ok (.bipush 10, 2) := by decide +kernel
theorem dL_changes_15 : decode cL_changes 15 = .ok (.invokestatic 66, 3) := by decide +kernel
theorem dL_changes_18 : decode cL_changes 18 = .ok (.istore 4, 2) := by decide +kernel
theorem dL_changes_20 : decode cL_changes 20 = .ok (.iload_n 1, 1) := by decide +kernel
theorem dL_changes_21 : decode cL_changes 21 = .ok (.bipush 14, 2) := by decide +kernel
theorem dL_changes_23 : decode cL_changes 23 = .ok (.invokestatic 66, 3) := by decide +kernel
theorem dL_changes_26 : decode cL_changes 26 = .ok (.tableswitch 332 0 10 #[58, 113, 156, 156, 156, 175, 188, 215, 241, 241, 295], 58) := by decide +kernel
theorem dL_changes_84 : decode cL_changes 84 = .ok (.iconst 1, 1) := by decide +kernel
theorem dL_changes_85 : decode cL_changes 85 = .ok (.iload_n 1, 1) := by decide +kernel
theorem dL_changes_86 : decode cL_changes 86 = .ok (.iconst 4, 1) := by decide +kernel
theorem dL_changes_87 : decode cL_changes 87 = .ok (.ishr, 1) := by decide +kernel
theorem dL_changes_88 : decode cL_changes 88 = .ok (.iload_n 1, 1) := by decide +kernel
theorem dL_changes_89 : decode cL_changes 89 = .ok (.bipush 20, 2) := by decide +kernel
theorem dL_changes_91 : decode cL_changes 91 = .ok (.ishr, 1) := by decide +kernel
theorem dL_changes_92 : decode cL_changes 92 = .ok (.iconst 1, 1) := by decide +kernel
theorem dL_changes_93 : decode cL_changes 93 = .ok (.iand, 1) := by decide +kernel
theorem dL_changes_94 : decode cL_changes 94 = .ok (.ifCond .ne 8, 3) := by decide +kernel
theorem dL_changes_97 : decode cL_changes 97 = .ok (.bipush 40, 2) := by decide +kernel
theorem dL_changes_99 : decode cL_changes 99 = .ok (.goto 6, 3) := by decide +kernel
theorem dL_changes_102 : decode cL_changes 102 = .ok (.sipush 400, 3) := by decide +kernel
theorem dL_changes_105 : decode cL_changes 105 = .ok (.invokestatic 66, 3) := by decide +kernel
theorem dL_changes_108 : decode cL_changes 108 = .ok (.iadd, 1) := by decide +kernel
theorem dL_changes_109 : decode cL_changes 109 = .ok (.istore 5, 2) := by decide +kernel
theorem dL_changes_111 : decode cL_changes 111 = .ok (.aload_n 0, 1) := by decide +kernel
theorem dL_changes_112 : decode cL_changes 112 = .ok (.iload 5, 2) := by decide +kernel
theorem dL_changes_114 : decode cL_changes 114 = .ok (.invokevirtual 69, 3) := by decide +kernel
theorem dL_changes_117 : decode cL_changes 117 = .ok (.istore 6, 2) := by decide +kernel
theorem dL_changes_119 : decode cL_changes 119 = .ok (.aload_n 2, 1) := by decide +kernel
theorem dL_changes_120 : decode cL_changes 120 = .ok (.iconst 0, 1) := by decide +kernel
theorem dL_changes_121 : decode cL_changes 121 = .ok (.dup2, 1) := by decide +kernel
theorem dL_changes_122 : decode cL_changes 122 = .ok (.iaload, 1) := by decide +kernel
theorem dL_changes_123 : decode cL_changes 123 = .ok (.iload 6, 2) := by decide +kernel
theorem dL_changes_125 : decode cL_changes 125 = .ok (.ifCond .lt 8, 3) := by decide +kernel
theorem dL_changes_128 : decode cL_changes 128 = .ok (.iload 5, 2) := by decide +kernel
theorem dL_changes_130 : decode cL_changes 130 = .ok (.goto 4, 3) := by decide +kernel
theorem dL_changes_133 : decode cL_changes 133 = .ok (.iconst 0, 1) := by decide +kernel
theorem dL_changes_134 : decode cL_changes 134 = .ok (.iadd, 1) := by decide +kernel
theorem dL_changes_135 : decode cL_changes 135 = .ok (.iastore, 1) := by decide +kernel
theorem dL_changes_136 : decode cL_changes 136 = .ok (.iload 6, 2) := by decide +kernel
theorem dL_changes_138 : decode cL_changes 138 = .ok (.ireturn, 1) := by decide +kernel
theorem dL_changes_139 : decode cL_changes 139 = .ok (.iload_n 1, 1) := by decide +kernel
theorem dL_changes_140 : decode cL_changes 140 = .ok (.bipush 8, 2) := by decide +kernel
theorem dL_changes_142 : decode cL_changes 142 = .ok (.ishr, 1) := by decide +kernel
theorem dL_changes_143 : decode cL_changes 143 = .ok (.bipush 60, 2) := by decide +kernel
theorem dL_changes_145 : decode cL_changes 145 = .ok (.invokestatic 66, 3) := by decide +kernel
theorem dL_changes_148 : decode cL_changes 148 = .ok (.istore 7, 2) := by decide +kernel
theorem dL_changes_150 : decode cL_changes 150 = .ok (.aload_n 0, 1) := by decide +kernel
theorem dL_changes_151 : decode cL_changes 151 = .ok (.iload_n 3, 1) := by decide +kernel
theorem dL_changes_152 : decode cL_changes 152 = .ok (.iload 7, 2) := by decide +kernel
theorem dL_changes_154 : decode cL_changes 154 = .ok (.invokevirtual 72, 3) := by decide +kernel
theorem dL_changes_157 : decode cL_changes 157 = .ok (.istore 8, 2) := by decide +kernel
theorem dL_changes_159 : decode cL_changes 159 = .ok (.aload_n 2, 1) := by decide +kernel
theorem dL_changes_160 : decode cL_changes 160 = .ok (.iconst 0, 1) := by decide +kernel
theorem dL_changes_161 : decode cL_changes 161 = .ok (.dup2, 1) := by decide +kernel
theorem dL_changes_162 : decode cL_changes 162 = .ok (.iaload, 1) := by decide +kernel
theorem dL_changes_163 : decode cL_changes 163 = .ok (.iload 8, 2) := by decide +kernel
theorem dL_changes_165 : decode cL_changes 165 = .ok (.ifCond .lt 11, 3) := by decide +kernel
theorem dL_changes_168 : decode cL_changes 168 = .ok (.iload 7, 2) := by decide +kernel
theorem dL_changes_170 : decode cL_changes 170 = .ok (.iload 8, 2) := by decide +kernel
theorem dL_changes_172 : decode cL_changes 172 = .ok (.isub, 1) := by decide +kernel
theorem dL_changes_173 : decode cL_changes 173 = .ok (.goto 4, 3) := by decide +kernel
theorem dL_changes_176 : decode cL_changes 176 = .ok (.iconst 0, 1) := by decide +kernel
theorem dL_changes_177 : decode cL_changes 177 = .ok (.iadd, 1) := by decide +kernel
theorem dL_changes_178 : decode cL_changes 178 = .ok (.iastore, 1) := by decide +kernel
theorem dL_changes_179 : decode cL_changes 179 = .ok (.iload 8, 2) := by decide +kernel
theorem dL_changes_181 : decode cL_changes 181 = .ok (.ireturn, 1) := by decide +kernel
theorem dL_changes_182 : decode cL_changes 182 = .ok (.aload_n 0, 1) := by decide +kernel
theorem dL_changes_183 : decode cL_changes 183 = .ok (.iload_n 3, 1) := by decide +kernel
theorem dL_changes_184 : decode cL_changes 184 = .ok (.iload 4, 2) := by decide +kernel
theorem dL_changes_186 : decode cL_changes 186 = .ok (.iconst 1, 1) := by decide +kernel
theorem dL_changes_187 : decode cL_changes 187 = .ok (.iload_n 1, 1) := by decide +kernel
theorem dL_changes_188 : decode cL_changes 188 = .ok (.bipush 12, 2) := by decide +kernel
theorem dL_changes_190 : decode cL_changes 190 = .ok (.ishr, 1) := by decide +kernel
theorem dL_changes_191 : decode cL_changes 191 = .ok (.bipush 6, 2) := by decide +kernel
theorem dL_changes_193 : decode cL_changes 193 = .ok (.invokestatic 66, 3) := by decide +kernel
theorem dL_changes_196 : decode cL_changes 196 = .ok (.iadd, 1) := by decide +kernel
theorem dL_changes_197 : decode cL_changes 197 = .ok (.invokevirtual 75, 3) := by decide +kernel
theorem dL_changes_200 : decode cL_changes 200 = .ok (.ireturn, 1) := by decide +kernel
theorem dL_changes_201 : decode cL_changes 201 = .ok (.aload_n 0, 1) := by decide +kernel
theorem dL_changes_202 : decode cL_changes 202 = .ok (.iload_n 1, 1) := by decide +kernel
theorem dL_changes_203 : decode cL_changes 203 = .ok (.iconst 4, 1) := by decide +kernel
theorem dL_changes_204 : decode cL_changes 204 = .ok (.ishr, 1) := by decide +kernel
theorem dL_changes_205 : decode cL_changes 205 = .ok (.bipush 20, 2) := by decide +kernel
theorem dL_changes_207 : decode cL_changes 207 = .ok (.invokestatic 66, 3) := by decide +kernel
theorem dL_changes_210 : decode cL_changes 210 = .ok (.invokevirtual 78, 3) := by decide +kernel
theorem dL_changes_213 : decode cL_changes 213 = .ok (.ireturn, 1) := by decide +kernel
theorem dL_changes_214 : decode cL_changes 214 = .ok (.aload_n 0, 1) := by decide +kernel
theorem dL_changes_215 : decode cL_changes 215 = .ok (.iload_n 3, 1) := by decide +kernel
theorem dL_changes_216 : decode cL_changes 216 = .ok (.iload_n 1, 1) := by decide +kernel
theorem dL_changes_217 : decode cL_changes 217 = .ok (.bipush 8, 2) := by decide +kernel
theorem dL_changes_219 : decode cL_changes 219 = .ok (.ishr, 1) := by decide +kernel
theorem dL_changes_220 : decode cL_changes 220 = .ok (.iconst 2, 1) := by decide +kernel
theorem dL_changes_221 : decode cL_changes 221 = .ok (.invokestatic 66, 3) := by decide +kernel
theorem dL_changes_224 : decode cL_changes 224 = .ok (.iload_n 1, 1) := by decide +kernel
theorem dL_changes_225 : decode cL_changes 225 = .ok (.bipush 10, 2) := by decide +kernel
theorem dL_changes_227 : decode cL_changes 227 = .ok (.ishr, 1) := by decide +kernel
theorem dL_changes_228 : decode cL_changes 228 = .ok (.sipush 201, 3) := by decide +kernel
theorem dL_changes_231 : decode cL_changes 231 = .ok (.invokestatic 66, 3) := by decide +kernel
theorem dL_changes_234 : decode cL_changes 234 = .ok (.bipush 100, 2) := by decide +kernel
theorem dL_changes_236 : decode cL_changes 236 = .ok (.isub, 1) := by decide +kernel
theorem dL_changes_237 : decode cL_changes 237 = .ok (.invokevirtual 81, 3) := by decide +kernel
theorem dL_changes_240 : decode cL_changes 240 = .ok (.ireturn, 1) := by decide +kernel
theorem dL_changes_241 : decode cL_changes 241 = .ok (.aload_n 0, 1) := by decide +kernel
theorem dL_changes_242 : decode cL_changes 242 = .ok (.iload_n 1, 1) := by decide +kernel
theorem dL_changes_243 : decode cL_changes 243 = .ok (.iconst 4, 1) := by decide +kernel
theorem dL_changes_244 : decode cL_changes 244 = .ok (.ishr, 1) := by decide +kernel
theorem dL_changes_245 : decode cL_changes 245 = .ok (.bipush 6, 2) := by decide +kernel
theorem dL_changes_247 : decode cL_changes 247 = .ok (.invokestatic 66, 3) := by decide +kernel
theorem dL_changes_250 : decode cL_changes 250 = .ok (.iload_n 1, 1) := by decide +kernel
theorem dL_changes_251 : decode cL_changes 251 = .ok (.bipush 8, 2) := by decide +kernel
theorem dL_changes_253 : decode cL_changes 253 = .ok (.ishr, 1) := by decide +kernel
theorem dL_changes_254 : decode cL_changes 254 = .ok (.sipush 201, 3) := by decide +kernel
theorem dL_changes_257 : decode cL_changes 257 = .ok (.invokestatic 66, 3) := by decide +kernel
theorem dL_changes_260 : decode cL_changes 260 = .ok (.bipush 100, 2) := by decide +kernel
theorem dL_changes_262 : decode cL_changes 262 = .ok (.isub, 1) := by decide +kernel
theorem dL_changes_263 : decode cL_changes 263 = .ok (.invokevirtual 84, 3) := by decide +kernel
theorem dL_changes_266 : decode cL_changes 266 = .ok (.ireturn, 1) := by decide +kernel
theorem dL_changes_267 : decode cL_changes 267 = .ok (.aload_n 0, 1) := by decide +kernel
theorem dL_changes_268 : decode cL_changes 268 = .ok (.iload_n 3, 1) := by decide +kernel
theorem dL_changes_269 : decode cL_changes 269 = .ok (.iload_n 1, 1) := by decide +kernel
theorem dL_changes_270 : decode cL_changes 270 = .ok (.bipush 8, 2) := by decide +kernel
theorem dL_changes_272 : decode cL_changes 272 = .ok (.ishr, 1) := by decide +kernel
theorem dL_changes_273 : decode cL_changes 273 = .ok (.iconst 2, 1) := by decide +kernel
theorem dL_changes_274 : decode cL_changes 274 = .ok (.invokestatic 66, 3) := by decide +kernel
theorem dL_changes_277 : decode cL_changes 277 = .ok (.iload_n 1, 1) := by decide +kernel
theorem dL_changes_278 : decode cL_changes 278 = .ok (.bipush 10, 2) := by decide +kernel
theorem dL_changes_280 : decode cL_changes 280 = .ok (.ishr, 1) := by decide +kernel
theorem dL_changes_281 : decode cL_changes 281 = .ok (.sipush 150, 3) := by decide +kernel
theorem dL_changes_284 : decode cL_changes 284 = .ok (.invokestatic 66, 3) := by decide +kernel
theorem dL_changes_287 : decode cL_changes 287 = .ok (.bipush 100, 2) := by decide +kernel
theorem dL_changes_289 : decode cL_changes 289 = .ok (.isub, 1) := by decide +kernel
theorem dL_changes_290 : decode cL_changes 290 = .ok (.bipush 50, 2) := by decide +kernel
theorem dL_changes_292 : decode cL_changes 292 = .ok (.iload_n 1, 1) := by decide +kernel
theorem dL_changes_293 : decode cL_changes 293 = .ok (.bipush 18, 2) := by decide +kernel
theorem dL_changes_295 : decode cL_changes 295 = .ok (.ishr, 1) := by decide +kernel
theorem dL_changes_296 : decode cL_changes 296 = .ok (.bipush 51, 2) := by decide +kernel
theorem dL_changes_298 : decode cL_changes 298 = .ok (.invokestatic 66, 3) := by decide +kernel
theorem dL_changes_301 : decode cL_changes 301 = .ok (.iadd, 1) := by decide +kernel
theorem dL_changes_302 : decode cL_changes 302 = .ok (.aload_n 0, 1) := by decide +kernel
theorem dL_changes_303 : decode cL_changes 303 = .ok (.iconst 5, 1) := by decide +kernel
theorem dL_changes_304 : decode cL_changes 304 = .ok (.invokevirtual 8, 3) := by decide +kernel
theorem dL_changes_307 : decode cL_changes 307 = .ok (.iload_n 1, 1) := by decide +kernel
theorem dL_changes_308 : decode cL_changes 308 = .ok (.bipush 20, 2) := by decide +kernel
theorem dL_changes_310 : decode cL_changes 310 = .ok (.ishr, 1) := by decide +kernel
theorem dL_changes_311 : decode cL_changes 311 = .ok (.bipush 30, 2) := by decide +kernel
theorem dL_changes_313 : decode cL_changes 313 = .ok (.invokestatic 66, 3) := by decide +kernel
theorem dL_changes_316 : decode cL_changes 316 = .ok (.iadd, 1) := by decide +kernel
theorem dL_changes_317 : decode cL_changes 317 = .ok (.invokevirtual 87, 3) := by decide +kernel
theorem dL_changes_320 : decode cL_changes 320 = .ok (.ireturn, 1) := by decide +kernel
theorem dL_changes_321 : decode cL_changes 321 = .ok (.iload_n 1, 1) := by decide +kernel
theorem dL_changes_322 : decode cL_changes 322 = .ok (.iconst 4, 1) := by decide +kernel
theorem dL_changes_323 : decode cL_changes 323 = .ok (.ishr, 1) := by decide +kernel
theorem dL_changes_324 : decode cL_changes 324 = .ok (.iconst 1, 1) := by decide +kernel
theorem dL_changes_325 : decode cL_changes 325 = .ok (.iand, 1) := by decide +kernel
theorem dL_changes_326 : decode cL_changes 326 = .ok (.ifCond .ne 17, 3) := by decide +kernel
theorem dL_changes_329 : decode cL_changes 329 = .ok (.aload_n 0, 1) := by decide +kernel
theorem dL_changes_330 : decode cL_changes 330 = .ok (.iload_n 1, 1) := by decide +kernel
theorem dL_changes_331 : decode cL_changes 331 = .ok (.iconst 5, 1) := by decide +kernel
theorem dL_changes_332 : decode cL_changes 332 = .ok (.ishr, 1) := by decide +kernel
theorem dL_changes_333 : decode cL_changes 333 = .ok (.iconst 5, 1) := by decide +kernel
theorem dL_changes_334 : decode cL_changes 334 = .ok (.invokestatic 66, 3) := by decide +kernel
theorem dL_changes_337 : decode cL_changes 337 = .ok (.invokevirtual 91, 3) := by decide +kernel
theorem dL_changes_340 : decode cL_changes 340 = .ok (.goto 17, 3) := by decide +kernel
theorem dL_changes_343 : decode cL_changes 343 = .ok (.aload_n 0, 1) := by decide +kernel
theorem dL_changes_344 : decode cL_changes 344 = .ok (.iconst 1, 1) := by decide +kernel
theorem dL_changes_345 : decode cL_changes 345 = .ok (.iload_n 1, 1) := by decide +kernel
theorem dL_changes_346 : decode cL_changes 346 = .ok (.iconst 5, 1) := by decide +kernel
theorem dL_changes_347 : decode cL_changes 347 = .ok (.ishr, 1) := by decide +kernel
theorem dL_changes_348 : decode cL_changes 348 = .ok (.bipush 12, 2) := by decide +kernel
theorem dL_changes_350 : decode cL_changes 350 = .ok (.invokestatic 66, 3) := by decide +kernel
theorem dL_changes_353 : decode cL_changes 353 = .ok (.iadd, 1) := by decide +kernel
theorem dL_changes_354 : decode cL_changes 354 = .ok (.invokevirtual 94, 3) := by decide +kernel
theorem dL_changes_357 : decode cL_changes 357 = .ok (.ireturn, 1) := by decide +kernel
theorem dL_changes_358 : decode cL_changes 358 = .ok (.aload_n 0, 1) := by decide +kernel
theorem dL_changes_359 : decode cL_changes 359 = .ok (.iconst 1, 1) := by decide +kernel
theorem dL_changes_360 : decode cL_changes 360 = .ok (.iload_n 1, 1) := by decide +kernel
theorem dL_changes_361 : decode cL_changes 361 = .ok (.iconst 4, 1) := by decide +kernel
theorem dL_changes_362 : decode cL_changes 362 = .ok (.ishr, 1) := by decide +kernel
theorem dL_changes_363 : decode cL_changes 363 = .ok (.bipush 8, 2) := by decide +kernel
theorem dL_changes_365 : decode cL_changes 365 = .ok (.invokestatic 66, 3) := by decide +kernel
theorem dL_changes_368 : decode cL_changes 368 = .ok (.iadd, 1) := by decide +kernel
theorem dL_changes_369 : decode cL_changes 369 = .ok (.invokevirtual 60, 3) := by decide +kernel
theorem dL_changes_372 : decode cL_changes 372 = .ok (.ireturn, 1) := by decide +kernel
