theorem dX5_weather_69 : decode cX5_weather 69 = .ok (.if_icmp .ge 19, 3) := by decide +kernel
theorem dX5_weather_72 : decode cX5_weather 72 = .ok (.aload_n 0, 1) := by decide +kernel
theorem dX5_weather_73 : decode cX5_weather 73 = .ok (.getfield 55, 3) := by decide +kernel
theorem dX5_weather_76 : decode cX5_weather 76 = .ok (.iload 6, 2) := by decide +kernel
theorem dX5_weather_78 : decode cX5_weather 78 = .ok (.iload 6, 2) := by decide +kernel
theorem dX5_weather_80 : decode cX5_weather 80 = .ok (.i2l, 1) := by decide +kernel
theorem dX5_weather_81 : decode cX5_weather 81 = .ok (.lastore, 1) := by decide +kernel
theorem dX5_weather_82 : decode cX5_weather 82 = .ok (.iinc 6 1, 3) := by decide +kernel
theorem dX5_weather_85 : decode cX5_weather 85 = .ok (.goto (-20), 3) := by decide +kernel
theorem dX5_weather_88 : decode cX5_weather 88 = .ok (.lconst 1, 1) := by decide +kernel
theorem dX5_weather_89 : decode cX5_weather 89 = .ok (.lstore 6, 2) := by decide +kernel
theorem dX5_weather_91 : decode cX5_weather 91 = .ok (.iconst 1, 1) := by decide +kernel
theorem dX5_weather_92 : decode cX5_weather 92 = .ok (.istore 8, 2) := by decide +kernel
theorem dX5_weather_94 : decode cX5_weather 94 = .ok (.iconst 1, 1) := by decide +kernel
theorem dX5_weather_95 : decode cX5_weather 95 = .ok (.istore 9, 2) := by decide +kernel
theorem dX5_weather_97 : decode cX5_weather 97 = .ok (.iload 9, 2) := by decide +kernel
theorem dX5_weather_99 : decode cX5_weather 99 = .ok (.iload_n 2, 1) := by decide +kernel
theorem dX5_weather_100 : decode cX5_weather 100 = .ok (.if_icmp .gt 169, 3) := by decide +kernel
theorem dX5_weather_103 : decode cX5_weather 103 = .ok (.lload 6, 2) := by decide +kernel
theorem dX5_weather_105 : decode cX5_weather 105 = .ok (.ldc2_w 238, 3) := by decide +kernel
theorem dX5_weather_108 : decode cX5_weather 108 = .ok (.lmul, 1) := by decide +kernel
theorem dX5_weather_109 : decode cX5_weather 109 = .ok (.lstore 6, 2) := by decide +kernel
theorem dX5_weather_111 : decode cX5_weather 111 = .ok (.iconst 0, 1) := by decide +kernel
theorem dX5_weather_112 : decode cX5_weather 112 = .ok (.istore 10, 2) := by decide +kernel
theorem dX5_weather_114 : decode cX5_weather 114 = .ok (.iload 10, 2) := by decide +kernel
theorem dX5_weather_116 : decode cX5_weather 116 = .ok (.bipush 48, 2) := by decide +kernel
theorem dX5_weather_118 : decode cX5_weather 118 = .ok (.iload 9, 2) := by decide +kernel
theorem dX5_weather_120 : decode cX5_weather 120 = .ok (.isub, 1) := by decide +kernel
theorem dX5_weather_121 : decode cX5_weather 121 = .ok (.if_icmp .gt 109, 3) := by decide +kernel
theorem dX5_weather_124 : decode cX5_weather 124 = .ok (.iload_n 3, 1) := by decide +kernel
theorem dX5_weather_125 : decode cX5_weather 125 = .ok (.i2l, 1) := by decide +kernel
theorem dX5_weather_126 : decode cX5_weather 126 = .ok (.aload_n 0, 1) := by decide +kernel
theorem dX5_weather_127 : decode cX5_weather 127 = .ok (.getfield 55, 3) := by decide +kernel
theorem dX5_weather_130 : decode cX5_weather 130 = .ok (.iload 10, 2) := by decide +kernel
theorem dX5_weather_132 : decode cX5_weather 132 = .ok (.iconst 1, 1) := by decide +kernel
theorem dX5_weather_133 : decode cX5_weather 133 = .ok (.iadd, 1) := by decide +kernel
theorem dX5_weather_134 : decode cX5_weather 134 = .ok (.laload, 1) := by decide +kernel
theorem dX5_weather_135 : decode cX5_weather 135 = .ok (.lmul, 1) := by decide +kernel
theorem dX5_weather_136 : decode cX5_weather 136 = .ok (.ldc2_w 238, 3) := by decide +kernel
theorem dX5_weather_139 : decode cX5_weather 139 = .ok (.iload_n 3, 1) := by decide +kernel
theorem dX5_weather_140 : decode cX5_weather 140 = .ok (.i2l, 1) := by decide +kernel
theorem dX5_weather_141 : decode cX5_weather 141 = .ok (.lsub, 1) := by decide +kernel
theorem dX5_weather_142 : decode cX5_weather 142 = .ok (.aload_n 0, 1) := by decide +kernel
theorem dX5_weather_143 : decode cX5_weather 143 = .ok (.getfield 55, 3) := by decide +kernel
theorem dX5_weather_146 : decode cX5_weather 146 = .ok (.iload 10, 2) := by decide +kernel
theorem dX5_weather_148 : decode cX5_weather 148 = .ok (.ifCond .le 10, 3) := by decide +kernel
theorem dX5_weather_151 : decode cX5_weather 151 = .ok (.iload 10, 2) := by decide +kernel
theorem dX5_weather_153 : decode cX5_weather 153 = .ok (.iconst 1, 1) := by decide +kernel
theorem dX5_weather_154 : decode cX5_weather 154 = .ok (.isub, 1) := by decide +kernel
theorem dX5_weather_155 : decode cX5_weather 155 = .ok (.goto 4, 3) := by decide +kernel
theorem dX5_weather_158 : decode cX5_weather 158 = .ok (.iconst 0, 1) := by decide +kernel
theorem dX5_weather_159 : decode cX5_weather 159 = .ok (.laload, 1) := by decide +kernel
theorem dX5_weather_160 : decode cX5_weather 160 = .ok (.lmul, 1) := by decide +kernel
theorem dX5_weather_161 : decode cX5_weather 161 = .ok (.ladd, 1) := by decide +kernel
theorem dX5_weather_162 : decode cX5_weather 162 = .ok (.lstore 11, 2) := by decide +kernel
theorem dX5_weather_164 : decode cX5_weather 164 = .ok (.iload 10, 2) := by decide +kernel
theorem dX5_weather_166 : decode cX5_weather 166 = .ok (.iload_n 1, 1) := by decide +kernel
theorem dX5_weather_167 : decode cX5_weather 167 = .ok (.if_icmp .ne 23, 3) := by decide +kernel
theorem dX5_weather_170 : decode cX5_weather 170 = .ok (.iload 10, 2) := by decide +kernel
theorem dX5_weather_172 : decode cX5_weather 172 = .ok (.i2l, 1) := by decide +kernel
theorem dX5_weather_173 : decode cX5_weather 173 = .ok (.lload 6, 2) := by decide +kernel
theorem dX5_weather_175 : decode cX5_weather 175 = .ok (.lmul, 1) := by decide +kernel
theorem dX5_weather_176 : decode cX5_weather 176 = .ok (.lload 11, 2) := by decide +kernel
theorem dX5_weather_178 : decode cX5_weather 178 = .ok (.lcmp, 1) := by decide +kernel
theorem dX5_weather_179 : decode cX5_weather 179 = .ok (.ifCond .lt 7, 3) := by decide +kernel
theorem dX5_weather_182 : decode cX5_weather 182 = .ok (.iconst 1, 1) := by decide +kernel
theorem dX5_weather_183 : decode cX5_weather 183 = .ok (.goto 9, 3) := by decide +kernel
theorem dX5_weather_186 : decode cX5_weather 186 = .ok (.iconst 0, 1) := by decide +kernel
theorem dX5_weather_187 : decode cX5_weather 187 = .ok (.goto 5, 3) := by decide +kernel
theorem dX5_weather_190 : decode cX5_weather 190 = .ok (.iload 8, 2) := by decide +kernel
theorem dX5_weather_192 : decode cX5_weather 192 = .ok (.istore 8, 2) := by decide +kernel
theorem dX5_weather_194 : decode cX5_weather 194 = .ok (.aload_n 0, 1) := by decide +kernel
theorem dX5_weather_195 : decode cX5_weather 195 = .ok (.getfield 59, 3) := by decide +kernel
theorem dX5_weather_198 : decode cX5_weather 198 = .ok (.iload 10, 2) := by decide +kernel
theorem dX5_weather_200 : decode cX5_weather 200 = .ok (.iload 10, 2) := by decide +kernel
theorem dX5_weather_202 : decode cX5_weather 202 = .ok (.i2l, 1) := by decide +kernel
theorem dX5_weather_203 : decode cX5_weather 203 = .ok (.lload 6, 2) := by decide +kernel
theorem dX5_weather_205 : decode cX5_weather 205 = .ok (.lmul, 1) := by decide +kernel
theorem dX5_weather_206 : decode cX5_weather 206 = .ok (.lload 11, 2) := by decide +kernel
theorem dX5_weather_208 : decode cX5_weather 208 = .ok (.lcmp, 1) := by decide +kernel
theorem dX5_weather_209 : decode cX5_weather 209 = .ok (.ifCond .lt 12, 3) := by decide +kernel
theorem dX5_weather_212 : decode cX5_weather 212 = .ok (.iload 10, 2) := by decide +kernel
theorem dX5_weather_214 : decode cX5_weather 214 = .ok (.i2l, 1) := by decide +kernel
theorem dX5_weather_215 : decode cX5_weather 215 = .ok (.lload 6, 2) := by decide +kernel
theorem dX5_weather_217 : decode cX5_weather 217 = .ok (.lmul, 1) := by decide +kernel
theorem dX5_weather_218 : decode cX5_weather 218 = .ok (.goto 5, 3) := by decide +kernel
theorem dX5_weather_221 : decode cX5_weather 221 = .ok (.lload 11, 2) := by decide +kernel
theorem dX5_weather_223 : decode cX5_weather 223 = .ok (.lastore, 1) := by decide +kernel
theorem dX5_weather_224 : decode cX5_weather 224 = .ok (.iinc 10 1, 3) := by decide +kernel
theorem dX5_weather_227 : decode cX5_weather 227 = .ok (.goto (-113), 3) := by decide +kernel
theorem dX5_weather_230 : decode cX5_weather 230 = .ok (.iconst 0, 1) := by decide +kernel
theorem dX5_weather_231 : decode cX5_weather 231 = .ok (.istore 10, 2) := by decide +kernel
theorem dX5_weather_233 : decode cX5_weather 233 = .ok (.iload 10, 2) := by decide +kernel
theorem dX5_weather_235 : decode cX5_weather 235 = .ok (.bipush 48, 2) := by decide +kernel
theorem dX5_weather_237 : decode cX5_weather 237 = .ok (.iload 9, 2) := by decide +kernel
theorem dX5_weather_239 : decode cX5_weather 239 = .ok (.isub, 1) := by decide +kernel
theorem dX5_weather_240 : decode cX5_weather 240 = .ok (.if_icmp .gt 23, 3) := by decide +kernel
theorem dX5_weather_243 : decode cX5_weather 243 = .ok (.aload_n 0, 1) := by decide +kernel
theorem dX5_weather_244 : decode cX5_weather 244 = .ok (.getfield 55, 3) := by decide +kernel
theorem dX5_weather_247 : decode cX5_weather 247 = .ok (.iload 10, 2) := by decide +kernel
theorem dX5_weather_249 : decode cX5_weather 249 = .ok (.aload_n 0, 1) := by decide +kernel
theorem dX5_weather_250 : decode cX5_weather 250 = .ok (.getfield 59, 3) := by decide +kernel
theorem dX5_weather_253 : decode cX5_weather 253 = .ok (.iload 10, 2) := by decide +kernel
theorem dX5_weather_255 : decode cX5_weather 255 = .ok (.laload, 1) := by decide +kernel
theorem dX5_weather_256 : decode cX5_weather 256 = .ok (.lastore, 1) := by decide +kernel
theorem dX5_weather_257 : decode cX5_weather 257 = .ok (.iinc 10 1, 3) := by decide +kernel
theorem dX5_weather_260 : decode cX5_weather 260 = .ok (.goto (-27), 3) := by decide +kernel
theorem dX5_weather_263 : decode cX5_weather 263 = .ok (.iinc 9 1, 3) := by decide +kernel
theorem dX5_weather_266 : decode cX5_weather 266 = .ok (.goto (-169), 3) := by decide +kernel
theorem dX5_weather_269 : decode cX5_weather 269 = .ok (.iload 4, 2) := by decide +kernel
theorem dX5_weather_271 : decode cX5_weather 271 = .ok (.iconst 1, 1) := by decide +kernel
theorem dX5_weather_272 : decode cX5_weather 272 = .ok (.if_icmp .ne 16, 3) := by decide +kernel
theorem dX5_weather_275 : decode cX5_weather 275 = .ok (.iload 8, 2) := by decide +kernel
theorem dX5_weather_277 : decode cX5_weather 277 = .ok (.ifCond .eq 7, 3) := by decide +kernel
theorem dX5_weather_280 : decode cX5_weather 280 = .ok (.lconst 1, 1) := by decide +kernel
theorem dX5_weather_281 : decode cX5_weather 281 = .ok (.goto 20, 3) := by decide +kernel
theorem dX5_weather_284 : decode cX5_weather 284 = .ok (.lconst 0, 1) := by decide +kernel
theorem dX5_weather_285 : decode cX5_weather 285 = .ok (.goto 16, 3) := by decide +kernel
theorem dX5_weather_288 : decode cX5_weather 288 = .ok (.aload_n 0, 1) := by decide +kernel
theorem dX5_weather_289 : decode cX5_weather 289 = .ok (.getfield 55, 3) := by decide +kernel
theorem dX5_weather_292 : decode cX5_weather 292 = .ok (.iload_n 1, 1) := by decide +kernel
theorem dX5_weather_293 : decode cX5_weather 293 = .ok (.laload, 1) := by decide +kernel
theorem dX5_weather_294 : decode cX5_weather 294 = .ok (.lload 6, 2) := by decide +kernel
theorem dX5_weather_296 : decode cX5_weather 296 = .ok (.iload 5, 2) := by decide +kernel
theorem dX5_weather_298 : decode cX5_weather 298 = .ok (.invokestatic 242, 3) := by decide +kernel
theorem dX5_weather_301 : decode cX5_weather 301 = .ok (.lreturn, 1) := by decide +kernel
set_option maxRecDepth 20000 in
theorem ggX5_synonyms_X5_in : GoodIn wsX5_synonyms wsX5_in := goodIn_r _ [8] (by decide +kernel) (by decide +kernel)
set_option maxRecDepth 20000 in
theorem gX5_synonyms_X5_in : GoodIn wsX5_synonyms (va_wsS RX5 71 yX5_in wsX5_in) := goodIn_app (goodIn_of _ (by decide +kernel)) ggX5_synonyms_X5_in
theorem dX5_synonyms_0 : decode cX5_synonyms 0 = .ok (.iload_n 1, 1) := by decide +kernel
theorem dX5_synonyms_1 : decode cX5_synonyms 1 = .ok (.i2l, 1) := by decide +kernel
theorem dX5_synonyms_2 : decode cX5_synonyms 2 = .ok (.lconst 0, 1) := by decide +kernel
theorem dX5_synonyms_3 : decode cX5_synonyms 3 = .ok (.ldc2_w 236, 3) := by decide +kernel
theorem dX5_synonyms_6 : decode cX5_synonyms 6 = .ok (.invokestatic 71, 3) := by decide +kernel
theorem dX5_synonyms_9 : decode cX5_synonyms 9 = .ok (.ifCond .eq 45, 3) := by decide +kernel
theorem dX5_synonyms_12 : decode cX5_synonyms 12 = .ok (.iload_n 2, 1) := by decide +kernel
theorem dX5_synonyms_13 : decode cX5_synonyms 13 = .ok (.i2l, 1) := by decide +kernel
theorem dX5_synonyms_14 : decode cX5_synonyms 14 = .ok (.lconst 0, 1) := by decide +kernel
theorem dX5_synonyms_15 : decode cX5_synonyms 15 = .ok (.ldc2_w 246, 3) := by decide +kernel
theorem dX5_synonyms_18 : decode cX5_synonyms 18 = .ok (.invokestatic 71, 3) := by decide +kernel
theorem dX5_synonyms_21 : decode cX5_synonyms 21 = .ok (.ifCond .eq 33, 3) := by decide +kernel
theorem dX5_synonyms_24 : decode cX5_synonyms 24 = .ok (.iload_n 3, 1) := by decide +kernel
theorem dX5_synonyms_25 : decode cX5_synonyms 25 = .ok (.i2l, 1) := by decide +kernel
theorem dX5_synonyms_26 : decode cX5_synonyms 26 = .ok (.iload_n 2, 1) := by decide +kernel
theorem dX5_synonyms_27 : decode cX5_synonyms 27 = .ok (.i2l, 1) := by decide +kernel
theorem dX5_synonyms_28 : decode cX5_synonyms 28 = .ok (.lconst 1, 1) := by decide +kernel
theorem dX5_synonyms_29 : decode cX5_synonyms 29 = .ok (.ladd, 1) := by decide +kernel
theorem dX5_synonyms_30 : decode cX5_synonyms 30 = .ok (.ldc2_w 236, 3) := by decide +kernel
theorem dX5_synonyms_33 : decode cX5_synonyms 33 = .ok (.invokestatic 71, 3) := by decide +kernel
theorem dX5_synonyms_36 : decode cX5_synonyms 36 = .ok (.ifCond .eq 18, 3) := by decide +kernel
theorem dX5_synonyms_39 : decode cX5_synonyms 39 = .ok (.iload 4, 2) := by decide +kernel
theorem dX5_synonyms_41 : decode cX5_synonyms 41 = .ok (.i2l, 1) := by decide +kernel
theorem dX5_synonyms_42 : decode cX5_synonyms 42 = .ok (.ldc2_w 196, 3) := by decide +kernel
theorem dX5_synonyms_45 : decode cX5_synonyms 45 = .ok (.ldc2_w 81, 3) := by decide +kernel
theorem dX5_synonyms_48 : decode cX5_synonyms 48 = .ok (.invokestatic 71, 3) := by decide +kernel
theorem dX5_synonyms_51 : decode cX5_synonyms 51 = .ok (.ifCond .ne 6, 3) := by decide +kernel
theorem dX5_synonyms_54 : decode cX5_synonyms 54 = .ok (.bipush (-2), 2) := by decide +kernel
theorem dX5_synonyms_56 : decode cX5_synonyms 56 = .ok (.ireturn, 1) := by decide +kernel
theorem dX5_synonyms_57 : decode cX5_synonyms 57 = .ok (.iload 4, 2) := by decide +kernel
theorem dX5_synonyms_59 : decode cX5_synonyms 59 = .ok (.iconst (-1), 1) := by decide +kernel
theorem dX5_synonyms_60 : decode cX5_synonyms 60 = .ok (.if_icmp .ne 7, 3) := by decide +kernel
theorem dX5_synonyms_63 : decode cX5_synonyms 63 = .ok (.iload_n 3, 1) := by decide +kernel
theorem dX5_synonyms_64 : decode cX5_synonyms 64 = .ok (.iload_n 2, 1) := by decide +kernel
theorem dX5_synonyms_65 : decode cX5_synonyms 65 = .ok (.isub, 1) := by decide +kernel
theorem dX5_synonyms_66 : decode cX5_synonyms 66 = .ok (.ireturn, 1) := by decide +kernel
theorem dX5_synonyms_67 : decode cX5_synonyms 67 = .ok (.iload_n 1, 1) := by decide +kernel
theorem dX5_synonyms_68 : decode cX5_synonyms 68 = .ok (.istore 5, 2) := by decide +kernel
theorem dX5_synonyms_70 : decode cX5_synonyms 70 = .ok (.iconst 0, 1) := by decide +kernel
theorem dX5_synonyms_71 : decode cX5_synonyms 71 = .ok (.istore 6, 2) := by decide +kernel
theorem dX5_synonyms_73 : decode cX5_synonyms 73 = .ok (.iload 6, 2) := by decide +kernel
theorem dX5_synonyms_75 : decode cX5_synonyms 75 = .ok (.iload 4, 2) := by decide +kernel
theorem dX5_synonyms_77 : decode cX5_synonyms 77 = .ok (.if_icmp .ge 27, 3) := by decide +kernel
theorem dX5_synonyms_80 : decode cX5_synonyms 80 = .ok (.iload 5, 2) := by decide +kernel
theorem dX5_synonyms_82 : decode cX5_synonyms 82 = .ok (.iconst 1, 1) := by decide +kernel
theorem dX5_synonyms_83 : decode cX5_synonyms 83 = .ok (.isub, 1) := by decide +kernel
theorem dX5_synonyms_84 : decode cX5_synonyms 84 = .ok (.iload_n 2, 1) := by decide +kernel
theorem dX5_synonyms_85 : decode cX5_synonyms 85 = .ok (.if_icmp .le 10, 3) := by decide +kernel
theorem dX5_synonyms_88 : decode cX5_synonyms 88 = .ok (.iload 5, 2) := by decide +kernel
theorem dX5_synonyms_90 : decode cX5_synonyms 90 = .ok (.iconst 1, 1) := by decide +kernel
theorem dX5_synonyms_91 : decode cX5_synonyms 91 = .ok (.isub, 1) := by decide +kernel
theorem dX5_synonyms_92 : decode cX5_synonyms 92 = .ok (.goto 4, 3) := by decide +kernel
theorem dX5_synonyms_95 : decode cX5_synonyms 95 = .ok (.iload_n 3, 1) := by decide +kernel
theorem dX5_synonyms_96 : decode cX5_synonyms 96 = .ok (.istore 5, 2) := by decide +kernel
theorem dX5_synonyms_98 : decode cX5_synonyms 98 = .ok (.iinc 6 1, 3) := by decide +kernel
theorem dX5_synonyms_101 : decode cX5_synonyms 101 = .ok (.goto (-28), 3) := by decide +kernel
theorem dX5_synonyms_104 : decode cX5_synonyms 104 = .ok (.iload 5, 2) := by decide +kernel
theorem dX5_synonyms_106 : decode cX5_synonyms 106 = .ok (.ireturn, 1) := by decide +kernel
theorem dX5_actBy_0 : decode cX5_actBy 0 = .ok (.iload_n 0, 1) := by decide +kernel
theorem dX5_actBy_1 : decode cX5_actBy 1 = .ok (.iconst 2, 1) := by decide +kernel
theorem dX5_actBy_2 : decode cX5_actBy 2 = .ok (.if_icmp .ge 7, 3) := by decide +kernel
theorem dX5_actBy_5 : decode cX5_actBy 5 = .ok (.iconst 0, 1) := by decide +kernel
theorem dX5_actBy_6 : decode cX5_actBy 6 = .ok (.goto 22, 3) := by decide +kernel
theorem dX5_actBy_9 : decode cX5_actBy 9 = .ok (.iload_n 0, 1) := by decide +kernel
theorem dX5_actBy_10 : decode cX5_actBy 10 = .ok (.iconst 4, 1) := by decide +kernel
theorem dX5_actBy_11 : decode cX5_actBy 11 = .ok (.if_icmp .ge 7, 3) := by decide +kernel
theorem dX5_actBy_14 : decode cX5_actBy 14 = .ok (.iconst 2, 1) := by decide +kernel
theorem dX5_actBy_15 : decode cX5_actBy 15 = .ok (.goto 13, 3) := by decide +kernel
theorem dX5_actBy_18 : decode cX5_actBy 18 = .ok (.iload_n 0, 1) := by decide +kernel
theorem dX5_actBy_19 : decode cX5_actBy 19 = .ok (.iconst 4, 1) := by decide +kernel
theorem dX5_actBy_20 : decode cX5_actBy 20 = .ok (.if_icmp .ne 7, 3) := by decide +kernel
theorem dX5_actBy_23 : decode cX5_actBy 23 = .ok (.iconst 1, 1) := by decide +kernel
theorem dX5_actBy_24 : decode cX5_actBy 24 = .ok (.goto 4, 3) := by decide +kernel
theorem dX5_actBy_27 : decode cX5_actBy 27 = .ok (.iconst 3, 1) := by decide +kernel
theorem dX5_actBy_28 : decode cX5_actBy 28 = .ok (.ireturn, 1) := by decide +kernel
set_option maxRecDepth 20000 in
theorem ggX5_year_X5_in : GoodIn wsX5_year wsX5_in := goodIn_r _ [12] (by decide +kernel) (by decide +kernel)
set_option maxRecDepth 20000 in
theorem gX5_year_X5_in : GoodIn wsX5_year (va_wsS RX5 71 yX5_in wsX5_in) := goodIn_app (goodIn_of _ (by decide +kernel)) ggX5_year_X5_in
set_option maxRecDepth 20000 in
theorem ggX5_year_X5_keepNow : GoodIn wsX5_year wsX5_keepNow := goodIn_r _ [16, 17, 18, 7, 8, 64, 65, 66, 67, 68, 69, 70, 71, 72, 73, 74, 75, 76, 77, 78, 79, 80, 81, 82, 83, 84, 85, 86, 87, 88, 89, 90, 91, 92, 93, 94, 95, 96] (by decide +kernel) (by decide +kernel)
set_option maxRecDepth 20000 in
theorem gX5_year_X5_keepNow : GoodIn wsX5_year (wsV RX5 181 RX5 yX5_keepNow wsX5_keepNow) := goodIn_app (goodIn_of _ (by decide +kernel)) ggX5_year_X5_keepNow
set_option maxRecDepth 20000 in
theorem ggX5_year_X5_beginCount : GoodIn wsX5_year wsX5_beginCount := goodIn_r _ [22, 23, 24, 25, 26, 27, 28, 64, 65, 66, 67, 68, 69, 70, 71, 72, 73, 74, 75, 76, 77, 78, 79, 80, 81, 82, 83, 84, 85, 86, 87, 88, 89, 90, 91, 92, 93, 94, 95, 96] (by decide +kernel) (by decide +kernel)
set_option maxRecDepth 20000 in
theorem gX5_year_X5_beginCount : GoodIn wsX5_year (wsV RX5 164 RX5 yX5_beginCount wsX5_beginCount) := goodIn_app (goodIn_of _ (by decide +kernel)) ggX5_year_X5_beginCount
set_option maxRecDepth 20000 in
theorem ggX5_year_X5_actBy : GoodIn wsX5_year wsX5_actBy := goodIn_r _ [31] (by decide +kernel) (by decide +kernel)
set_option maxRecDepth 20000 in
theorem gX5_year_X5_actBy : GoodIn wsX5_year (va_wsS RX5 256 yX5_actBy wsX5_actBy) := goodIn_app (goodIn_of _ (by decide +kernel)) ggX5_year_X5_actBy
set_option maxRecDepth 20000 in
theorem ggX5_year_X5_whyNot : GoodIn wsX5_year wsX5_whyNot := goodIn_r _ [35, 7, 18, 27, 36, 37, 38, 11, 39, 8, 64, 65, 66, 67, 68, 69, 70, 71, 72, 73, 74, 75, 76, 77, 78, 79, 80, 81, 82, 83, 84, 85, 86, 87, 88, 89, 90, 91, 92, 93, 94, 95, 96] (by decide +kernel) (by decide +kernel)
set_option maxRecDepth 20000 in
theorem gX5_year_X5_whyNot : GoodIn wsX5_year (wsV RX5 173 RX5 yX5_whyNot wsX5_whyNot) := goodIn_app (goodIn_of _ (by decide +kernel)) ggX5_year_X5_whyNot
set_option maxRecDepth 20000 in
theorem ggX5_year_X5_happen : GoodIn wsX5_year wsX5_happen := goodIn_r _ [43, 7, 18, 8, 23, 27, 28, 44, 45, 46, 11, 47, 24, 48, 25, 26, 49, 50, 51, 52, 64, 65, 66, 67, 68, 69, 70, 71, 72, 73, 74, 75, 76, 77, 78, 79, 80, 81, 82, 83, 84, 85, 86, 87, 88, 89, 90, 91, 92, 93, 94, 95, 96] (by decide +kernel) (by decide +kernel)
set_option maxRecDepth 20000 in
theorem gX5_year_X5_happen : GoodIn wsX5_year (wsV RX5 177 RX5 yX5_happen wsX5_happen) := goodIn_app (goodIn_of _ (by decide +kernel)) ggX5_year_X5_happen
set_option maxRecDepth 20000 in
theorem ggX5_year_X5_ones : GoodIn wsX5_year wsX5_ones := goodIn_r _ [55] (by decide +kernel) (by decide +kernel)
set_option maxRecDepth 20000 in
theorem gX5_year_X5_ones : GoodIn wsX5_year (va_wsS RX5 89 yX5_ones wsX5_ones) := goodIn_app (goodIn_of _ (by decide +kernel)) ggX5_year_X5_ones
set_option maxRecDepth 20000 in
theorem ggX5_year_X5_costOf : GoodIn wsX5_year wsX5_costOf := goodIn_r _ [59, 18, 64, 65, 66, 67, 68, 69, 70, 71, 72, 73, 74, 75, 76, 77, 78, 79, 80, 81, 82, 83, 84, 85, 86, 87, 88, 89, 90, 91, 92, 93, 94, 95, 96] (by decide +kernel) (by decide +kernel)
set_option maxRecDepth 20000 in
theorem gX5_year_X5_costOf : GoodIn wsX5_year (wsV RX5 212 RX5 yX5_costOf wsX5_costOf) := goodIn_app (goodIn_of _ (by decide +kernel)) ggX5_year_X5_costOf
set_option maxRecDepth 20000 in
theorem ggX5_year_X5_back : GoodIn wsX5_year wsX5_back := goodIn_r _ [63, 18, 17, 7, 8, 64, 65, 66, 67, 68, 69, 70, 71, 72, 73, 74, 75, 76, 77, 78, 79, 80, 81, 82, 83, 84, 85, 86, 87, 88, 89, 90, 91, 92, 93, 94, 95, 96] (by decide +kernel) (by decide +kernel)
set_option maxRecDepth 20000 in
theorem gX5_year_X5_back : GoodIn wsX5_year (wsV RX5 193 RX5 yX5_back wsX5_back) := goodIn_app (goodIn_of _ (by decide +kernel)) ggX5_year_X5_back
theorem dX5_year_0 : decode cX5_year 0 = .ok (.iload_n 1, 1) := by decide +kernel
theorem dX5_year_1 : decode cX5_year 1 = .ok (.i2l, 1) := by decide +kernel
theorem dX5_year_2 : decode cX5_year 2 = .ok (.lconst 0, 1) := by decide +kernel
theorem dX5_year_3 : decode cX5_year 3 = .ok (.ldc2_w 248, 3) := by decide +kernel
theorem dX5_year_6 : decode cX5_year 6 = .ok (.invokestatic 71, 3) := by decide +kernel
theorem dX5_year_9 : decode cX5_year 9 = .ok (.ifCond .eq 27, 3) := by decide +kernel
theorem dX5_year_12 : decode cX5_year 12 = .ok (.iload_n 2, 1) := by decide +kernel
theorem dX5_year_13 : decode cX5_year 13 = .ok (.i2l, 1) := by decide +kernel
theorem dX5_year_14 : decode cX5_year 14 = .ok (.lconst 1, 1) := by decide +kernel
theorem dX5_year_15 : decode cX5_year 15 = .ok (.ldc2_w 81, 3) := by decide +kernel
theorem dX5_year_18 : decode cX5_year 18 = .ok (.invokestatic 71, 3) := by decide +kernel
theorem dX5_year_21 : decode cX5_year 21 = .ok (.ifCond .eq 15, 3) := by decide +kernel
theorem dX5_year_24 : decode cX5_year 24 = .ok (.iload_n 3, 1) := by decide +kernel
theorem dX5_year_25 : decode cX5_year 25 = .ok (.i2l, 1) := by decide +kernel
theorem dX5_year_26 : decode cX5_year 26 = .ok (.lconst 0, 1) := by decide +kernel
theorem dX5_year_27 : decode cX5_year 27 = .ok (.ldc2_w 83, 3) := by decide +kernel
theorem dX5_year_30 : decode cX5_year 30 = .ok (.invokestatic 71, 3) := by decide +kernel
theorem dX5_year_33 : decode cX5_year 33 = .ok (.ifCond .ne 6, 3) := by decide +kernel
theorem dX5_year_36 : decode cX5_year 36 = .ok (.bipush (-2), 2) := by decide +kernel
theorem dX5_year_38 : decode cX5_year 38 = .ok (.ireturn, 1) := by decide +kernel
theorem dX5_year_39 : decode cX5_year 39 = .ok (.aload_n 0, 1) := by decide +kernel
theorem dX5_year_40 : decode cX5_year 40 = .ok (.invokevirtual 181, 3) := by decide +kernel
theorem dX5_year_43 : decode cX5_year 43 = .ok (.aload_n 0, 1) := by decide +kernel
theorem dX5_year_44 : decode cX5_year 44 = .ok (.invokevirtual 164, 3) := by decide +kernel
theorem dX5_year_47 : decode cX5_year 47 = .ok (.iload_n 1, 1) := by decide +kernel
theorem dX5_year_48 : decode cX5_year 48 = .ok (.istore 4, 2) := by decide +kernel
theorem dX5_year_50 : decode cX5_year 50 = .ok (.iconst 0, 1) := by decide +kernel
theorem dX5_year_51 : decode cX5_year 51 = .ok (.istore 5, 2) := by decide +kernel
theorem dX5_year_53 : decode cX5_year 53 = .ok (.iload 5, 2) := by decide +kernel
theorem dX5_year_55 : decode cX5_year 55 = .ok (.iload_n 2, 1) := by decide +kernel
theorem dX5_year_56 : decode cX5_year 56 = .ok (.if_icmp .ge 92, 3) := by decide +kernel
theorem dX5_year_59 : decode cX5_year 59 = .ok (.ldc2_w 250, 3) := by decide +kernel
theorem dX5_year_62 : decode cX5_year 62 = .ok (.iload 4, 2) := by decide +kernel
theorem dX5_year_64 : decode cX5_year 64 = .ok (.i2l, 1) := by decide +kernel
theorem dX5_year_65 : decode cX5_year 65 = .ok (.lmul, 1) := by decide +kernel
theorem dX5_year_66 : decode cX5_year 66 = .ok (.ldc2_w 252, 3) := by decide +kernel
theorem dX5_year_69 : decode cX5_year 69 = .ok (.ladd, 1) := by decide +kernel
theorem dX5_year_70 : decode cX5_year 70 = .ok (.ldc2_w 254, 3) := by decide +kernel
theorem dX5_year_73 : decode cX5_year 73 = .ok (.lrem, 1) := by decide +kernel
theorem dX5_year_74 : decode cX5_year 74 = .ok (.l2i, 1) := by decide +kernel
theorem dX5_year_75 : decode cX5_year 75 = .ok (.istore 4, 2) := by decide +kernel
theorem dX5_year_77 : decode cX5_year 77 = .ok (.iload 4, 2) := by decide +kernel
theorem dX5_year_79 : decode cX5_year 79 = .ok (.bipush 48, 2) := by decide +kernel
theorem dX5_year_81 : decode cX5_year 81 = .ok (.idiv, 1) := by decide +kernel
theorem dX5_year_82 : decode cX5_year 82 = .ok (.bipush 6, 2) := by decide +kernel
theorem dX5_year_84 : decode cX5_year 84 = .ok (.irem, 1) := by decide +kernel
theorem dX5_year_85 : decode cX5_year 85 = .ok (.invokestatic 256, 3) := by decide +kernel
theorem dX5_year_88 : decode cX5_year 88 = .ok (.istore 6, 2) := by decide +kernel
theorem dX5_year_90 : decode cX5_year 90 = .ok (.iload 4, 2) := by decide +kernel
theorem dX5_year_92 : decode cX5_year 92 = .ok (.iconst 4, 1) := by decide +kernel
theorem dX5_year_93 : decode cX5_year 93 = .ok (.irem, 1) := by decide +kernel
theorem dX5_year_94 : decode cX5_year 94 = .ok (.istore 7, 2) := by decide +kernel
theorem dX5_year_96 : decode cX5_year 96 = .ok (.iload 4, 2) := by decide +kernel
theorem dX5_year_98 : decode cX5_year 98 = .ok (.iconst 4, 1) := by decide +kernel
theorem dX5_year_99 : decode cX5_year 99 = .ok (.idiv, 1) := by decide +kernel
theorem dX5_year_100 : decode cX5_year 100 = .ok (.bipush 12, 2) := by decide +kernel
theorem dX5_year_102 : decode cX5_year 102 = .ok (.irem, 1) := by decide +kernel
theorem dX5_year_103 : decode cX5_year 103 = .ok (.istore 8, 2) := by decide +kernel
theorem dX5_year_105 : decode cX5_year 105 = .ok (.iload 4, 2) := by decide +kernel
theorem dX5_year_107 : decode cX5_year 107 = .ok (.sipush 288, 3) := by decide +kernel
theorem dX5_year_110 : decode cX5_year 110 = .ok (.idiv, 1) := by decide +kernel
theorem dX5_year_111 : decode cX5_year 111 = .ok (.iconst 4, 1) := by decide +kernel
theorem dX5_year_112 : decode cX5_year 112 = .ok (.irem, 1) := by decide +kernel
theorem dX5_year_113 : decode cX5_year 113 = .ok (.istore 9, 2) := by decide +kernel
theorem dX5_year_115 : decode cX5_year 115 = .ok (.aload_n 0, 1) := by decide +kernel
theorem dX5_year_116 : decode cX5_year 116 = .ok (.iload 6, 2) := by decide +kernel
theorem dX5_year_118 : decode cX5_year 118 = .ok (.iload 7, 2) := by decide +kernel
theorem dX5_year_120 : decode cX5_year 120 = .ok (.iload 8, 2) := by decide +kernel
theorem dX5_year_122 : decode cX5_year 122 = .ok (.iload 9, 2) := by decide +kernel
theorem dX5_year_124 : decode cX5_year 124 = .ok (.invokevirtual 173, 3) := by decide +kernel
theorem dX5_year_127 : decode cX5_year 127 = .ok (.ifCond .ne 15, 3) := by decide +kernel
theorem dX5_year_130 : decode cX5_year 130 = .ok (.aload_n 0, 1) := by decide +kernel
theorem dX5_year_131 : decode cX5_year 131 = .ok (.iload 6, 2) := by decide +kernel
theorem dX5_year_133 : decode cX5_year 133 = .ok (.iload 7, 2) := by decide +kernel
theorem dX5_year_135 : decode cX5_year 135 = .ok (.iload 8, 2) := by decide +kernel
theorem dX5_year_137 : decode cX5_year 137 = .ok (.iload 9, 2) := by decide +kernel
theorem dX5_year_139 : decode cX5_year 139 = .ok (.invokevirtual 177, 3) := by decide +kernel
theorem dX5_year_142 : decode cX5_year 142 = .ok (.iinc 5 1, 3) := by decide +kernel
theorem dX5_year_145 : decode cX5_year 145 = .ok (.goto (-92), 3) := by decide +kernel
theorem dX5_year_148 : decode cX5_year 148 = .ok (.iconst 0, 1) := by decide +kernel
theorem dX5_year_149 : decode cX5_year 149 = .ok (.istore 5, 2) := by decide +kernel
theorem dX5_year_151 : decode cX5_year 151 = .ok (.iconst 0, 1) := by decide +kernel
theorem dX5_year_152 : decode cX5_year 152 = .ok (.istore 6, 2) := by decide +kernel
theorem dX5_year_154 : decode cX5_year 154 = .ok (.iload 6, 2) := by decide +kernel
theorem dX5_year_156 : decode cX5_year 156 = .ok (.iconst 4, 1) := by decide +kernel
theorem dX5_year_157 : decode cX5_year 157 = .ok (.if_icmp .ge 47, 3) := by decide +kernel
theorem dX5_year_160 : decode cX5_year 160 = .ok (.iload 5, 2) := by decide +kernel
theorem dX5_year_162 : decode cX5_year 162 = .ok (.iload_n 3, 1) := by decide +kernel
theorem dX5_year_163 : decode cX5_year 163 = .ok (.ifCond .ne 13, 3) := by decide +kernel
theorem dX5_year_166 : decode cX5_year 166 = .ok (.aload_n 0, 1) := by decide +kernel
theorem dX5_year_167 : decode cX5_year 167 = .ok (.getfield 19, 3) := by decide +kernel
theorem dX5_year_170 : decode cX5_year 170 = .ok (.iload 6, 2) := by decide +kernel
theorem dX5_year_172 : decode cX5_year 172 = .ok (.iaload, 1) := by decide +kernel
theorem dX5_year_173 : decode cX5_year 173 = .ok (.goto 22, 3) := by decide +kernel
theorem dX5_year_176 : decode cX5_year 176 = .ok (.iload_n 3, 1) := by decide +kernel
theorem dX5_year_177 : decode cX5_year 177 = .ok (.iconst 2, 1) := by decide +kernel
theorem dX5_year_178 : decode cX5_year 178 = .ok (.if_icmp .ne 16, 3) := by decide +kernel
theorem dX5_year_181 : decode cX5_year 181 = .ok (.aload_n 0, 1) := by decide +kernel
theorem dX5_year_182 : decode cX5_year 182 = .ok (.getfield 22, 3) := by decide +kernel
theorem dX5_year_185 : decode cX5_year 185 = .ok (.iload 6, 2) := by decide +kernel
theorem dX5_year_187 : decode cX5_year 187 = .ok (.iaload, 1) := by decide +kernel
theorem dX5_year_188 : decode cX5_year 188 = .ok (.invokestatic 89, 3) := by decide +kernel
theorem dX5_year_191 : decode cX5_year 191 = .ok (.goto 4, 3) := by decide +kernel
theorem dX5_year_194 : decode cX5_year 194 = .ok (.iconst 0, 1) := by decide +kernel
theorem dX5_year_195 : decode cX5_year 195 = .ok (.iadd, 1) := by decide +kernel
theorem dX5_year_196 : decode cX5_year 196 = .ok (.istore 5, 2) := by decide +kernel
theorem dX5_year_198 : decode cX5_year 198 = .ok (.iinc 6 1, 3) := by decide +kernel
theorem dX5_year_201 : decode cX5_year 201 = .ok (.goto (-47), 3) := by decide +kernel
theorem dX5_year_204 : decode cX5_year 204 = .ok (.iload_n 3, 1) := by decide +kernel
theorem dX5_year_205 : decode cX5_year 205 = .ok (.iconst 1, 1) := by decide +kernel
theorem dX5_year_206 : decode cX5_year 206 = .ok (.if_icmp .ne 13, 3) := by decide +kernel
theorem dX5_year_209 : decode cX5_year 209 = .ok (.aload_n 0, 1) := by decide +kernel
theorem dX5_year_210 : decode cX5_year 210 = .ok (.sipush 4095, 3) := by decide +kernel
theorem dX5_year_213 : decode cX5_year 213 = .ok (.invokevirtual 212, 3) := by decide +kernel
theorem dX5_year_216 : decode cX5_year 216 = .ok (.goto 5, 3) := by decide +kernel
theorem dX5_year_219 : decode cX5_year 219 = .ok (.iload 5, 2) := by decide +kernel
theorem dX5_year_221 : decode cX5_year 221 = .ok (.istore 6, 2) := by decide +kernel
theorem dX5_year_223 : decode cX5_year 223 = .ok (.aload_n 0, 1) := by decide +kernel
theorem dX5_year_224 : decode cX5_year 224 = .ok (.iload 6, 2) := by decide +kernel
theorem dX5_year_226 : decode cX5_year 226 = .ok (.invokevirtual 193, 3) := by decide +kernel
theorem dX5_year_229 : decode cX5_year 229 = .ok (.ireturn, 1) := by decide +kernel
theorem dX5_pass_0 : decode cX5_pass 0 = .ok (.aload_n 0, 1) := by decide +kernel
theorem dX5_pass_1 : decode cX5_pass 1 = .ok (.getfield 259, 3) := by decide +kernel
theorem dX5_pass_4 : decode cX5_pass 4 = .ok (.ifCond .eq 7, 3) := by decide +kernel
theorem dX5_pass_7 : decode cX5_pass 7 = .ok (.iload_n 1, 1) := by decide +kernel
theorem dX5_pass_8 : decode cX5_pass 8 = .ok (.goto 12, 3) := by decide +kernel
theorem dX5_pass_11 : decode cX5_pass 11 = .ok (.aload_n 0, 1) := by decide +kernel
theorem dX5_pass_12 : decode cX5_pass 12 = .ok (.getfield 62, 3) := by decide +kernel
theorem dX5_pass_15 : decode cX5_pass 15 = .ok (.aload_n 0, 1) := by decide +kernel
theorem dX5_pass_16 : decode cX5_pass 16 = .ok (.getfield 263, 3) := by decide +kernel
theorem dX5_pass_19 : decode cX5_pass 19 = .ok (.iaload, 1) := by decide +kernel
theorem dX5_pass_20 : decode cX5_pass 20 = .ok (.istore_n 2, 1) := by decide +kernel
theorem dX5_pass_21 : decode cX5_pass 21 = .ok (.aload_n 0, 1) := by decide +kernel
theorem dX5_pass_22 : decode cX5_pass 22 = .ok (.getfield 62, 3) := by decide +kernel
theorem dX5_pass_25 : decode cX5_pass 25 = .ok (.aload_n 0, 1) := by decide +kernel
theorem dX5_pass_26 : decode cX5_pass 26 = .ok (.getfield 263, 3) := by decide +kernel
theorem dX5_pass_29 : decode cX5_pass 29 = .ok (.iload_n 2, 1) := by decide +kernel
theorem dX5_pass_30 : decode cX5_pass 30 = .ok (.iastore, 1) := by decide +kernel
theorem dX5_pass_31 : decode cX5_pass 31 = .ok (.aload_n 0, 1) := by decide +kernel
theorem dX5_pass_32 : decode cX5_pass 32 = .ok (.dup, 1) := by decide +kernel
theorem dX5_pass_33 : decode cX5_pass 33 = .ok (.getfield 263, 3) := by decide +kernel
theorem dX5_pass_36 : decode cX5_pass 36 = .ok (.iconst 1, 1) := by decide +kernel
theorem dX5_pass_37 : decode cX5_pass 37 = .ok (.iadd, 1) := by decide +kernel
theorem dX5_pass_38 : decode cX5_pass 38 = .ok (.putfield 263, 3) := by decide +kernel
theorem dX5_pass_41 : decode cX5_pass 41 = .ok (.iload_n 2, 1) := by decide +kernel
theorem dX5_pass_42 : decode cX5_pass 42 = .ok (.ireturn, 1) := by decide +kernel
set_option maxRecDepth 20000 in
theorem ggX5_passRow_X5_pass : GoodIn wsX5_passRow wsX5_pass := goodIn_r _ [5, 6, 7, 8, 9, 10, 11, 12, 13, 14, 15, 16, 17, 18, 19, 20, 21, 22, 23, 24, 25, 26, 27, 28, 29, 30, 31, 32, 33, 34, 35, 36, 37, 38, 39, 40, 41] (by decide +kernel) (by decide +kernel)
set_option maxRecDepth 20000 in
theorem gX5_passRow_X5_pass : GoodIn wsX5_passRow (wsV RX5 266 RX5 yX5_pass wsX5_pass) := goodIn_app (goodIn_of _ (by decide +kernel)) ggX5_passRow_X5_pass
theorem dX5_passRow_0 : decode cX5_passRow 0 = .ok (.iconst 0, 1) := by decide +kernel
theorem dX5_passRow_1 : decode cX5_passRow 1 = .ok (.istore_n 3, 1) := by decide +kernel
theorem dX5_passRow_2 : decode cX5_passRow 2 = .ok (.iload_n 3, 1) := by decide +kernel
theorem dX5_passRow_3 : decode cX5_passRow 3 = .ok (.iload_n 2, 1) := by decide +kernel
theorem dX5_passRow_4 : decode cX5_passRow 4 = .ok (.if_icmp .ge 19, 3) := by decide +kernel
theorem dX5_passRow_7 : decode cX5_passRow 7 = .ok (.aload_n 1, 1) := by decide +kernel
theorem dX5_passRow_8 : decode cX5_passRow 8 = .ok (.iload_n 3, 1) := by decide +kernel
theorem dX5_passRow_9 : decode cX5_passRow 9 = .ok (.aload_n 0, 1) := by decide +kernel
theorem dX5_passRow_10 : decode cX5_passRow 10 = .ok (.aload_n 1, 1) := by decide +kernel
theorem dX5_passRow_11 : decode cX5_passRow 11 = .ok (.iload_n 3, 1) := by decide +kernel
theorem dX5_passRow_12 : decode cX5_passRow 12 = .ok (.iaload, 1) := by decide +kernel
theorem dX5_passRow_13 : decode cX5_passRow 13 = .ok (.invokevirtual 266, 3) := by decide +kernel
theorem dX5_passRow_16 : decode cX5_passRow 16 = .ok (.iastore, 1) := by decide +kernel
theorem dX5_passRow_17 : decode cX5_passRow 17 = .ok (.iinc 3 1, 3) := by decide +kernel
theorem dX5_passRow_20 : decode cX5_passRow 20 = .ok (.goto (-18), 3) := by decide +kernel
theorem dX5_passRow_23 : decode cX5_passRow 23 = .ok (.return_, 1) := by decide +kernel
set_option maxRecDepth 20000 in
theorem ggX5_passAll_X5_pass : GoodIn wsX5_passAll wsX5_pass := goodIn_r _ [16, 17, 18, 19, 24, 25, 26, 27, 28, 29, 30, 31, 32, 33, 34, 35, 36, 37, 38, 39, 40, 41, 42, 43, 44, 45, 46, 47, 48, 49, 50, 51, 52, 53, 54, 55, 56] (by decide +kernel) (by decide +kernel)
set_option maxRecDepth 20000 in
theorem gX5_passAll_X5_pass : GoodIn wsX5_passAll (wsV RX5 266 RX5 yX5_pass wsX5_pass) := goodIn_app (goodIn_of _ (by decide +kernel)) ggX5_passAll_X5_pass
set_option maxRecDepth 20000 in
theorem ggX5_passAll_X5_passRow : GoodIn wsX5_passAll wsX5_passRow := goodIn_r _ [23, 12, 13, 14, 15, 16, 17, 18, 19, 24, 25, 26, 27, 28, 29, 30, 31, 32, 33, 34, 35, 36, 37, 38, 39, 40, 41, 42, 43, 44, 45, 46, 47, 48, 49, 50, 51, 52, 53, 54, 55, 56] (by decide +kernel) (by decide +kernel)
set_option maxRecDepth 20000 in
theorem gX5_passAll_X5_passRow : GoodIn wsX5_passAll (wsV RX5 269 RX5 yX5_passRow wsX5_passRow) := goodIn_app (goodIn_of _ (by decide +kernel)) ggX5_passAll_X5_passRow
theorem dX5_passAll_0 : decode cX5_passAll 0 = .ok (.aload_n 0, 1) := by decide +kernel
theorem dX5_passAll_1 : decode cX5_passAll 1 = .ok (.aload_n 0, 1) := by decide +kernel
theorem dX5_passAll_2 : decode cX5_passAll 2 = .ok (.aload_n 0, 1) := by decide +kernel
theorem dX5_passAll_3 : decode cX5_passAll 3 = .ok (.getfield 218, 3) := by decide +kernel
theorem dX5_passAll_6 : decode cX5_passAll 6 = .ok (.invokevirtual 266, 3) := by decide +kernel
theorem dX5_passAll_9 : decode cX5_passAll 9 = .ok (.putfield 218, 3) := by decide +kernel
theorem dX5_passAll_12 : decode cX5_passAll 12 = .ok (.aload_n 0, 1) := by decide +kernel
theorem dX5_passAll_13 : decode cX5_passAll 13 = .ok (.aload_n 0, 1) := by decide +kernel
theorem dX5_passAll_14 : decode cX5_passAll 14 = .ok (.aload_n 0, 1) := by decide +kernel
theorem dX5_passAll_15 : decode cX5_passAll 15 = .ok (.getfield 224, 3) := by decide +kernel
theorem dX5_passAll_18 : decode cX5_passAll 18 = .ok (.invokevirtual 266, 3) := by decide +kernel
theorem dX5_passAll_21 : decode cX5_passAll 21 = .ok (.putfield 224, 3) := by decide +kernel
theorem dX5_passAll_24 : decode cX5_passAll 24 = .ok (.aload_n 0, 1) := by decide +kernel
theorem dX5_passAll_25 : decode cX5_passAll 25 = .ok (.aload_n 0, 1) := by decide +kernel
theorem dX5_passAll_26 : decode cX5_passAll 26 = .ok (.getfield 7, 3) := by decide +kernel
theorem dX5_passAll_29 : decode cX5_passAll 29 = .ok (.bipush 12, 2) := by decide +kernel
theorem dX5_passAll_31 : decode cX5_passAll 31 = .ok (.invokevirtual 269, 3) := by decide +kernel
theorem dX5_passAll_34 : decode cX5_passAll 34 = .ok (.aload_n 0, 1) := by decide +kernel
theorem dX5_passAll_35 : decode cX5_passAll 35 = .ok (.aload_n 0, 1) := by decide +kernel
theorem dX5_passAll_36 : decode cX5_passAll 36 = .ok (.getfield 13, 3) := by decide +kernel
theorem dX5_passAll_39 : decode cX5_passAll 39 = .ok (.bipush 12, 2) := by decide +kernel
theorem dX5_passAll_41 : decode cX5_passAll 41 = .ok (.invokevirtual 269, 3) := by decide +kernel
theorem dX5_passAll_44 : decode cX5_passAll 44 = .ok (.aload_n 0, 1) := by decide +kernel
theorem dX5_passAll_45 : decode cX5_passAll 45 = .ok (.aload_n 0, 1) := by decide +kernel
theorem dX5_passAll_46 : decode cX5_passAll 46 = .ok (.getfield 16, 3) := by decide +kernel
theorem dX5_passAll_49 : decode cX5_passAll 49 = .ok (.bipush 12, 2) := by decide +kernel
theorem dX5_passAll_51 : decode cX5_passAll 51 = .ok (.invokevirtual 269, 3) := by decide +kernel
theorem dX5_passAll_54 : decode cX5_passAll 54 = .ok (.aload_n 0, 1) := by decide +kernel
theorem dX5_passAll_55 : decode cX5_passAll 55 = .ok (.aload_n 0, 1) := by decide +kernel
theorem dX5_passAll_56 : decode cX5_passAll 56 = .ok (.getfield 19, 3) := by decide +kernel
theorem dX5_passAll_59 : decode cX5_passAll 59 = .ok (.iconst 4, 1) := by decide +kernel
theorem dX5_passAll_60 : decode cX5_passAll 60 = .ok (.invokevirtual 269, 3) := by decide +kernel
theorem dX5_passAll_63 : decode cX5_passAll 63 = .ok (.aload_n 0, 1) := by decide +kernel
theorem dX5_passAll_64 : decode cX5_passAll 64 = .ok (.aload_n 0, 1) := by decide +kernel
theorem dX5_passAll_65 : decode cX5_passAll 65 = .ok (.getfield 22, 3) := by decide +kernel
theorem dX5_passAll_68 : decode cX5_passAll 68 = .ok (.iconst 4, 1) := by decide +kernel
theorem dX5_passAll_69 : decode cX5_passAll 69 = .ok (.invokevirtual 269, 3) := by decide +kernel
theorem dX5_passAll_72 : decode cX5_passAll 72 = .ok (.aload_n 0, 1) := by decide +kernel
theorem dX5_passAll_73 : decode cX5_passAll 73 = .ok (.aload_n 0, 1) := by decide +kernel
theorem dX5_passAll_74 : decode cX5_passAll 74 = .ok (.getfield 25, 3) := by decide +kernel
theorem dX5_passAll_77 : decode cX5_passAll 77 = .ok (.bipush 8, 2) := by decide +kernel
theorem dX5_passAll_79 : decode cX5_passAll 79 = .ok (.invokevirtual 269, 3) := by decide +kernel
theorem dX5_passAll_82 : decode cX5_passAll 82 = .ok (.aload_n 0, 1) := by decide +kernel
theorem dX5_passAll_83 : decode cX5_passAll 83 = .ok (.aload_n 0, 1) := by decide +kernel
theorem dX5_passAll_84 : decode cX5_passAll 84 = .ok (.getfield 28, 3) := by decide +kernel
theorem dX5_passAll_87 : decode cX5_passAll 87 = .ok (.bipush 6, 2) := by decide +kernel
theorem dX5_passAll_89 : decode cX5_passAll 89 = .ok (.invokevirtual 269, 3) := by decide +kernel
theorem dX5_passAll_92 : decode cX5_passAll 92 = .ok (.aload_n 0, 1) := by decide +kernel
theorem dX5_passAll_93 : decode cX5_passAll 93 = .ok (.aload_n 0, 1) := by decide +kernel
theorem dX5_passAll_94 : decode cX5_passAll 94 = .ok (.getfield 31, 3) := by decide +kernel
theorem dX5_passAll_97 : decode cX5_passAll 97 = .ok (.bipush 6, 2) := by decide +kernel
theorem dX5_passAll_99 : decode cX5_passAll 99 = .ok (.invokevirtual 269, 3) := by decide +kernel
theorem dX5_passAll_102 : decode cX5_passAll 102 = .ok (.aload_n 0, 1) := by decide +kernel
theorem dX5_passAll_103 : decode cX5_passAll 103 = .ok (.aload_n 0, 1) := by decide +kernel
theorem dX5_passAll_104 : decode cX5_passAll 104 = .ok (.getfield 34, 3) := by decide +kernel
theorem dX5_passAll_107 : decode cX5_passAll 107 = .ok (.bipush 6, 2) := by decide +kernel
theorem dX5_passAll_109 : decode cX5_passAll 109 = .ok (.invokevirtual 269, 3) := by decide +kernel
theorem dX5_passAll_112 : decode cX5_passAll 112 = .ok (.return_, 1) := by decide +kernel
set_option maxRecDepth 20000 in
theorem ggX5_image_X5_in : GoodIn wsX5_image wsX5_in := goodIn_r _ [7] (by decide +kernel) (by decide +kernel)
set_option maxRecDepth 20000 in
theorem gX5_image_X5_in : GoodIn wsX5_image (va_wsS RX5 71 yX5_in wsX5_in) := goodIn_app (goodIn_of _ (by decide +kernel)) ggX5_image_X5_in
set_option maxRecDepth 20000 in
theorem ggX5_image_X5_passAll : GoodIn wsX5_image wsX5_passAll := goodIn_r _ [11, 12, 13, 14, 15, 16, 17, 18, 19, 20, 21, 22, 23, 24, 25, 6, 26, 2, 27, 1, 28, 29, 30, 31, 32, 33, 34, 35, 36, 37, 38, 39, 40, 41, 42, 43, 44, 45, 46, 47, 48, 49, 50, 51, 52, 53, 54, 55, 56, 57, 58, 59, 60, 61, 62, 63, 64] (by decide +kernel) (by decide +kernel)
set_option maxRecDepth 20000 in
theorem gX5_image_X5_passAll : GoodIn wsX5_image (wsV RX5 273 RX5 yX5_passAll wsX5_passAll) := goodIn_app (goodIn_of _ (by decide +kernel)) ggX5_image_X5_passAll
theorem dX5_image_0 : decode cX5_image 0 = .ok (.iload_n 1, 1) := by decide +kernel
theorem dX5_image_1 : decode cX5_image 1 = .ok (.i2l, 1) := by decide +kernel
theorem dX5_image_2 : decode cX5_image 2 = .ok (.lconst 0, 1) := by decide +kernel
theorem dX5_image_3 : decode cX5_image 3 = .ok (.lconst 1, 1) := by decide +kernel
theorem dX5_image_4 : decode cX5_image 4 = .ok (.invokestatic 71, 3) := by decide +kernel
theorem dX5_image_7 : decode cX5_image 7 = .ok (.ifCond .ne 6, 3) := by decide +kernel
theorem dX5_image_10 : decode cX5_image 10 = .ok (.bipush (-2), 2) := by decide +kernel
theorem dX5_image_12 : decode cX5_image 12 = .ok (.ireturn, 1) := by decide +kernel
theorem dX5_image_13 : decode cX5_image 13 = .ok (.aload_n 0, 1) := by decide +kernel
theorem dX5_image_14 : decode cX5_image 14 = .ok (.bipush 90, 2) := by decide +kernel
theorem dX5_image_16 : decode cX5_image 16 = .ok (.iload_n 1, 1) := by decide +kernel
theorem dX5_image_17 : decode cX5_image 17 = .ok (.imul, 1) := by decide +kernel
theorem dX5_image_18 : decode cX5_image 18 = .ok (.putfield 263, 3) := by decide +kernel
theorem dX5_image_21 : decode cX5_image 21 = .ok (.aload_n 0, 1) := by decide +kernel
theorem dX5_image_22 : decode cX5_image 22 = .ok (.iconst 1, 1) := by decide +kernel
theorem dX5_image_23 : decode cX5_image 23 = .ok (.putfield 259, 3) := by decide +kernel
theorem dX5_image_26 : decode cX5_image 26 = .ok (.aload_n 0, 1) := by decide +kernel
theorem dX5_image_27 : decode cX5_image 27 = .ok (.invokevirtual 273, 3) := by decide +kernel
theorem dX5_image_30 : decode cX5_image 30 = .ok (.aload_n 0, 1) := by decide +kernel
theorem dX5_image_31 : decode cX5_image 31 = .ok (.getfield 65, 3) := by decide +kernel
theorem dX5_image_34 : decode cX5_image 34 = .ok (.iload_n 1, 1) := by decide +kernel
theorem dX5_image_35 : decode cX5_image 35 = .ok (.iconst 1, 1) := by decide +kernel
theorem dX5_image_36 : decode cX5_image 36 = .ok (.bastore, 1) := by decide +kernel
theorem dX5_image_37 : decode cX5_image 37 = .ok (.iconst 1, 1) := by decide +kernel
theorem dX5_image_38 : decode cX5_image 38 = .ok (.ireturn, 1) := by decide +kernel
set_option maxRecDepth 20000 in
theorem ggX5_restore_X5_in : GoodIn wsX5_restore wsX5_in := goodIn_r _ [7] (by decide +kernel) (by decide +kernel)
set_option maxRecDepth 20000 in
theorem gX5_restore_X5_in : GoodIn wsX5_restore (va_wsS RX5 71 yX5_in wsX5_in) := goodIn_app (goodIn_of _ (by decide +kernel)) ggX5_restore_X5_in
set_option maxRecDepth 20000 in
theorem ggX5_restore_X5_passAll : GoodIn wsX5_restore wsX5_passAll := goodIn_r _ [11, 12, 13, 14, 15, 16, 17, 18, 19, 20, 21, 22, 23, 24, 25, 6, 26, 3, 27, 2, 28, 29, 30, 31, 32, 33, 34, 35, 36, 37, 38, 39, 40, 41, 42, 43, 44, 45, 46, 47, 48, 49, 50, 51, 52, 53, 54, 55, 56, 57, 58, 59, 60, 61, 62, 63, 64] (by decide +kernel) (by decide +kernel)
set_option maxRecDepth 20000 in
theorem gX5_restore_X5_passAll : GoodIn wsX5_restore (wsV RX5 273 RX5 yX5_passAll wsX5_passAll) := goodIn_app (goodIn_of _ (by decide +kernel)) ggX5_restore_X5_passAll
theorem dX5_restore_0 : decode cX5_restore 0 = .ok (.iload_n 1, 1) := by decide +kernel
theorem dX5_restore_1 : decode cX5_restore 1 = .ok (.i2l, 1) := by decide +kernel
theorem dX5_restore_2 : decode cX5_restore 2 = .ok (.lconst 0, 1) := by decide +kernel
theorem dX5_restore_3 : decode cX5_restore 3 = .ok (.lconst 1, 1) := by decide +kernel
theorem dX5_restore_4 : decode cX5_restore 4 = .ok (.invokestatic 71, 3) := by decide +kernel
theorem dX5_restore_7 : decode cX5_restore 7 = .ok (.ifCond .ne 6, 3) := by decide +kernel
theorem dX5_restore_10 : decode cX5_restore 10 = .ok (.bipush (-2), 2) := by decide +kernel
theorem dX5_restore_12 : decode cX5_restore 12 = .ok (.ireturn, 1) := by decide +kernel
theorem dX5_restore_13 : decode cX5_restore 13 = .ok (.aload_n 0, 1) := by decide +kernel
theorem dX5_restore_14 : decode cX5_restore 14 = .ok (.getfield 65, 3) := by decide +kernel
theorem dX5_restore_17 : decode cX5_restore 17 = .ok (.iload_n 1, 1) := by decide +kernel
theorem dX5_restore_18 : decode cX5_restore 18 = .ok (.baload, 1) := by decide +kernel
theorem dX5_restore_19 : decode cX5_restore 19 = .ok (.ifCond .ne 6, 3) := by decide +kernel
theorem dX5_restore_22 : decode cX5_restore 22 = .ok (.bipush (-3), 2) := by decide +kernel
theorem dX5_restore_24 : decode cX5_restore 24 = .ok (.ireturn, 1) := by decide +kernel
theorem dX5_restore_25 : decode cX5_restore 25 = .ok (.aload_n 0, 1) := by decide +kernel
theorem dX5_restore_26 : decode cX5_restore 26 = .ok (.bipush 90, 2) := by decide +kernel
theorem dX5_restore_28 : decode cX5_restore 28 = .ok (.iload_n 1, 1) := by decide +kernel
theorem dX5_restore_29 : decode cX5_restore 29 = .ok (.imul, 1) := by decide +kernel
theorem dX5_restore_30 : decode cX5_restore 30 = .ok (.putfield 263, 3) := by decide +kernel
theorem dX5_restore_33 : decode cX5_restore 33 = .ok (.aload_n 0, 1) := by decide +kernel
theorem dX5_restore_34 : decode cX5_restore 34 = .ok (.iconst 0, 1) := by decide +kernel
theorem dX5_restore_35 : decode cX5_restore 35 = .ok (.putfield 259, 3) := by decide +kernel
theorem dX5_restore_38 : decode cX5_restore 38 = .ok (.aload_n 0, 1) := by decide +kernel
theorem dX5_restore_39 : decode cX5_restore 39 = .ok (.invokevirtual 273, 3) := by decide +kernel
theorem dX5_restore_42 : decode cX5_restore 42 = .ok (.iconst 1, 1) := by decide +kernel
theorem dX5_restore_43 : decode cX5_restore 43 = .ok (.ireturn, 1) := by decide +kernel
set_option maxRecDepth 20000 in
theorem ggX5_toldOfWord_X5_rhymesOf : GoodIn wsX5_toldOfWord wsX5_rhymesOf := goodIn_r _ [7, 8, 9, 10, 11, 12, 13, 14, 15, 16, 17, 18, 19, 20, 21, 22, 23, 24, 25, 26, 27, 28, 29, 30, 31, 32, 33, 34, 35, 36, 37, 38, 39, 40, 41] (by decide +kernel) (by decide +kernel)
set_option maxRecDepth 20000 in
theorem gX5_toldOfWord_X5_rhymesOf : GoodIn wsX5_toldOfWord (wsV RX5 85 RX5 yX5_rhymesOf wsX5_rhymesOf) := goodIn_app (goodIn_of _ (by decide +kernel)) ggX5_toldOfWord_X5_rhymesOf
theorem dX5_toldOfWord_0 : decode cX5_toldOfWord 0 = .ok (.iload_n 2, 1) := by decide +kernel
theorem dX5_toldOfWord_1 : decode cX5_toldOfWord 1 = .ok (.ifCond .ne 12, 3) := by decide +kernel
theorem dX5_toldOfWord_4 : decode cX5_toldOfWord 4 = .ok (.aload_n 0, 1) := by decide +kernel
theorem dX5_toldOfWord_5 : decode cX5_toldOfWord 5 = .ok (.getfield 7, 3) := by decide +kernel
theorem dX5_toldOfWord_8 : decode cX5_toldOfWord 8 = .ok (.iload_n 1, 1) := by decide +kernel
theorem dX5_toldOfWord_9 : decode cX5_toldOfWord 9 = .ok (.iaload, 1) := by decide +kernel
theorem dX5_toldOfWord_10 : decode cX5_toldOfWord 10 = .ok (.goto 32, 3) := by decide +kernel
theorem dX5_toldOfWord_13 : decode cX5_toldOfWord 13 = .ok (.iload_n 2, 1) := by decide +kernel
theorem dX5_toldOfWord_14 : decode cX5_toldOfWord 14 = .ok (.iconst 1, 1) := by decide +kernel
theorem dX5_toldOfWord_15 : decode cX5_toldOfWord 15 = .ok (.if_icmp .ne 12, 3) := by decide +kernel
theorem dX5_toldOfWord_18 : decode cX5_toldOfWord 18 = .ok (.aload_n 0, 1) := by decide +kernel
theorem dX5_toldOfWord_19 : decode cX5_toldOfWord 19 = .ok (.getfield 13, 3) := by decide +kernel
theorem dX5_toldOfWord_22 : decode cX5_toldOfWord 22 = .ok (.iload_n 1, 1) := by decide +kernel
theorem dX5_toldOfWord_23 : decode cX5_toldOfWord 23 = .ok (.iaload, 1) := by decide +kernel
theorem dX5_toldOfWord_24 : decode cX5_toldOfWord 24 = .ok (.goto 18, 3) := by decide +kernel
theorem dX5_toldOfWord_27 : decode cX5_toldOfWord 27 = .ok (.iload_n 2, 1) := by decide +kernel
theorem dX5_toldOfWord_28 : decode cX5_toldOfWord 28 = .ok (.iconst 2, 1) := by decide +kernel
theorem dX5_toldOfWord_29 : decode cX5_toldOfWord 29 = .ok (.if_icmp .ne 11, 3) := by decide +kernel
theorem dX5_toldOfWord_32 : decode cX5_toldOfWord 32 = .ok (.aload_n 0, 1) := by decide +kernel
theorem dX5_toldOfWord_33 : decode cX5_toldOfWord 33 = .ok (.iload_n 1, 1) := by decide +kernel
theorem dX5_toldOfWord_34 : decode cX5_toldOfWord 34 = .ok (.invokevirtual 85, 3) := by decide +kernel
theorem dX5_toldOfWord_37 : decode cX5_toldOfWord 37 = .ok (.goto 5, 3) := by decide +kernel
theorem dX5_toldOfWord_40 : decode cX5_toldOfWord 40 = .ok (.bipush (-2), 2) := by decide +kernel
theorem dX5_toldOfWord_42 : decode cX5_toldOfWord 42 = .ok (.ireturn, 1) := by decide +kernel
set_option maxRecDepth 20000 in
theorem ggX5_told_X5_in : GoodIn wsX5_told wsX5_in := goodIn_r _ [15] (by decide +kernel) (by decide +kernel)
set_option maxRecDepth 20000 in
theorem gX5_told_X5_in : GoodIn wsX5_told (va_wsS RX5 71 yX5_in wsX5_in) := goodIn_app (goodIn_of _ (by decide +kernel)) ggX5_told_X5_in
set_option maxRecDepth 20000 in
theorem ggX5_told_X5_toldOfWord : GoodIn wsX5_told wsX5_toldOfWord := goodIn_r _ [19, 20, 21, 22, 23, 24, 14, 25, 26, 27, 28, 29, 30, 31, 32, 33, 34, 35, 36, 37, 38, 39, 40, 41, 42, 43, 44, 45, 46, 47, 48, 49, 50, 51, 52, 53, 54, 55, 56, 57, 58, 59] (by decide +kernel) (by decide +kernel)
set_option maxRecDepth 20000 in
theorem gX5_told_X5_toldOfWord : GoodIn wsX5_told (wsV RX5 280 RX5 yX5_toldOfWord wsX5_toldOfWord) := goodIn_app (goodIn_of _ (by decide +kernel)) ggX5_told_X5_toldOfWord
theorem dX5_told_0 : decode cX5_told 0 = .ok (.iload_n 1, 1) := by decide +kernel
theorem dX5_told_1 : decode cX5_told 1 = .ok (.i2l, 1) := by decide +kernel
theorem dX5_told_2 : decode cX5_told 2 = .ok (.ldc2_w 276, 3) := by decide +kernel
theorem dX5_told_5 : decode cX5_told 5 = .ok (.ldc2_w 278, 3) := by decide +kernel
theorem dX5_told_8 : decode cX5_told 8 = .ok (.invokestatic 71, 3) := by decide +kernel
theorem dX5_told_11 : decode cX5_told 11 = .ok (.ifCond .eq 19, 3) := by decide +kernel
theorem dX5_told_14 : decode cX5_told 14 = .ok (.aload_n 0, 1) := by decide +kernel
theorem dX5_told_15 : decode cX5_told 15 = .ok (.iload_n 1, 1) := by decide +kernel
theorem dX5_told_16 : decode cX5_told 16 = .ok (.bipush 100, 2) := by decide +kernel
theorem dX5_told_18 : decode cX5_told 18 = .ok (.isub, 1) := by decide +kernel
theorem dX5_told_19 : decode cX5_told 19 = .ok (.bipush 10, 2) := by decide +kernel
theorem dX5_told_21 : decode cX5_told 21 = .ok (.idiv, 1) := by decide +kernel
theorem dX5_told_22 : decode cX5_told 22 = .ok (.iload_n 1, 1) := by decide +kernel
theorem dX5_told_23 : decode cX5_told 23 = .ok (.bipush 10, 2) := by decide +kernel
theorem dX5_told_25 : decode cX5_told 25 = .ok (.irem, 1) := by decide +kernel
theorem dX5_told_26 : decode cX5_told 26 = .ok (.invokevirtual 280, 3) := by decide +kernel
theorem dX5_told_29 : decode cX5_told 29 = .ok (.ireturn, 1) := by decide +kernel
theorem dX5_told_30 : decode cX5_told 30 = .ok (.iload_n 1, 1) := by decide +kernel
theorem dX5_told_31 : decode cX5_told 31 = .ok (.i2l, 1) := by decide +kernel
theorem dX5_told_32 : decode cX5_told 32 = .ok (.ldc2_w 238, 3) := by decide +kernel
theorem dX5_told_35 : decode cX5_told 35 = .ok (.ldc2_w 283, 3) := by decide +kernel
theorem dX5_told_38 : decode cX5_told 38 = .ok (.invokestatic 71, 3) := by decide +kernel
theorem dX5_told_41 : decode cX5_told 41 = .ok (.ifCond .eq 13, 3) := by decide +kernel
theorem dX5_told_44 : decode cX5_told 44 = .ok (.aload_n 0, 1) := by decide +kernel
theorem dX5_told_45 : decode cX5_told 45 = .ok (.getfield 19, 3) := by decide +kernel
theorem dX5_told_48 : decode cX5_told 48 = .ok (.iload_n 1, 1) := by decide +kernel
theorem dX5_told_49 : decode cX5_told 49 = .ok (.bipush 10, 2) := by decide +kernel
theorem dX5_told_51 : decode cX5_told 51 = .ok (.isub, 1) := by decide +kernel
theorem dX5_told_52 : decode cX5_told 52 = .ok (.iaload, 1) := by decide +kernel
theorem dX5_told_53 : decode cX5_told 53 = .ok (.ireturn, 1) := by decide +kernel
theorem dX5_told_54 : decode cX5_told 54 = .ok (.iload_n 1, 1) := by decide +kernel
theorem dX5_told_55 : decode cX5_told 55 = .ok (.i2l, 1) := by decide +kernel
theorem dX5_told_56 : decode cX5_told 56 = .ok (.ldc2_w 246, 3) := by decide +kernel
theorem dX5_told_59 : decode cX5_told 59 = .ok (.ldc2_w 285, 3) := by decide +kernel
theorem dX5_told_62 : decode cX5_told 62 = .ok (.invokestatic 71, 3) := by decide +kernel
theorem dX5_told_65 : decode cX5_told 65 = .ok (.ifCond .eq 13, 3) := by decide +kernel
theorem dX5_told_68 : decode cX5_told 68 = .ok (.aload_n 0, 1) := by decide +kernel
theorem dX5_told_69 : decode cX5_told 69 = .ok (.getfield 22, 3) := by decide +kernel
theorem dX5_told_72 : decode cX5_told 72 = .ok (.iload_n 1, 1) := by decide +kernel
theorem dX5_told_73 : decode cX5_told 73 = .ok (.bipush 20, 2) := by decide +kernel
theorem dX5_told_75 : decode cX5_told 75 = .ok (.isub, 1) := by decide +kernel
theorem dX5_told_76 : decode cX5_told 76 = .ok (.iaload, 1) := by decide +kernel
theorem dX5_told_77 : decode cX5_told 77 = .ok (.ireturn, 1) := by decide +kernel
theorem dX5_told_78 : decode cX5_told 78 = .ok (.iload_n 1, 1) := by decide +kernel
theorem dX5_told_79 : decode cX5_told 79 = .ok (.ifCond .ne 10, 3) := by decide +kernel
theorem dX5_told_82 : decode cX5_told 82 = .ok (.aload_n 0, 1) := by decide +kernel
theorem dX5_told_83 : decode cX5_told 83 = .ok (.getfield 106, 3) := by decide +kernel
theorem dX5_told_86 : decode cX5_told 86 = .ok (.goto 29, 3) := by decide +kernel
theorem dX5_told_89 : decode cX5_told 89 = .ok (.iload_n 1, 1) := by decide +kernel
theorem dX5_told_90 : decode cX5_told 90 = .ok (.iconst 1, 1) := by decide +kernel
theorem dX5_told_91 : decode cX5_told 91 = .ok (.if_icmp .ne 10, 3) := by decide +kernel
theorem dX5_told_94 : decode cX5_told 94 = .ok (.aload_n 0, 1) := by decide +kernel
theorem dX5_told_95 : decode cX5_told 95 = .ok (.getfield 218, 3) := by decide +kernel
theorem dX5_told_98 : decode cX5_told 98 = .ok (.goto 17, 3) := by decide +kernel
theorem dX5_told_101 : decode cX5_told 101 = .ok (.iload_n 1, 1) := by decide +kernel
theorem dX5_told_102 : decode cX5_told 102 = .ok (.iconst 2, 1) := by decide +kernel
theorem dX5_told_103 : decode cX5_told 103 = .ok (.if_icmp .ne 10, 3) := by decide +kernel
theorem dX5_told_106 : decode cX5_told 106 = .ok (.aload_n 0, 1) := by decide +kernel
theorem dX5_told_107 : decode cX5_told 107 = .ok (.getfield 224, 3) := by decide +kernel
theorem dX5_told_110 : decode cX5_told 110 = .ok (.goto 5, 3) := by decide +kernel
theorem dX5_told_113 : decode cX5_told 113 = .ok (.bipush (-2), 2) := by decide +kernel
theorem dX5_told_115 : decode cX5_told 115 = .ok (.ireturn, 1) := by decide +kernel
theorem dJ6_bitCount_0f7a4_0 : decode cJ6_bitCount_0f7a4 0 = .ok (.iload_n 0, 1) := by decide +kernel
theorem dJ6_bitCount_0f7a4_1 : decode cJ6_bitCount_0f7a4 1 = .ok (.iload_n 0, 1) := by decide +kernel
theorem dJ6_bitCount_0f7a4_2 : decode cJ6_bitCount_0f7a4 2 = .ok (.iconst 1, 1) := by decide +kernel
theorem dJ6_bitCount_0f7a4_3 : decode cJ6_bitCount_0f7a4 3 = .ok (.iushr, 1) := by decide +kernel
theorem dJ6_bitCount_0f7a4_4 : decode cJ6_bitCount_0f7a4 4 = .ok (.ldc_w 265, 3) := by decide +kernel
theorem dJ6_bitCount_0f7a4_7 : decode cJ6_bitCount_0f7a4 7 = .ok (.iand, 1) := by decide +kernel
theorem dJ6_bitCount_0f7a4_8 : decode cJ6_bitCount_0f7a4 8 = .ok (.isub, 1) := by decide +kernel
theorem dJ6_bitCount_0f7a4_9 : decode cJ6_bitCount_0f7a4 9 = .ok (.istore_n 0, 1) := by decide +kernel
theorem dJ6_bitCount_0f7a4_10 : decode cJ6_bitCount_0f7a4 10 = .ok (.iload_n 0, 1) := by decide +kernel
theorem dJ6_bitCount_0f7a4_11 : decode cJ6_bitCount_0f7a4 11 = .ok (.ldc_w 266, 3) := by decide +kernel
theorem dJ6_bitCount_0f7a4_14 : decode cJ6_bitCount_0f7a4 14 = .ok (.iand, 1) := by decide +kernel
theorem dJ6_bitCount_0f7a4_15 : decode cJ6_bitCount_0f7a4 15 = .ok (.iload_n 0, 1) := by decide +kernel
theorem dJ6_bitCount_0f7a4_16 : decode cJ6_bitCount_0f7a4 16 = .ok (.iconst 2, 1) := by decide +kernel
theorem dJ6_bitCount_0f7a4_17 : decode cJ6_bitCount_0f7a4 17 = .ok (.iushr, 1) := by decide +kernel
theorem dJ6_bitCount_0f7a4_18 : decode cJ6_bitCount_0f7a4 18 = .ok (.ldc_w 266, 3) := by decide +kernel
theorem dJ6_bitCount_0f7a4_21 : decode cJ6_bitCount_0f7a4 21 = .ok (.iand, 1) := by decide +kernel
theorem dJ6_bitCount_0f7a4_22 : decode cJ6_bitCount_0f7a4 22 = .ok (.iadd, 1) := by decide +kernel
theorem dJ6_bitCount_0f7a4_23 : decode cJ6_bitCount_0f7a4 23 = .ok (.istore_n 0, 1) := by decide +kernel
theorem dJ6_bitCount_0f7a4_24 : decode cJ6_bitCount_0f7a4 24 = .ok (.iload_n 0, 1) := by decide +kernel
theorem dJ6_bitCount_0f7a4_25 : decode cJ6_bitCount_0f7a4 25 = .ok (.iload_n 0, 1) := by decide +kernel
theorem dJ6_bitCount_0f7a4_26 : decode cJ6_bitCount_0f7a4 26 = .ok (.iconst 4, 1) := by decide +kernel
theorem dJ6_bitCount_0f7a4_27 : decode cJ6_bitCount_0f7a4 27 = .ok (.iushr, 1) := by decide +kernel
theorem dJ6_bitCount_0f7a4_28 : decode cJ6_bitCount_0f7a4 28 = .ok (.iadd, 1) := by decide +kernel
theorem dJ6_bitCount_0f7a4_29 : decode cJ6_bitCount_0f7a4 29 = .ok (.ldc_w 267, 3) := by decide +kernel
theorem dJ6_bitCount_0f7a4_32 : decode cJ6_bitCount_0f7a4 32 = .ok (.iand, 1) := by decide +kernel
theorem dJ6_bitCount_0f7a4_33 : decode cJ6_bitCount_0f7a4 33 = .ok (.istore_n 0, 1) := by decide +kernel
theorem dJ6_bitCount_0f7a4_34 : decode cJ6_bitCount_0f7a4 34 = .ok (.iload_n 0, 1) := by decide +kernel
theorem dJ6_bitCount_0f7a4_35 : decode cJ6_bitCount_0f7a4 35 = .ok (.iload_n 0, 1) := by decide +kernel
theorem dJ6_bitCount_0f7a4_36 : decode cJ6_bitCount_0f7a4 36 = .ok (.bipush 8, 2) := by decide +kernel
theorem dJ6_bitCount_0f7a4_38 : decode cJ6_bitCount_0f7a4 38 = .ok (.iushr, 1) := by decide +kernel
theorem dJ6_bitCount_0f7a4_39 : decode cJ6_bitCount_0f7a4 39 = .ok (.iadd, 1) := by decide +kernel
theorem dJ6_bitCount_0f7a4_40 : decode cJ6_bitCount_0f7a4 40 = .ok (.istore_n 0, 1) := by decide +kernel
theorem dJ6_bitCount_0f7a4_41 : decode cJ6_bitCount_0f7a4 41 = .ok (.iload_n 0, 1) := by decide +kernel
theorem dJ6_bitCount_0f7a4_42 : decode cJ6_bitCount_0f7a4 42 = .ok (.iload_n 0, 1) := by decide +kernel
theorem dJ6_bitCount_0f7a4_43 : decode cJ6_bitCount_0f7a4 43 = .ok (.bipush 16, 2) := by decide +kernel
theorem dJ6_bitCount_0f7a4_45 : decode cJ6_bitCount_0f7a4 45 = .ok (.iushr, 1) := by decide +kernel
theorem dJ6_bitCount_0f7a4_46 : decode cJ6_bitCount_0f7a4 46 = .ok (.iadd, 1) := by decide +kernel
theorem dJ6_bitCount_0f7a4_47 : decode cJ6_bitCount_0f7a4 47 = .ok (.istore_n 0, 1) := by decide +kernel
theorem dJ6_bitCount_0f7a4_48 : decode cJ6_bitCount_0f7a4 48 = .ok (.iload_n 0, 1) := by decide +kernel
theorem dJ6_bitCount_0f7a4_49 : decode cJ6_bitCount_0f7a4 49 = .ok (.bipush 63, 2) := by decide +kernel
theorem dJ6_bitCount_0f7a4_51 : decode cJ6_bitCount_0f7a4 51 = .ok (.iand, 1) := by decide +kernel
theorem dJ6_bitCount_0f7a4_52 : decode cJ6_bitCount_0f7a4 52 = .ok (.ireturn, 1) := by decide +kernel
theorem dJ9_max_7cf53_0 : decode cJ9_max_7cf53 0 = .ok (.iload_n 0, 1) := by decide +kernel
theorem dJ9_max_7cf53_1 : decode cJ9_max_7cf53 1 = .ok (.iload_n 1, 1) := by decide +kernel
theorem dJ9_max_7cf53_2 : decode cJ9_max_7cf53 2 = .ok (.if_icmp .lt 7, 3) := by decide +kernel
theorem dJ9_max_7cf53_5 : decode cJ9_max_7cf53 5 = .ok (.iload_n 0, 1) := by decide +kernel
theorem dJ9_max_7cf53_6 : decode cJ9_max_7cf53 6 = .ok (.goto 4, 3) := by decide +kernel
theorem dJ9_max_7cf53_9 : decode cJ9_max_7cf53 9 = .ok (.iload_n 1, 1) := by decide +kernel
theorem dJ9_max_7cf53_10 : decode cJ9_max_7cf53 10 = .ok (.ireturn, 1) := by decide +kernel
theorem dJ9_max_f86c9_0 : decode cJ9_max_f86c9 0 = .ok (.lload_n 0, 1) := by decide +kernel
theorem dJ9_max_f86c9_1 : decode cJ9_max_f86c9 1 = .ok (.lload_n 2, 1) := by decide +kernel
theorem dJ9_max_f86c9_2 : decode cJ9_max_f86c9 2 = .ok (.lcmp, 1) := by decide +kernel
theorem dJ9_max_f86c9_3 : decode cJ9_max_f86c9 3 = .ok (.ifCond .lt 7, 3) := by decide +kernel
theorem dJ9_max_f86c9_6 : decode cJ9_max_f86c9 6 = .ok (.lload_n 0, 1) := by decide +kernel
theorem dJ9_max_f86c9_7 : decode cJ9_max_f86c9 7 = .ok (.goto 4, 3) := by decide +kernel
theorem dJ9_max_f86c9_10 : decode cJ9_max_f86c9 10 = .ok (.lload_n 2, 1) := by decide +kernel
theorem dJ9_max_f86c9_11 : decode cJ9_max_f86c9 11 = .ok (.lreturn, 1) := by decide +kernel
abbrev vwCl : List vw_C := [(RX0, TX0, 5), (RX1, TX1, 11), (RX2, TX2, 2), (RX3, TX3, 11), (RX4, TX4, 7), (RX5, TX5, 33)]
