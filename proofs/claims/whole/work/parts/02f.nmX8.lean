theorem dX8_init_0 : decode cX8_init 0 = .ok (.aload_n 0, 1) := by decide +kernel
theorem dX8_init_1 : decode cX8_init 1 = .ok (.invokespecial 1, 3) := by decide +kernel
theorem dX8_init_4 : decode cX8_init 4 = .ok (.aload_n 0, 1) := by decide +kernel
theorem dX8_init_5 : decode cX8_init 5 = .ok (.iconst 4, 1) := by decide +kernel
theorem dX8_init_6 : decode cX8_init 6 = .ok (.putfield 7, 3) := by decide +kernel
theorem dX8_init_9 : decode cX8_init 9 = .ok (.aload_n 0, 1) := by decide +kernel
theorem dX8_init_10 : decode cX8_init 10 = .ok (.iconst 4, 1) := by decide +kernel
theorem dX8_init_11 : decode cX8_init 11 = .ok (.putfield 13, 3) := by decide +kernel
theorem dX8_init_14 : decode cX8_init 14 = .ok (.aload_n 0, 1) := by decide +kernel
theorem dX8_init_15 : decode cX8_init 15 = .ok (.iconst 2, 1) := by decide +kernel
theorem dX8_init_16 : decode cX8_init 16 = .ok (.putfield 16, 3) := by decide +kernel
theorem dX8_init_19 : decode cX8_init 19 = .ok (.aload_n 0, 1) := by decide +kernel
theorem dX8_init_20 : decode cX8_init 20 = .ok (.bipush 36, 2) := by decide +kernel
theorem dX8_init_22 : decode cX8_init 22 = .ok (.newarray .int, 2) := by decide +kernel
theorem dX8_init_24 : decode cX8_init 24 = .ok (.putfield 19, 3) := by decide +kernel
theorem dX8_init_27 : decode cX8_init 27 = .ok (.aload_n 0, 1) := by decide +kernel
theorem dX8_init_28 : decode cX8_init 28 = .ok (.bipush 36, 2) := by decide +kernel
theorem dX8_init_30 : decode cX8_init 30 = .ok (.newarray .int, 2) := by decide +kernel
theorem dX8_init_32 : decode cX8_init 32 = .ok (.putfield 23, 3) := by decide +kernel
theorem dX8_init_35 : decode cX8_init 35 = .ok (.aload_n 0, 1) := by decide +kernel
theorem dX8_init_36 : decode cX8_init 36 = .ok (.bipush 80, 2) := by decide +kernel
theorem dX8_init_38 : decode cX8_init 38 = .ok (.newarray .int, 2) := by decide +kernel
theorem dX8_init_40 : decode cX8_init 40 = .ok (.putfield 26, 3) := by decide +kernel
theorem dX8_init_43 : decode cX8_init 43 = .ok (.aload_n 0, 1) := by decide +kernel
theorem dX8_init_44 : decode cX8_init 44 = .ok (.bipush 80, 2) := by decide +kernel
theorem dX8_init_46 : decode cX8_init 46 = .ok (.newarray .int, 2) := by decide +kernel
theorem dX8_init_48 : decode cX8_init 48 = .ok (.putfield 29, 3) := by decide +kernel
theorem dX8_init_51 : decode cX8_init 51 = .ok (.aload_n 0, 1) := by decide +kernel
theorem dX8_init_52 : decode cX8_init 52 = .ok (.bipush 80, 2) := by decide +kernel
theorem dX8_init_54 : decode cX8_init 54 = .ok (.newarray .int, 2) := by decide +kernel
theorem dX8_init_56 : decode cX8_init 56 = .ok (.putfield 32, 3) := by decide +kernel
theorem dX8_init_59 : decode cX8_init 59 = .ok (.aload_n 0, 1) := by decide +kernel
theorem dX8_init_60 : decode cX8_init 60 = .ok (.bipush 80, 2) := by decide +kernel
theorem dX8_init_62 : decode cX8_init 62 = .ok (.newarray .int, 2) := by decide +kernel
theorem dX8_init_64 : decode cX8_init 64 = .ok (.putfield 35, 3) := by decide +kernel
theorem dX8_init_67 : decode cX8_init 67 = .ok (.aload_n 0, 1) := by decide +kernel
theorem dX8_init_68 : decode cX8_init 68 = .ok (.bipush 80, 2) := by decide +kernel
theorem dX8_init_70 : decode cX8_init 70 = .ok (.newarray .int, 2) := by decide +kernel
theorem dX8_init_72 : decode cX8_init 72 = .ok (.putfield 38, 3) := by decide +kernel
theorem dX8_init_75 : decode cX8_init 75 = .ok (.aload_n 0, 1) := by decide +kernel
theorem dX8_init_76 : decode cX8_init 76 = .ok (.sipush 480, 3) := by decide +kernel
theorem dX8_init_79 : decode cX8_init 79 = .ok (.newarray .int, 2) := by decide +kernel
theorem dX8_init_81 : decode cX8_init 81 = .ok (.putfield 41, 3) := by decide +kernel
theorem dX8_init_84 : decode cX8_init 84 = .ok (.aload_n 0, 1) := by decide +kernel
theorem dX8_init_85 : decode cX8_init 85 = .ok (.bipush 80, 2) := by decide +kernel
theorem dX8_init_87 : decode cX8_init 87 = .ok (.newarray .int, 2) := by decide +kernel
theorem dX8_init_89 : decode cX8_init 89 = .ok (.putfield 44, 3) := by decide +kernel
theorem dX8_init_92 : decode cX8_init 92 = .ok (.aload_n 0, 1) := by decide +kernel
theorem dX8_init_93 : decode cX8_init 93 = .ok (.bipush 80, 2) := by decide +kernel
theorem dX8_init_95 : decode cX8_init 95 = .ok (.newarray .int, 2) := by decide +kernel
theorem dX8_init_97 : decode cX8_init 97 = .ok (.putfield 47, 3) := by decide +kernel
theorem dX8_init_100 : decode cX8_init 100 = .ok (.aload_n 0, 1) := by decide +kernel
theorem dX8_init_101 : decode cX8_init 101 = .ok (.bipush 80, 2) := by decide +kernel
theorem dX8_init_103 : decode cX8_init 103 = .ok (.newarray .int, 2) := by decide +kernel
theorem dX8_init_105 : decode cX8_init 105 = .ok (.putfield 50, 3) := by decide +kernel
theorem dX8_init_108 : decode cX8_init 108 = .ok (.aload_n 0, 1) := by decide +kernel
theorem dX8_init_109 : decode cX8_init 109 = .ok (.bipush 80, 2) := by decide +kernel
theorem dX8_init_111 : decode cX8_init 111 = .ok (.newarray .int, 2) := by decide +kernel
theorem dX8_init_113 : decode cX8_init 113 = .ok (.putfield 53, 3) := by decide +kernel
theorem dX8_init_116 : decode cX8_init 116 = .ok (.aload_n 0, 1) := by decide +kernel
theorem dX8_init_117 : decode cX8_init 117 = .ok (.bipush 80, 2) := by decide +kernel
theorem dX8_init_119 : decode cX8_init 119 = .ok (.newarray .int, 2) := by decide +kernel
theorem dX8_init_121 : decode cX8_init 121 = .ok (.putfield 56, 3) := by decide +kernel
theorem dX8_init_124 : decode cX8_init 124 = .ok (.aload_n 0, 1) := by decide +kernel
theorem dX8_init_125 : decode cX8_init 125 = .ok (.sipush 480, 3) := by decide +kernel
theorem dX8_init_128 : decode cX8_init 128 = .ok (.newarray .int, 2) := by decide +kernel
theorem dX8_init_130 : decode cX8_init 130 = .ok (.putfield 59, 3) := by decide +kernel
theorem dX8_init_133 : decode cX8_init 133 = .ok (.aload_n 0, 1) := by decide +kernel
theorem dX8_init_134 : decode cX8_init 134 = .ok (.iconst 2, 1) := by decide +kernel
theorem dX8_init_135 : decode cX8_init 135 = .ok (.newarray .int, 2) := by decide +kernel
theorem dX8_init_137 : decode cX8_init 137 = .ok (.putfield 62, 3) := by decide +kernel
theorem dX8_init_140 : decode cX8_init 140 = .ok (.aload_n 0, 1) := by decide +kernel
theorem dX8_init_141 : decode cX8_init 141 = .ok (.iconst 2, 1) := by decide +kernel
theorem dX8_init_142 : decode cX8_init 142 = .ok (.newarray .boolean, 2) := by decide +kernel
theorem dX8_init_144 : decode cX8_init 144 = .ok (.putfield 65, 3) := by decide +kernel
theorem dX8_init_147 : decode cX8_init 147 = .ok (.aload_n 0, 1) := by decide +kernel
theorem dX8_init_148 : decode cX8_init 148 = .ok (.bipush 80, 2) := by decide +kernel
theorem dX8_init_150 : decode cX8_init 150 = .ok (.newarray .int, 2) := by decide +kernel
theorem dX8_init_152 : decode cX8_init 152 = .ok (.putfield 69, 3) := by decide +kernel
theorem dX8_init_155 : decode cX8_init 155 = .ok (.aload_n 0, 1) := by decide +kernel
theorem dX8_init_156 : decode cX8_init 156 = .ok (.bipush 80, 2) := by decide +kernel
theorem dX8_init_158 : decode cX8_init 158 = .ok (.newarray .int, 2) := by decide +kernel
theorem dX8_init_160 : decode cX8_init 160 = .ok (.putfield 72, 3) := by decide +kernel
theorem dX8_init_163 : decode cX8_init 163 = .ok (.aload_n 0, 1) := by decide +kernel
theorem dX8_init_164 : decode cX8_init 164 = .ok (.bipush 80, 2) := by decide +kernel
theorem dX8_init_166 : decode cX8_init 166 = .ok (.newarray .int, 2) := by decide +kernel
theorem dX8_init_168 : decode cX8_init 168 = .ok (.putfield 75, 3) := by decide +kernel
theorem dX8_init_171 : decode cX8_init 171 = .ok (.aload_n 0, 1) := by decide +kernel
theorem dX8_init_172 : decode cX8_init 172 = .ok (.bipush 80, 2) := by decide +kernel
theorem dX8_init_174 : decode cX8_init 174 = .ok (.newarray .int, 2) := by decide +kernel
theorem dX8_init_176 : decode cX8_init 176 = .ok (.putfield 78, 3) := by decide +kernel
theorem dX8_init_179 : decode cX8_init 179 = .ok (.aload_n 0, 1) := by decide +kernel
theorem dX8_init_180 : decode cX8_init 180 = .ok (.bipush 80, 2) := by decide +kernel
theorem dX8_init_182 : decode cX8_init 182 = .ok (.newarray .int, 2) := by decide +kernel
theorem dX8_init_184 : decode cX8_init 184 = .ok (.putfield 81, 3) := by decide +kernel
theorem dX8_init_187 : decode cX8_init 187 = .ok (.aload_n 0, 1) := by decide +kernel
theorem dX8_init_188 : decode cX8_init 188 = .ok (.sipush 480, 3) := by decide +kernel
theorem dX8_init_191 : decode cX8_init 191 = .ok (.newarray .int, 2) := by decide +kernel
theorem dX8_init_193 : decode cX8_init 193 = .ok (.putfield 84, 3) := by decide +kernel
theorem dX8_init_196 : decode cX8_init 196 = .ok (.aload_n 0, 1) := by decide +kernel
theorem dX8_init_197 : decode cX8_init 197 = .ok (.bipush 6, 2) := by decide +kernel
theorem dX8_init_199 : decode cX8_init 199 = .ok (.newarray .int, 2) := by decide +kernel
theorem dX8_init_201 : decode cX8_init 201 = .ok (.putfield 87, 3) := by decide +kernel
theorem dX8_init_204 : decode cX8_init 204 = .ok (.aload_n 0, 1) := by decide +kernel
theorem dX8_init_205 : decode cX8_init 205 = .ok (.bipush 6, 2) := by decide +kernel
theorem dX8_init_207 : decode cX8_init 207 = .ok (.newarray .int, 2) := by decide +kernel
theorem dX8_init_209 : decode cX8_init 209 = .ok (.putfield 90, 3) := by decide +kernel
theorem dX8_init_212 : decode cX8_init 212 = .ok (.aload_n 0, 1) := by decide +kernel
theorem dX8_init_213 : decode cX8_init 213 = .ok (.bipush 60, 2) := by decide +kernel
theorem dX8_init_215 : decode cX8_init 215 = .ok (.newarray .int, 2) := by decide +kernel
theorem dX8_init_217 : decode cX8_init 217 = .ok (.putfield 93, 3) := by decide +kernel
theorem dX8_init_220 : decode cX8_init 220 = .ok (.aload_n 0, 1) := by decide +kernel
theorem dX8_init_221 : decode cX8_init 221 = .ok (.bipush 36, 2) := by decide +kernel
theorem dX8_init_223 : decode cX8_init 223 = .ok (.newarray .int, 2) := by decide +kernel
theorem dX8_init_225 : decode cX8_init 225 = .ok (.putfield 96, 3) := by decide +kernel
theorem dX8_init_228 : decode cX8_init 228 = .ok (.aload_n 0, 1) := by decide +kernel
theorem dX8_init_229 : decode cX8_init 229 = .ok (.sipush 200, 3) := by decide +kernel
theorem dX8_init_232 : decode cX8_init 232 = .ok (.newarray .int, 2) := by decide +kernel
theorem dX8_init_234 : decode cX8_init 234 = .ok (.putfield 99, 3) := by decide +kernel
theorem dX8_init_237 : decode cX8_init 237 = .ok (.aload_n 0, 1) := by decide +kernel
theorem dX8_init_238 : decode cX8_init 238 = .ok (.bipush 36, 2) := by decide +kernel
theorem dX8_init_240 : decode cX8_init 240 = .ok (.newarray .boolean, 2) := by decide +kernel
theorem dX8_init_242 : decode cX8_init 242 = .ok (.putfield 102, 3) := by decide +kernel
theorem dX8_init_245 : decode cX8_init 245 = .ok (.aload_n 0, 1) := by decide +kernel
theorem dX8_init_246 : decode cX8_init 246 = .ok (.bipush 80, 2) := by decide +kernel
theorem dX8_init_248 : decode cX8_init 248 = .ok (.newarray .int, 2) := by decide +kernel
theorem dX8_init_250 : decode cX8_init 250 = .ok (.putfield 105, 3) := by decide +kernel
theorem dX8_init_253 : decode cX8_init 253 = .ok (.aload_n 0, 1) := by decide +kernel
theorem dX8_init_254 : decode cX8_init 254 = .ok (.iconst 5, 1) := by decide +kernel
theorem dX8_init_255 : decode cX8_init 255 = .ok (.newarray .int, 2) := by decide +kernel
theorem dX8_init_257 : decode cX8_init 257 = .ok (.putfield 108, 3) := by decide +kernel
theorem dX8_init_260 : decode cX8_init 260 = .ok (.aload_n 0, 1) := by decide +kernel
theorem dX8_init_261 : decode cX8_init 261 = .ok (.iconst 5, 1) := by decide +kernel
theorem dX8_init_262 : decode cX8_init 262 = .ok (.newarray .int, 2) := by decide +kernel
theorem dX8_init_264 : decode cX8_init 264 = .ok (.putfield 111, 3) := by decide +kernel
theorem dX8_init_267 : decode cX8_init 267 = .ok (.aload_n 0, 1) := by decide +kernel
theorem dX8_init_268 : decode cX8_init 268 = .ok (.bipush 36, 2) := by decide +kernel
theorem dX8_init_270 : decode cX8_init 270 = .ok (.newarray .boolean, 2) := by decide +kernel
theorem dX8_init_272 : decode cX8_init 272 = .ok (.putfield 114, 3) := by decide +kernel
theorem dX8_init_275 : decode cX8_init 275 = .ok (.aload_n 0, 1) := by decide +kernel
theorem dX8_init_276 : decode cX8_init 276 = .ok (.bipush 36, 2) := by decide +kernel
theorem dX8_init_278 : decode cX8_init 278 = .ok (.newarray .boolean, 2) := by decide +kernel
theorem dX8_init_280 : decode cX8_init 280 = .ok (.putfield 117, 3) := by decide +kernel
theorem dX8_init_283 : decode cX8_init 283 = .ok (.iconst 0, 1) := by decide +kernel
theorem dX8_init_284 : decode cX8_init 284 = .ok (.istore_n 1, 1) := by decide +kernel
theorem dX8_init_285 : decode cX8_init 285 = .ok (.iload_n 1, 1) := by decide +kernel
theorem dX8_init_286 : decode cX8_init 286 = .ok (.bipush 6, 2) := by decide +kernel
theorem dX8_init_288 : decode cX8_init 288 = .ok (.if_icmp .ge 17, 3) := by decide +kernel
theorem dX8_init_291 : decode cX8_init 291 = .ok (.aload_n 0, 1) := by decide +kernel
theorem dX8_init_292 : decode cX8_init 292 = .ok (.getfield 90, 3) := by decide +kernel
theorem dX8_init_295 : decode cX8_init 295 = .ok (.iload_n 1, 1) := by decide +kernel
theorem dX8_init_296 : decode cX8_init 296 = .ok (.bipush 99, 2) := by decide +kernel
theorem dX8_init_298 : decode cX8_init 298 = .ok (.iastore, 1) := by decide +kernel
theorem dX8_init_299 : decode cX8_init 299 = .ok (.iinc 1 1, 3) := by decide +kernel
theorem dX8_init_302 : decode cX8_init 302 = .ok (.goto (-17), 3) := by decide +kernel
theorem dX8_init_305 : decode cX8_init 305 = .ok (.iconst 0, 1) := by decide +kernel
theorem dX8_init_306 : decode cX8_init 306 = .ok (.istore_n 1, 1) := by decide +kernel
theorem dX8_init_307 : decode cX8_init 307 = .ok (.iload_n 1, 1) := by decide +kernel
theorem dX8_init_308 : decode cX8_init 308 = .ok (.bipush 36, 2) := by decide +kernel
theorem dX8_init_310 : decode cX8_init 310 = .ok (.if_icmp .ge 16, 3) := by decide +kernel
theorem dX8_init_313 : decode cX8_init 313 = .ok (.aload_n 0, 1) := by decide +kernel
theorem dX8_init_314 : decode cX8_init 314 = .ok (.getfield 23, 3) := by decide +kernel
theorem dX8_init_317 : decode cX8_init 317 = .ok (.iload_n 1, 1) := by decide +kernel
theorem dX8_init_318 : decode cX8_init 318 = .ok (.iconst 1, 1) := by decide +kernel
theorem dX8_init_319 : decode cX8_init 319 = .ok (.iastore, 1) := by decide +kernel
theorem dX8_init_320 : decode cX8_init 320 = .ok (.iinc 1 1, 3) := by decide +kernel
theorem dX8_init_323 : decode cX8_init 323 = .ok (.goto (-16), 3) := by decide +kernel
theorem dX8_init_326 : decode cX8_init 326 = .ok (.return_, 1) := by decide +kernel
theorem dX8_in_0 : decode cX8_in 0 = .ok (.lload_n 0, 1) := by decide +kernel
theorem dX8_in_1 : decode cX8_in 1 = .ok (.lload_n 2, 1) := by decide +kernel
theorem dX8_in_2 : decode cX8_in 2 = .ok (.lcmp, 1) := by decide +kernel
theorem dX8_in_3 : decode cX8_in 3 = .ok (.ifCond .lt 14, 3) := by decide +kernel
theorem dX8_in_6 : decode cX8_in 6 = .ok (.lload_n 0, 1) := by decide +kernel
theorem dX8_in_7 : decode cX8_in 7 = .ok (.lload 4, 2) := by decide +kernel
theorem dX8_in_9 : decode cX8_in 9 = .ok (.lcmp, 1) := by decide +kernel
theorem dX8_in_10 : decode cX8_in 10 = .ok (.ifCond .gt 7, 3) := by decide +kernel
theorem dX8_in_13 : decode cX8_in 13 = .ok (.iconst 1, 1) := by decide +kernel
theorem dX8_in_14 : decode cX8_in 14 = .ok (.goto 4, 3) := by decide +kernel
theorem dX8_in_17 : decode cX8_in 17 = .ok (.iconst 0, 1) := by decide +kernel
theorem dX8_in_18 : decode cX8_in 18 = .ok (.ireturn, 1) := by decide +kernel
set_option maxRecDepth 20000 in
theorem ggX8_noColumn_X8_in : GoodIn wsX8_noColumn wsX8_in := goodIn_r _ [5] (by decide +kernel) (by decide +kernel)
set_option maxRecDepth 20000 in
theorem gX8_noColumn_X8_in : GoodIn wsX8_noColumn (va_wsS RX8 123 yX8_in wsX8_in) := goodIn_app (goodIn_of _ (by decide +kernel)) ggX8_noColumn_X8_in
theorem dX8_noColumn_0 : decode cX8_noColumn 0 = .ok (.iload_n 1, 1) := by decide +kernel
theorem dX8_noColumn_1 : decode cX8_noColumn 1 = .ok (.i2l, 1) := by decide +kernel
theorem dX8_noColumn_2 : decode cX8_noColumn 2 = .ok (.lconst 0, 1) := by decide +kernel
theorem dX8_noColumn_3 : decode cX8_noColumn 3 = .ok (.aload_n 0, 1) := by decide +kernel
theorem dX8_noColumn_4 : decode cX8_noColumn 4 = .ok (.getfield 7, 3) := by decide +kernel
theorem dX8_noColumn_7 : decode cX8_noColumn 7 = .ok (.iconst 1, 1) := by decide +kernel
theorem dX8_noColumn_8 : decode cX8_noColumn 8 = .ok (.isub, 1) := by decide +kernel
theorem dX8_noColumn_9 : decode cX8_noColumn 9 = .ok (.i2l, 1) := by decide +kernel
theorem dX8_noColumn_10 : decode cX8_noColumn 10 = .ok (.invokestatic 123, 3) := by decide +kernel
theorem dX8_noColumn_13 : decode cX8_noColumn 13 = .ok (.ifCond .ne 7, 3) := by decide +kernel
theorem dX8_noColumn_16 : decode cX8_noColumn 16 = .ok (.iconst 1, 1) := by decide +kernel
theorem dX8_noColumn_17 : decode cX8_noColumn 17 = .ok (.goto 4, 3) := by decide +kernel
theorem dX8_noColumn_20 : decode cX8_noColumn 20 = .ok (.iconst 0, 1) := by decide +kernel
theorem dX8_noColumn_21 : decode cX8_noColumn 21 = .ok (.ireturn, 1) := by decide +kernel
set_option maxRecDepth 20000 in
theorem ggX8_noCell_X8_noColumn : GoodIn wsX8_noCell wsX8_noColumn := goodIn_r _ [6, 7, 8, 9, 5, 10, 11, 12, 13, 14, 15, 16, 17, 18, 19, 20, 21, 22, 23, 24, 25, 26, 27, 28, 29, 30, 31, 32, 33, 34, 35, 36, 37, 38, 39, 40, 41, 42, 43, 44, 45, 46, 47, 48, 49, 50, 51, 52] (by decide +kernel) (by decide +kernel)
set_option maxRecDepth 20000 in
theorem gX8_noCell_X8_noColumn : GoodIn wsX8_noCell (wsV RX8 127 RX8 yX8_noColumn wsX8_noColumn) := goodIn_app (goodIn_of _ (by decide +kernel)) ggX8_noCell_X8_noColumn
set_option maxRecDepth 20000 in
theorem ggX8_noCell_X8_in : GoodIn wsX8_noCell wsX8_in := goodIn_r _ [10] (by decide +kernel) (by decide +kernel)
set_option maxRecDepth 20000 in
theorem gX8_noCell_X8_in : GoodIn wsX8_noCell (va_wsS RX8 123 yX8_in wsX8_in) := goodIn_app (goodIn_of _ (by decide +kernel)) ggX8_noCell_X8_in
theorem dX8_noCell_0 : decode cX8_noCell 0 = .ok (.aload_n 0, 1) := by decide +kernel
theorem dX8_noCell_1 : decode cX8_noCell 1 = .ok (.iload_n 1, 1) := by decide +kernel
theorem dX8_noCell_2 : decode cX8_noCell 2 = .ok (.invokevirtual 127, 3) := by decide +kernel
theorem dX8_noCell_5 : decode cX8_noCell 5 = .ok (.ifCond .ne 19, 3) := by decide +kernel
theorem dX8_noCell_8 : decode cX8_noCell 8 = .ok (.iload_n 2, 1) := by decide +kernel
theorem dX8_noCell_9 : decode cX8_noCell 9 = .ok (.i2l, 1) := by decide +kernel
theorem dX8_noCell_10 : decode cX8_noCell 10 = .ok (.lconst 0, 1) := by decide +kernel
theorem dX8_noCell_11 : decode cX8_noCell 11 = .ok (.aload_n 0, 1) := by decide +kernel
theorem dX8_noCell_12 : decode cX8_noCell 12 = .ok (.getfield 13, 3) := by decide +kernel
theorem dX8_noCell_15 : decode cX8_noCell 15 = .ok (.iconst 1, 1) := by decide +kernel
theorem dX8_noCell_16 : decode cX8_noCell 16 = .ok (.isub, 1) := by decide +kernel
theorem dX8_noCell_17 : decode cX8_noCell 17 = .ok (.i2l, 1) := by decide +kernel
theorem dX8_noCell_18 : decode cX8_noCell 18 = .ok (.invokestatic 123, 3) := by decide +kernel
theorem dX8_noCell_21 : decode cX8_noCell 21 = .ok (.ifCond .ne 7, 3) := by decide +kernel
theorem dX8_noCell_24 : decode cX8_noCell 24 = .ok (.iconst 1, 1) := by decide +kernel
theorem dX8_noCell_25 : decode cX8_noCell 25 = .ok (.goto 4, 3) := by decide +kernel
theorem dX8_noCell_28 : decode cX8_noCell 28 = .ok (.iconst 0, 1) := by decide +kernel
theorem dX8_noCell_29 : decode cX8_noCell 29 = .ok (.ireturn, 1) := by decide +kernel
set_option maxRecDepth 20000 in
theorem ggX8_noBundle_X8_in : GoodIn wsX8_noBundle wsX8_in := goodIn_r _ [5] (by decide +kernel) (by decide +kernel)
set_option maxRecDepth 20000 in
theorem gX8_noBundle_X8_in : GoodIn wsX8_noBundle (va_wsS RX8 123 yX8_in wsX8_in) := goodIn_app (goodIn_of _ (by decide +kernel)) ggX8_noBundle_X8_in
theorem dX8_noBundle_0 : decode cX8_noBundle 0 = .ok (.iload_n 1, 1) := by decide +kernel
theorem dX8_noBundle_1 : decode cX8_noBundle 1 = .ok (.i2l, 1) := by decide +kernel
theorem dX8_noBundle_2 : decode cX8_noBundle 2 = .ok (.lconst 0, 1) := by decide +kernel
theorem dX8_noBundle_3 : decode cX8_noBundle 3 = .ok (.aload_n 0, 1) := by decide +kernel
theorem dX8_noBundle_4 : decode cX8_noBundle 4 = .ok (.getfield 131, 3) := by decide +kernel
theorem dX8_noBundle_7 : decode cX8_noBundle 7 = .ok (.iconst 1, 1) := by decide +kernel
theorem dX8_noBundle_8 : decode cX8_noBundle 8 = .ok (.isub, 1) := by decide +kernel
theorem dX8_noBundle_9 : decode cX8_noBundle 9 = .ok (.i2l, 1) := by decide +kernel
theorem dX8_noBundle_10 : decode cX8_noBundle 10 = .ok (.invokestatic 123, 3) := by decide +kernel
theorem dX8_noBundle_13 : decode cX8_noBundle 13 = .ok (.ifCond .ne 7, 3) := by decide +kernel
theorem dX8_noBundle_16 : decode cX8_noBundle 16 = .ok (.iconst 1, 1) := by decide +kernel
theorem dX8_noBundle_17 : decode cX8_noBundle 17 = .ok (.goto 4, 3) := by decide +kernel
theorem dX8_noBundle_20 : decode cX8_noBundle 20 = .ok (.iconst 0, 1) := by decide +kernel
theorem dX8_noBundle_21 : decode cX8_noBundle 21 = .ok (.ireturn, 1) := by decide +kernel
set_option maxRecDepth 20000 in
theorem ggX8_roof_X8_in : GoodIn wsX8_roof wsX8_in := goodIn_r _ [12] (by decide +kernel) (by decide +kernel)
set_option maxRecDepth 20000 in
theorem gX8_roof_X8_in : GoodIn wsX8_roof (va_wsS RX8 123 yX8_in wsX8_in) := goodIn_app (goodIn_of _ (by decide +kernel)) ggX8_roof_X8_in
theorem dX8_roof_0 : decode cX8_roof 0 = .ok (.aload_n 0, 1) := by decide +kernel
theorem dX8_roof_1 : decode cX8_roof 1 = .ok (.iconst 0, 1) := by decide +kernel
theorem dX8_roof_2 : decode cX8_roof 2 = .ok (.putfield 120, 3) := by decide +kernel
theorem dX8_roof_5 : decode cX8_roof 5 = .ok (.iload_n 1, 1) := by decide +kernel
theorem dX8_roof_6 : decode cX8_roof 6 = .ok (.i2l, 1) := by decide +kernel
theorem dX8_roof_7 : decode cX8_roof 7 = .ok (.lconst 1, 1) := by decide +kernel
theorem dX8_roof_8 : decode cX8_roof 8 = .ok (.ldc2_w 134, 3) := by decide +kernel
theorem dX8_roof_11 : decode cX8_roof 11 = .ok (.invokestatic 123, 3) := by decide +kernel
theorem dX8_roof_14 : decode cX8_roof 14 = .ok (.ifCond .eq 15, 3) := by decide +kernel
theorem dX8_roof_17 : decode cX8_roof 17 = .ok (.iload_n 2, 1) := by decide +kernel
theorem dX8_roof_18 : decode cX8_roof 18 = .ok (.i2l, 1) := by decide +kernel
theorem dX8_roof_19 : decode cX8_roof 19 = .ok (.lconst 1, 1) := by decide +kernel
theorem dX8_roof_20 : decode cX8_roof 20 = .ok (.ldc2_w 134, 3) := by decide +kernel
theorem dX8_roof_23 : decode cX8_roof 23 = .ok (.invokestatic 123, 3) := by decide +kernel
theorem dX8_roof_26 : decode cX8_roof 26 = .ok (.ifCond .ne 6, 3) := by decide +kernel
theorem dX8_roof_29 : decode cX8_roof 29 = .ok (.bipush (-2), 2) := by decide +kernel
theorem dX8_roof_31 : decode cX8_roof 31 = .ok (.ireturn, 1) := by decide +kernel
theorem dX8_roof_32 : decode cX8_roof 32 = .ok (.aload_n 0, 1) := by decide +kernel
theorem dX8_roof_33 : decode cX8_roof 33 = .ok (.iload_n 1, 1) := by decide +kernel
theorem dX8_roof_34 : decode cX8_roof 34 = .ok (.putfield 7, 3) := by decide +kernel
theorem dX8_roof_37 : decode cX8_roof 37 = .ok (.aload_n 0, 1) := by decide +kernel
theorem dX8_roof_38 : decode cX8_roof 38 = .ok (.iload_n 2, 1) := by decide +kernel
theorem dX8_roof_39 : decode cX8_roof 39 = .ok (.putfield 13, 3) := by decide +kernel
theorem dX8_roof_42 : decode cX8_roof 42 = .ok (.iconst 0, 1) := by decide +kernel
theorem dX8_roof_43 : decode cX8_roof 43 = .ok (.istore_n 3, 1) := by decide +kernel
theorem dX8_roof_44 : decode cX8_roof 44 = .ok (.iload_n 3, 1) := by decide +kernel
theorem dX8_roof_45 : decode cX8_roof 45 = .ok (.bipush 36, 2) := by decide +kernel
theorem dX8_roof_47 : decode cX8_roof 47 = .ok (.if_icmp .ge 23, 3) := by decide +kernel
theorem dX8_roof_50 : decode cX8_roof 50 = .ok (.aload_n 0, 1) := by decide +kernel
theorem dX8_roof_51 : decode cX8_roof 51 = .ok (.getfield 19, 3) := by decide +kernel
theorem dX8_roof_54 : decode cX8_roof 54 = .ok (.iload_n 3, 1) := by decide +kernel
theorem dX8_roof_55 : decode cX8_roof 55 = .ok (.iconst 0, 1) := by decide +kernel
theorem dX8_roof_56 : decode cX8_roof 56 = .ok (.iastore, 1) := by decide +kernel
theorem dX8_roof_57 : decode cX8_roof 57 = .ok (.aload_n 0, 1) := by decide +kernel
theorem dX8_roof_58 : decode cX8_roof 58 = .ok (.getfield 23, 3) := by decide +kernel
theorem dX8_roof_61 : decode cX8_roof 61 = .ok (.iload_n 3, 1) := by decide +kernel
theorem dX8_roof_62 : decode cX8_roof 62 = .ok (.iconst 1, 1) := by decide +kernel
theorem dX8_roof_63 : decode cX8_roof 63 = .ok (.iastore, 1) := by decide +kernel
theorem dX8_roof_64 : decode cX8_roof 64 = .ok (.iinc 3 1, 3) := by decide +kernel
theorem dX8_roof_67 : decode cX8_roof 67 = .ok (.goto (-23), 3) := by decide +kernel
theorem dX8_roof_70 : decode cX8_roof 70 = .ok (.aload_n 0, 1) := by decide +kernel
theorem dX8_roof_71 : decode cX8_roof 71 = .ok (.iconst 0, 1) := by decide +kernel
theorem dX8_roof_72 : decode cX8_roof 72 = .ok (.putfield 131, 3) := by decide +kernel
theorem dX8_roof_75 : decode cX8_roof 75 = .ok (.aload_n 0, 1) := by decide +kernel
theorem dX8_roof_76 : decode cX8_roof 76 = .ok (.getfield 65, 3) := by decide +kernel
theorem dX8_roof_79 : decode cX8_roof 79 = .ok (.iconst 0, 1) := by decide +kernel
theorem dX8_roof_80 : decode cX8_roof 80 = .ok (.iconst 0, 1) := by decide +kernel
theorem dX8_roof_81 : decode cX8_roof 81 = .ok (.bastore, 1) := by decide +kernel
theorem dX8_roof_82 : decode cX8_roof 82 = .ok (.aload_n 0, 1) := by decide +kernel
theorem dX8_roof_83 : decode cX8_roof 83 = .ok (.getfield 65, 3) := by decide +kernel
theorem dX8_roof_86 : decode cX8_roof 86 = .ok (.iconst 1, 1) := by decide +kernel
theorem dX8_roof_87 : decode cX8_roof 87 = .ok (.iconst 0, 1) := by decide +kernel
theorem dX8_roof_88 : decode cX8_roof 88 = .ok (.bastore, 1) := by decide +kernel
theorem dX8_roof_89 : decode cX8_roof 89 = .ok (.iload_n 1, 1) := by decide +kernel
theorem dX8_roof_90 : decode cX8_roof 90 = .ok (.iload_n 2, 1) := by decide +kernel
theorem dX8_roof_91 : decode cX8_roof 91 = .ok (.imul, 1) := by decide +kernel
theorem dX8_roof_92 : decode cX8_roof 92 = .ok (.ireturn, 1) := by decide +kernel
set_option maxRecDepth 20000 in
theorem ggX8_pitch_X8_in : GoodIn wsX8_pitch wsX8_in := goodIn_r _ [7] (by decide +kernel) (by decide +kernel)
set_option maxRecDepth 20000 in
theorem gX8_pitch_X8_in : GoodIn wsX8_pitch (va_wsS RX8 123 yX8_in wsX8_in) := goodIn_app (goodIn_of _ (by decide +kernel)) ggX8_pitch_X8_in
theorem dX8_pitch_0 : decode cX8_pitch 0 = .ok (.aload_n 0, 1) := by decide +kernel
theorem dX8_pitch_1 : decode cX8_pitch 1 = .ok (.iconst 0, 1) := by decide +kernel
theorem dX8_pitch_2 : decode cX8_pitch 2 = .ok (.putfield 120, 3) := by decide +kernel
theorem dX8_pitch_5 : decode cX8_pitch 5 = .ok (.iload_n 1, 1) := by decide +kernel
theorem dX8_pitch_6 : decode cX8_pitch 6 = .ok (.i2l, 1) := by decide +kernel
theorem dX8_pitch_7 : decode cX8_pitch 7 = .ok (.lconst 1, 1) := by decide +kernel
theorem dX8_pitch_8 : decode cX8_pitch 8 = .ok (.ldc2_w 136, 3) := by decide +kernel
theorem dX8_pitch_11 : decode cX8_pitch 11 = .ok (.invokestatic 123, 3) := by decide +kernel
theorem dX8_pitch_14 : decode cX8_pitch 14 = .ok (.ifCond .ne 6, 3) := by decide +kernel
theorem dX8_pitch_17 : decode cX8_pitch 17 = .ok (.bipush (-2), 2) := by decide +kernel
theorem dX8_pitch_19 : decode cX8_pitch 19 = .ok (.ireturn, 1) := by decide +kernel
theorem dX8_pitch_20 : decode cX8_pitch 20 = .ok (.aload_n 0, 1) := by decide +kernel
theorem dX8_pitch_21 : decode cX8_pitch 21 = .ok (.getfield 16, 3) := by decide +kernel
theorem dX8_pitch_24 : decode cX8_pitch 24 = .ok (.istore_n 2, 1) := by decide +kernel
theorem dX8_pitch_25 : decode cX8_pitch 25 = .ok (.aload_n 0, 1) := by decide +kernel
theorem dX8_pitch_26 : decode cX8_pitch 26 = .ok (.iload_n 1, 1) := by decide +kernel
theorem dX8_pitch_27 : decode cX8_pitch 27 = .ok (.putfield 16, 3) := by decide +kernel
theorem dX8_pitch_30 : decode cX8_pitch 30 = .ok (.iload_n 2, 1) := by decide +kernel
theorem dX8_pitch_31 : decode cX8_pitch 31 = .ok (.ireturn, 1) := by decide +kernel
set_option maxRecDepth 20000 in
theorem ggX8_wear_X8_noCell : GoodIn wsX8_wear wsX8_noCell := goodIn_r _ [8, 9, 10, 11, 12, 7, 13, 14, 15, 16, 17, 18, 19, 20, 21, 22, 23, 24, 25, 26, 27, 28, 29, 30, 31, 32, 33, 34, 35, 36, 37, 38, 39, 40, 41, 42, 43, 44, 45, 46, 47, 48, 49, 50, 51, 52, 53, 54, 55, 56, 57, 58, 59] (by decide +kernel) (by decide +kernel)
set_option maxRecDepth 20000 in
theorem gX8_wear_X8_noCell : GoodIn wsX8_wear (wsV RX8 138 RX8 yX8_noCell wsX8_noCell) := goodIn_app (goodIn_of _ (by decide +kernel)) ggX8_wear_X8_noCell
set_option maxRecDepth 20000 in
theorem ggX8_wear_X8_in : GoodIn wsX8_wear wsX8_in := goodIn_r _ [17] (by decide +kernel) (by decide +kernel)
set_option maxRecDepth 20000 in
theorem gX8_wear_X8_in : GoodIn wsX8_wear (va_wsS RX8 123 yX8_in wsX8_in) := goodIn_app (goodIn_of _ (by decide +kernel)) ggX8_wear_X8_in
theorem dX8_wear_0 : decode cX8_wear 0 = .ok (.aload_n 0, 1) := by decide +kernel
theorem dX8_wear_1 : decode cX8_wear 1 = .ok (.iconst 0, 1) := by decide +kernel
theorem dX8_wear_2 : decode cX8_wear 2 = .ok (.putfield 120, 3) := by decide +kernel
theorem dX8_wear_5 : decode cX8_wear 5 = .ok (.aload_n 0, 1) := by decide +kernel
theorem dX8_wear_6 : decode cX8_wear 6 = .ok (.iload_n 1, 1) := by decide +kernel
theorem dX8_wear_7 : decode cX8_wear 7 = .ok (.iload_n 2, 1) := by decide +kernel
theorem dX8_wear_8 : decode cX8_wear 8 = .ok (.invokevirtual 138, 3) := by decide +kernel
theorem dX8_wear_11 : decode cX8_wear 11 = .ok (.ifCond .eq 5, 3) := by decide +kernel
theorem dX8_wear_14 : decode cX8_wear 14 = .ok (.iconst (-1), 1) := by decide +kernel
theorem dX8_wear_15 : decode cX8_wear 15 = .ok (.ireturn, 1) := by decide +kernel
theorem dX8_wear_16 : decode cX8_wear 16 = .ok (.iload_n 3, 1) := by decide +kernel
theorem dX8_wear_17 : decode cX8_wear 17 = .ok (.i2l, 1) := by decide +kernel
theorem dX8_wear_18 : decode cX8_wear 18 = .ok (.lconst 1, 1) := by decide +kernel
theorem dX8_wear_19 : decode cX8_wear 19 = .ok (.ldc2_w 136, 3) := by decide +kernel
theorem dX8_wear_22 : decode cX8_wear 22 = .ok (.invokestatic 123, 3) := by decide +kernel
theorem dX8_wear_25 : decode cX8_wear 25 = .ok (.ifCond .ne 6, 3) := by decide +kernel
theorem dX8_wear_28 : decode cX8_wear 28 = .ok (.bipush (-2), 2) := by decide +kernel
theorem dX8_wear_30 : decode cX8_wear 30 = .ok (.ireturn, 1) := by decide +kernel
theorem dX8_wear_31 : decode cX8_wear 31 = .ok (.aload_n 0, 1) := by decide +kernel
theorem dX8_wear_32 : decode cX8_wear 32 = .ok (.getfield 23, 3) := by decide +kernel
theorem dX8_wear_35 : decode cX8_wear 35 = .ok (.bipush 6, 2) := by decide +kernel
theorem dX8_wear_37 : decode cX8_wear 37 = .ok (.iload_n 1, 1) := by decide +kernel
theorem dX8_wear_38 : decode cX8_wear 38 = .ok (.imul, 1) := by decide +kernel
theorem dX8_wear_39 : decode cX8_wear 39 = .ok (.iload_n 2, 1) := by decide +kernel
theorem dX8_wear_40 : decode cX8_wear 40 = .ok (.iadd, 1) := by decide +kernel
theorem dX8_wear_41 : decode cX8_wear 41 = .ok (.iaload, 1) := by decide +kernel
theorem dX8_wear_42 : decode cX8_wear 42 = .ok (.istore 4, 2) := by decide +kernel
theorem dX8_wear_44 : decode cX8_wear 44 = .ok (.aload_n 0, 1) := by decide +kernel
theorem dX8_wear_45 : decode cX8_wear 45 = .ok (.getfield 23, 3) := by decide +kernel
theorem dX8_wear_48 : decode cX8_wear 48 = .ok (.bipush 6, 2) := by decide +kernel
theorem dX8_wear_50 : decode cX8_wear 50 = .ok (.iload_n 1, 1) := by decide +kernel
theorem dX8_wear_51 : decode cX8_wear 51 = .ok (.imul, 1) := by decide +kernel
theorem dX8_wear_52 : decode cX8_wear 52 = .ok (.iload_n 2, 1) := by decide +kernel
theorem dX8_wear_53 : decode cX8_wear 53 = .ok (.iadd, 1) := by decide +kernel
theorem dX8_wear_54 : decode cX8_wear 54 = .ok (.iload_n 3, 1) := by decide +kernel
theorem dX8_wear_55 : decode cX8_wear 55 = .ok (.iastore, 1) := by decide +kernel
theorem dX8_wear_56 : decode cX8_wear 56 = .ok (.iload 4, 2) := by decide +kernel
theorem dX8_wear_58 : decode cX8_wear 58 = .ok (.ireturn, 1) := by decide +kernel
theorem dX8_topOf_0 : decode cX8_topOf 0 = .ok (.iload_n 3, 1) := by decide +kernel
theorem dX8_topOf_1 : decode cX8_topOf 1 = .ok (.iconst 1, 1) := by decide +kernel
theorem dX8_topOf_2 : decode cX8_topOf 2 = .ok (.isub, 1) := by decide +kernel
theorem dX8_topOf_3 : decode cX8_topOf 3 = .ok (.istore 4, 2) := by decide +kernel
theorem dX8_topOf_5 : decode cX8_topOf 5 = .ok (.iload 4, 2) := by decide +kernel
theorem dX8_topOf_7 : decode cX8_topOf 7 = .ok (.ifCond .lt 38, 3) := by decide +kernel
theorem dX8_topOf_10 : decode cX8_topOf 10 = .ok (.aload_n 0, 1) := by decide +kernel
theorem dX8_topOf_11 : decode cX8_topOf 11 = .ok (.getfield 26, 3) := by decide +kernel
theorem dX8_topOf_14 : decode cX8_topOf 14 = .ok (.iload 4, 2) := by decide +kernel
theorem dX8_topOf_16 : decode cX8_topOf 16 = .ok (.iaload, 1) := by decide +kernel
theorem dX8_topOf_17 : decode cX8_topOf 17 = .ok (.iload_n 1, 1) := by decide +kernel
theorem dX8_topOf_18 : decode cX8_topOf 18 = .ok (.if_icmp .ne 21, 3) := by decide +kernel
theorem dX8_topOf_21 : decode cX8_topOf 21 = .ok (.aload_n 0, 1) := by decide +kernel
theorem dX8_topOf_22 : decode cX8_topOf 22 = .ok (.getfield 41, 3) := by decide +kernel
theorem dX8_topOf_25 : decode cX8_topOf 25 = .ok (.bipush 6, 2) := by decide +kernel
theorem dX8_topOf_27 : decode cX8_topOf 27 = .ok (.iload 4, 2) := by decide +kernel
theorem dX8_topOf_29 : decode cX8_topOf 29 = .ok (.imul, 1) := by decide +kernel
theorem dX8_topOf_30 : decode cX8_topOf 30 = .ok (.iload_n 2, 1) := by decide +kernel
theorem dX8_topOf_31 : decode cX8_topOf 31 = .ok (.iadd, 1) := by decide +kernel
theorem dX8_topOf_32 : decode cX8_topOf 32 = .ok (.iaload, 1) := by decide +kernel
theorem dX8_topOf_33 : decode cX8_topOf 33 = .ok (.ifCond .le 6, 3) := by decide +kernel
theorem dX8_topOf_36 : decode cX8_topOf 36 = .ok (.iload 4, 2) := by decide +kernel
theorem dX8_topOf_38 : decode cX8_topOf 38 = .ok (.ireturn, 1) := by decide +kernel
theorem dX8_topOf_39 : decode cX8_topOf 39 = .ok (.iinc 4 (-1), 3) := by decide +kernel
theorem dX8_topOf_42 : decode cX8_topOf 42 = .ok (.goto (-37), 3) := by decide +kernel
theorem dX8_topOf_45 : decode cX8_topOf 45 = .ok (.bipush (-9), 2) := by decide +kernel
theorem dX8_topOf_47 : decode cX8_topOf 47 = .ok (.ireturn, 1) := by decide +kernel
set_option maxRecDepth 20000 in
theorem ggX8_opening_X8_noCell : GoodIn wsX8_opening wsX8_noCell := goodIn_r _ [9, 10, 11, 12, 13, 8, 14, 15, 16, 17, 18, 25, 26, 27, 28, 29, 30, 31, 32, 33, 34, 35, 36, 37, 38, 39, 40, 41, 42, 43, 44, 45, 46, 47, 48, 49, 50, 51, 52, 53, 54, 55, 56, 57, 58, 59, 60, 61, 62, 63, 64, 65, 66] (by decide +kernel) (by decide +kernel)
set_option maxRecDepth 20000 in
theorem gX8_opening_X8_noCell : GoodIn wsX8_opening (wsV RX8 138 RX8 yX8_noCell wsX8_noCell) := goodIn_app (goodIn_of _ (by decide +kernel)) ggX8_opening_X8_noCell
set_option maxRecDepth 20000 in
theorem ggX8_opening_X8_in : GoodIn wsX8_opening wsX8_in := goodIn_r _ [18] (by decide +kernel) (by decide +kernel)
set_option maxRecDepth 20000 in
theorem gX8_opening_X8_in : GoodIn wsX8_opening (va_wsS RX8 123 yX8_in wsX8_in) := goodIn_app (goodIn_of _ (by decide +kernel)) ggX8_opening_X8_in
set_option maxRecDepth 20000 in
theorem ggX8_opening_X8_topOf : GoodIn wsX8_opening wsX8_topOf := goodIn_r _ [22, 23, 24, 25, 26, 27, 28, 29, 30, 31, 32, 33, 34, 35, 36, 37, 38, 39, 40, 41, 42, 43, 44, 45, 46, 47, 48, 49, 50, 51, 52, 53, 54, 55, 56, 57, 58, 59, 60, 61, 62, 63, 64, 65, 66] (by decide +kernel) (by decide +kernel)
set_option maxRecDepth 20000 in
theorem gX8_opening_X8_topOf : GoodIn wsX8_opening (wsV RX8 144 RX8 yX8_topOf wsX8_topOf) := goodIn_app (goodIn_of _ (by decide +kernel)) ggX8_opening_X8_topOf
theorem dX8_opening_0 : decode cX8_opening 0 = .ok (.aload_n 0, 1) := by decide +kernel
theorem dX8_opening_1 : decode cX8_opening 1 = .ok (.iconst 0, 1) := by decide +kernel
theorem dX8_opening_2 : decode cX8_opening 2 = .ok (.putfield 120, 3) := by decide +kernel
theorem dX8_opening_5 : decode cX8_opening 5 = .ok (.aload_n 0, 1) := by decide +kernel
theorem dX8_opening_6 : decode cX8_opening 6 = .ok (.iload_n 1, 1) := by decide +kernel
theorem dX8_opening_7 : decode cX8_opening 7 = .ok (.iload_n 2, 1) := by decide +kernel
theorem dX8_opening_8 : decode cX8_opening 8 = .ok (.invokevirtual 138, 3) := by decide +kernel
theorem dX8_opening_11 : decode cX8_opening 11 = .ok (.ifCond .eq 5, 3) := by decide +kernel
theorem dX8_opening_14 : decode cX8_opening 14 = .ok (.iconst (-1), 1) := by decide +kernel
theorem dX8_opening_15 : decode cX8_opening 15 = .ok (.ireturn, 1) := by decide +kernel
theorem dX8_opening_16 : decode cX8_opening 16 = .ok (.iload_n 3, 1) := by decide +kernel
theorem dX8_opening_17 : decode cX8_opening 17 = .ok (.i2l, 1) := by decide +kernel
theorem dX8_opening_18 : decode cX8_opening 18 = .ok (.lconst 0, 1) := by decide +kernel
theorem dX8_opening_19 : decode cX8_opening 19 = .ok (.ldc2_w 142, 3) := by decide +kernel
theorem dX8_opening_22 : decode cX8_opening 22 = .ok (.invokestatic 123, 3) := by decide +kernel
theorem dX8_opening_25 : decode cX8_opening 25 = .ok (.ifCond .ne 6, 3) := by decide +kernel
theorem dX8_opening_28 : decode cX8_opening 28 = .ok (.bipush (-2), 2) := by decide +kernel
theorem dX8_opening_30 : decode cX8_opening 30 = .ok (.ireturn, 1) := by decide +kernel
theorem dX8_opening_31 : decode cX8_opening 31 = .ok (.aload_n 0, 1) := by decide +kernel
theorem dX8_opening_32 : decode cX8_opening 32 = .ok (.iload_n 1, 1) := by decide +kernel
theorem dX8_opening_33 : decode cX8_opening 33 = .ok (.iload_n 2, 1) := by decide +kernel
theorem dX8_opening_34 : decode cX8_opening 34 = .ok (.aload_n 0, 1) := by decide +kernel
theorem dX8_opening_35 : decode cX8_opening 35 = .ok (.getfield 131, 3) := by decide +kernel
theorem dX8_opening_38 : decode cX8_opening 38 = .ok (.invokevirtual 144, 3) := by decide +kernel
theorem dX8_opening_41 : decode cX8_opening 41 = .ok (.bipush (-9), 2) := by decide +kernel
theorem dX8_opening_43 : decode cX8_opening 43 = .ok (.if_icmp .eq 6, 3) := by decide +kernel
theorem dX8_opening_46 : decode cX8_opening 46 = .ok (.bipush (-3), 2) := by decide +kernel
theorem dX8_opening_48 : decode cX8_opening 48 = .ok (.ireturn, 1) := by decide +kernel
theorem dX8_opening_49 : decode cX8_opening 49 = .ok (.aload_n 0, 1) := by decide +kernel
theorem dX8_opening_50 : decode cX8_opening 50 = .ok (.getfield 19, 3) := by decide +kernel
theorem dX8_opening_53 : decode cX8_opening 53 = .ok (.bipush 6, 2) := by decide +kernel
theorem dX8_opening_55 : decode cX8_opening 55 = .ok (.iload_n 1, 1) := by decide +kernel
theorem dX8_opening_56 : decode cX8_opening 56 = .ok (.imul, 1) := by decide +kernel
theorem dX8_opening_57 : decode cX8_opening 57 = .ok (.iload_n 2, 1) := by decide +kernel
theorem dX8_opening_58 : decode cX8_opening 58 = .ok (.iadd, 1) := by decide +kernel
theorem dX8_opening_59 : decode cX8_opening 59 = .ok (.iaload, 1) := by decide +kernel
theorem dX8_opening_60 : decode cX8_opening 60 = .ok (.istore 4, 2) := by decide +kernel
theorem dX8_opening_62 : decode cX8_opening 62 = .ok (.aload_n 0, 1) := by decide +kernel
theorem dX8_opening_63 : decode cX8_opening 63 = .ok (.getfield 19, 3) := by decide +kernel
theorem dX8_opening_66 : decode cX8_opening 66 = .ok (.bipush 6, 2) := by decide +kernel
theorem dX8_opening_68 : decode cX8_opening 68 = .ok (.iload_n 1, 1) := by decide +kernel
theorem dX8_opening_69 : decode cX8_opening 69 = .ok (.imul, 1) := by decide +kernel
theorem dX8_opening_70 : decode cX8_opening 70 = .ok (.iload_n 2, 1) := by decide +kernel
theorem dX8_opening_71 : decode cX8_opening 71 = .ok (.iadd, 1) := by decide +kernel
theorem dX8_opening_72 : decode cX8_opening 72 = .ok (.iload_n 3, 1) := by decide +kernel
theorem dX8_opening_73 : decode cX8_opening 73 = .ok (.iastore, 1) := by decide +kernel
theorem dX8_opening_74 : decode cX8_opening 74 = .ok (.iload 4, 2) := by decide +kernel
theorem dX8_opening_76 : decode cX8_opening 76 = .ok (.ireturn, 1) := by decide +kernel
theorem dX8_put_0 : decode cX8_put 0 = .ok (.aload_n 0, 1) := by decide +kernel
theorem dX8_put_1 : decode cX8_put 1 = .ok (.getfield 26, 3) := by decide +kernel
theorem dX8_put_4 : decode cX8_put 4 = .ok (.aload_n 0, 1) := by decide +kernel
theorem dX8_put_5 : decode cX8_put 5 = .ok (.getfield 131, 3) := by decide +kernel
theorem dX8_put_8 : decode cX8_put 8 = .ok (.iload_n 1, 1) := by decide +kernel
theorem dX8_put_9 : decode cX8_put 9 = .ok (.iastore, 1) := by decide +kernel
theorem dX8_put_10 : decode cX8_put 10 = .ok (.aload_n 0, 1) := by decide +kernel
theorem dX8_put_11 : decode cX8_put 11 = .ok (.getfield 29, 3) := by decide +kernel
theorem dX8_put_14 : decode cX8_put 14 = .ok (.aload_n 0, 1) := by decide +kernel
theorem dX8_put_15 : decode cX8_put 15 = .ok (.getfield 131, 3) := by decide +kernel
theorem dX8_put_18 : decode cX8_put 18 = .ok (.iload_n 2, 1) := by decide +kernel
theorem dX8_put_19 : decode cX8_put 19 = .ok (.iastore, 1) := by decide +kernel
theorem dX8_put_20 : decode cX8_put 20 = .ok (.aload_n 0, 1) := by decide +kernel
theorem dX8_put_21 : decode cX8_put 21 = .ok (.getfield 32, 3) := by decide +kernel
theorem dX8_put_24 : decode cX8_put 24 = .ok (.aload_n 0, 1) := by decide +kernel
theorem dX8_put_25 : decode cX8_put 25 = .ok (.getfield 131, 3) := by decide +kernel
theorem dX8_put_28 : decode cX8_put 28 = .ok (.iload_n 3, 1) := by decide +kernel
theorem dX8_put_29 : decode cX8_put 29 = .ok (.iastore, 1) := by decide +kernel
theorem dX8_put_30 : decode cX8_put 30 = .ok (.aload_n 0, 1) := by decide +kernel
theorem dX8_put_31 : decode cX8_put 31 = .ok (.getfield 35, 3) := by decide +kernel
theorem dX8_put_34 : decode cX8_put 34 = .ok (.aload_n 0, 1) := by decide +kernel
theorem dX8_put_35 : decode cX8_put 35 = .ok (.getfield 131, 3) := by decide +kernel
theorem dX8_put_38 : decode cX8_put 38 = .ok (.iload 4, 2) := by decide +kernel
theorem dX8_put_40 : decode cX8_put 40 = .ok (.iastore, 1) := by decide +kernel
theorem dX8_put_41 : decode cX8_put 41 = .ok (.aload_n 0, 1) := by decide +kernel
theorem dX8_put_42 : decode cX8_put 42 = .ok (.getfield 38, 3) := by decide +kernel
theorem dX8_put_45 : decode cX8_put 45 = .ok (.aload_n 0, 1) := by decide +kernel
theorem dX8_put_46 : decode cX8_put 46 = .ok (.getfield 131, 3) := by decide +kernel
theorem dX8_put_49 : decode cX8_put 49 = .ok (.iload 5, 2) := by decide +kernel
theorem dX8_put_51 : decode cX8_put 51 = .ok (.iastore, 1) := by decide +kernel
theorem dX8_put_52 : decode cX8_put 52 = .ok (.iconst 1, 1) := by decide +kernel
theorem dX8_put_53 : decode cX8_put 53 = .ok (.istore 6, 2) := by decide +kernel
theorem dX8_put_55 : decode cX8_put 55 = .ok (.iconst 0, 1) := by decide +kernel
theorem dX8_put_56 : decode cX8_put 56 = .ok (.istore 7, 2) := by decide +kernel
theorem dX8_put_58 : decode cX8_put 58 = .ok (.iload 7, 2) := by decide +kernel
theorem dX8_put_60 : decode cX8_put 60 = .ok (.bipush 6, 2) := by decide +kernel
theorem dX8_put_62 : decode cX8_put 62 = .ok (.if_icmp .ge 25, 3) := by decide +kernel
theorem dX8_put_65 : decode cX8_put 65 = .ok (.aload_n 0, 1) := by decide +kernel
theorem dX8_put_66 : decode cX8_put 66 = .ok (.getfield 41, 3) := by decide +kernel
theorem dX8_put_69 : decode cX8_put 69 = .ok (.bipush 6, 2) := by decide +kernel
theorem dX8_put_71 : decode cX8_put 71 = .ok (.aload_n 0, 1) := by decide +kernel
theorem dX8_put_72 : decode cX8_put 72 = .ok (.getfield 131, 3) := by decide +kernel
theorem dX8_put_75 : decode cX8_put 75 = .ok (.imul, 1) := by decide +kernel
theorem dX8_put_76 : decode cX8_put 76 = .ok (.iload 7, 2) := by decide +kernel
theorem dX8_put_78 : decode cX8_put 78 = .ok (.iadd, 1) := by decide +kernel
theorem dX8_put_79 : decode cX8_put 79 = .ok (.iconst 0, 1) := by decide +kernel
theorem dX8_put_80 : decode cX8_put 80 = .ok (.iastore, 1) := by decide +kernel
theorem dX8_put_81 : decode cX8_put 81 = .ok (.iinc 7 1, 3) := by decide +kernel
theorem dX8_put_84 : decode cX8_put 84 = .ok (.goto (-26), 3) := by decide +kernel
theorem dX8_put_87 : decode cX8_put 87 = .ok (.iload_n 2, 1) := by decide +kernel
theorem dX8_put_88 : decode cX8_put 88 = .ok (.istore 7, 2) := by decide +kernel
theorem dX8_put_90 : decode cX8_put 90 = .ok (.iload 7, 2) := by decide +kernel
theorem dX8_put_92 : decode cX8_put 92 = .ok (.ifCond .lt 70, 3) := by decide +kernel
theorem dX8_put_95 : decode cX8_put 95 = .ok (.iload 7, 2) := by decide +kernel
theorem dX8_put_97 : decode cX8_put 97 = .ok (.iload_n 2, 1) := by decide +kernel
theorem dX8_put_98 : decode cX8_put 98 = .ok (.iload_n 3, 1) := by decide +kernel
theorem dX8_put_99 : decode cX8_put 99 = .ok (.isub, 1) := by decide +kernel
theorem dX8_put_100 : decode cX8_put 100 = .ok (.if_icmp .le 62, 3) := by decide +kernel
theorem dX8_put_103 : decode cX8_put 103 = .ok (.iload 6, 2) := by decide +kernel
theorem dX8_put_105 : decode cX8_put 105 = .ok (.ifCond .eq 22, 3) := by decide +kernel
theorem dX8_put_108 : decode cX8_put 108 = .ok (.aload_n 0, 1) := by decide +kernel
theorem dX8_put_109 : decode cX8_put 109 = .ok (.getfield 19, 3) := by decide +kernel
theorem dX8_put_112 : decode cX8_put 112 = .ok (.bipush 6, 2) := by decide +kernel
theorem dX8_put_114 : decode cX8_put 114 = .ok (.iload_n 1, 1) := by decide +kernel
theorem dX8_put_115 : decode cX8_put 115 = .ok (.imul, 1) := by decide +kernel
theorem dX8_put_116 : decode cX8_put 116 = .ok (.iload 7, 2) := by decide +kernel
theorem dX8_put_118 : decode cX8_put 118 = .ok (.iadd, 1) := by decide +kernel
theorem dX8_put_119 : decode cX8_put 119 = .ok (.iaload, 1) := by decide +kernel
theorem dX8_put_120 : decode cX8_put 120 = .ok (.ifCond .ne 7, 3) := by decide +kernel
theorem dX8_put_123 : decode cX8_put 123 = .ok (.iconst 1, 1) := by decide +kernel
theorem dX8_put_124 : decode cX8_put 124 = .ok (.goto 4, 3) := by decide +kernel
theorem dX8_put_127 : decode cX8_put 127 = .ok (.iconst 0, 1) := by decide +kernel
theorem dX8_put_128 : decode cX8_put 128 = .ok (.istore 6, 2) := by decide +kernel
theorem dX8_put_130 : decode cX8_put 130 = .ok (.aload_n 0, 1) := by decide +kernel
theorem dX8_put_131 : decode cX8_put 131 = .ok (.getfield 41, 3) := by decide +kernel
theorem dX8_put_134 : decode cX8_put 134 = .ok (.bipush 6, 2) := by decide +kernel
theorem dX8_put_136 : decode cX8_put 136 = .ok (.aload_n 0, 1) := by decide +kernel
theorem dX8_put_137 : decode cX8_put 137 = .ok (.getfield 131, 3) := by decide +kernel
theorem dX8_put_140 : decode cX8_put 140 = .ok (.imul, 1) := by decide +kernel
theorem dX8_put_141 : decode cX8_put 141 = .ok (.iload 7, 2) := by decide +kernel
theorem dX8_put_143 : decode cX8_put 143 = .ok (.iadd, 1) := by decide +kernel
theorem dX8_put_144 : decode cX8_put 144 = .ok (.iload 6, 2) := by decide +kernel
theorem dX8_put_146 : decode cX8_put 146 = .ok (.ifCond .eq 8, 3) := by decide +kernel
theorem dX8_put_149 : decode cX8_put 149 = .ok (.iload 5, 2) := by decide +kernel
theorem dX8_put_151 : decode cX8_put 151 = .ok (.goto 4, 3) := by decide +kernel
theorem dX8_put_154 : decode cX8_put 154 = .ok (.iconst 0, 1) := by decide +kernel
theorem dX8_put_155 : decode cX8_put 155 = .ok (.iastore, 1) := by decide +kernel
theorem dX8_put_156 : decode cX8_put 156 = .ok (.iinc 7 (-1), 3) := by decide +kernel
theorem dX8_put_159 : decode cX8_put 159 = .ok (.goto (-69), 3) := by decide +kernel
theorem dX8_put_162 : decode cX8_put 162 = .ok (.aload_n 0, 1) := by decide +kernel
theorem dX8_put_163 : decode cX8_put 163 = .ok (.dup, 1) := by decide +kernel
theorem dX8_put_164 : decode cX8_put 164 = .ok (.getfield 131, 3) := by decide +kernel
theorem dX8_put_167 : decode cX8_put 167 = .ok (.iconst 1, 1) := by decide +kernel
theorem dX8_put_168 : decode cX8_put 168 = .ok (.iadd, 1) := by decide +kernel
theorem dX8_put_169 : decode cX8_put 169 = .ok (.putfield 131, 3) := by decide +kernel
theorem dX8_put_172 : decode cX8_put 172 = .ok (.return_, 1) := by decide +kernel
set_option maxRecDepth 20000 in
theorem ggX8_lay_X8_noCell : GoodIn wsX8_lay wsX8_noCell := goodIn_r _ [11, 12, 13, 14, 15, 10, 16, 17, 18, 19, 20, 31, 32, 33, 34, 35, 36, 37, 38, 39, 40, 41, 42, 43, 44, 45, 46, 47, 48, 49, 50, 51, 52, 53, 54, 55, 56, 57, 58, 59, 60, 61, 62, 63, 64, 65, 66, 67, 68, 69, 70, 71, 72] (by decide +kernel) (by decide +kernel)
set_option maxRecDepth 20000 in
theorem gX8_lay_X8_noCell : GoodIn wsX8_lay (wsV RX8 138 RX8 yX8_noCell wsX8_noCell) := goodIn_app (goodIn_of _ (by decide +kernel)) ggX8_lay_X8_noCell
set_option maxRecDepth 20000 in
theorem ggX8_lay_X8_in : GoodIn wsX8_lay wsX8_in := goodIn_r _ [20] (by decide +kernel) (by decide +kernel)
set_option maxRecDepth 20000 in
theorem gX8_lay_X8_in : GoodIn wsX8_lay (va_wsS RX8 123 yX8_in wsX8_in) := goodIn_app (goodIn_of _ (by decide +kernel)) ggX8_lay_X8_in
set_option maxRecDepth 20000 in
theorem ggX8_lay_X8_put : GoodIn wsX8_lay wsX8_put := goodIn_r _ [24, 25, 6, 26, 27, 28, 29, 30, 5, 31, 32, 33, 34, 35, 36, 37, 38, 39, 40, 41, 42, 43, 44, 45, 46, 47, 48, 49, 50, 51, 52, 53, 54, 55, 56, 57, 58, 59, 60, 61, 62, 63, 64, 65, 66, 67, 68, 69, 70, 71, 72] (by decide +kernel) (by decide +kernel)
set_option maxRecDepth 20000 in
theorem gX8_lay_X8_put : GoodIn wsX8_lay (wsV RX8 152 RX8 yX8_put wsX8_put) := goodIn_app (goodIn_of _ (by decide +kernel)) ggX8_lay_X8_put
theorem dX8_lay_0 : decode cX8_lay 0 = .ok (.aload_n 0, 1) := by decide +kernel
theorem dX8_lay_1 : decode cX8_lay 1 = .ok (.iconst 0, 1) := by decide +kernel
theorem dX8_lay_2 : decode cX8_lay 2 = .ok (.putfield 120, 3) := by decide +kernel
theorem dX8_lay_5 : decode cX8_lay 5 = .ok (.aload_n 0, 1) := by decide +kernel
theorem dX8_lay_6 : decode cX8_lay 6 = .ok (.iload_n 1, 1) := by decide +kernel
theorem dX8_lay_7 : decode cX8_lay 7 = .ok (.iload_n 2, 1) := by decide +kernel
theorem dX8_lay_8 : decode cX8_lay 8 = .ok (.invokevirtual 138, 3) := by decide +kernel
theorem dX8_lay_11 : decode cX8_lay 11 = .ok (.ifCond .ne 16, 3) := by decide +kernel
theorem dX8_lay_14 : decode cX8_lay 14 = .ok (.iload 4, 2) := by decide +kernel
theorem dX8_lay_16 : decode cX8_lay 16 = .ok (.i2l, 1) := by decide +kernel
theorem dX8_lay_17 : decode cX8_lay 17 = .ok (.lconst 0, 1) := by decide +kernel
theorem dX8_lay_18 : decode cX8_lay 18 = .ok (.ldc2_w 148, 3) := by decide +kernel
theorem dX8_lay_21 : decode cX8_lay 21 = .ok (.invokestatic 123, 3) := by decide +kernel
theorem dX8_lay_24 : decode cX8_lay 24 = .ok (.ifCond .ne 5, 3) := by decide +kernel
theorem dX8_lay_27 : decode cX8_lay 27 = .ok (.iconst (-1), 1) := by decide +kernel
theorem dX8_lay_28 : decode cX8_lay 28 = .ok (.ireturn, 1) := by decide +kernel
theorem dX8_lay_29 : decode cX8_lay 29 = .ok (.iload_n 3, 1) := by decide +kernel
theorem dX8_lay_30 : decode cX8_lay 30 = .ok (.i2l, 1) := by decide +kernel
theorem dX8_lay_31 : decode cX8_lay 31 = .ok (.lconst 1, 1) := by decide +kernel
theorem dX8_lay_32 : decode cX8_lay 32 = .ok (.ldc2_w 136, 3) := by decide +kernel
theorem dX8_lay_35 : decode cX8_lay 35 = .ok (.invokestatic 123, 3) := by decide +kernel
theorem dX8_lay_38 : decode cX8_lay 38 = .ok (.ifCond .eq 16, 3) := by decide +kernel
theorem dX8_lay_41 : decode cX8_lay 41 = .ok (.iload 5, 2) := by decide +kernel
theorem dX8_lay_43 : decode cX8_lay 43 = .ok (.i2l, 1) := by decide +kernel
theorem dX8_lay_44 : decode cX8_lay 44 = .ok (.lconst 1, 1) := by decide +kernel
theorem dX8_lay_45 : decode cX8_lay 45 = .ok (.ldc2_w 150, 3) := by decide +kernel
theorem dX8_lay_48 : decode cX8_lay 48 = .ok (.invokestatic 123, 3) := by decide +kernel
theorem dX8_lay_51 : decode cX8_lay 51 = .ok (.ifCond .ne 6, 3) := by decide +kernel
theorem dX8_lay_54 : decode cX8_lay 54 = .ok (.bipush (-2), 2) := by decide +kernel
theorem dX8_lay_56 : decode cX8_lay 56 = .ok (.ireturn, 1) := by decide +kernel
theorem dX8_lay_57 : decode cX8_lay 57 = .ok (.aload_n 0, 1) := by decide +kernel
theorem dX8_lay_58 : decode cX8_lay 58 = .ok (.getfield 19, 3) := by decide +kernel
theorem dX8_lay_61 : decode cX8_lay 61 = .ok (.bipush 6, 2) := by decide +kernel
theorem dX8_lay_63 : decode cX8_lay 63 = .ok (.iload_n 1, 1) := by decide +kernel
theorem dX8_lay_64 : decode cX8_lay 64 = .ok (.imul, 1) := by decide +kernel
theorem dX8_lay_65 : decode cX8_lay 65 = .ok (.iload_n 2, 1) := by decide +kernel
theorem dX8_lay_66 : decode cX8_lay 66 = .ok (.iadd, 1) := by decide +kernel
theorem dX8_lay_67 : decode cX8_lay 67 = .ok (.iaload, 1) := by decide +kernel
theorem dX8_lay_68 : decode cX8_lay 68 = .ok (.ifCond .eq 6, 3) := by decide +kernel
theorem dX8_lay_71 : decode cX8_lay 71 = .ok (.bipush (-3), 2) := by decide +kernel
theorem dX8_lay_73 : decode cX8_lay 73 = .ok (.ireturn, 1) := by decide +kernel
theorem dX8_lay_74 : decode cX8_lay 74 = .ok (.aload_n 0, 1) := by decide +kernel
theorem dX8_lay_75 : decode cX8_lay 75 = .ok (.getfield 131, 3) := by decide +kernel
theorem dX8_lay_78 : decode cX8_lay 78 = .ok (.bipush 40, 2) := by decide +kernel
theorem dX8_lay_80 : decode cX8_lay 80 = .ok (.if_icmp .ne 6, 3) := by decide +kernel
theorem dX8_lay_83 : decode cX8_lay 83 = .ok (.bipush (-4), 2) := by decide +kernel
theorem dX8_lay_85 : decode cX8_lay 85 = .ok (.ireturn, 1) := by decide +kernel
theorem dX8_lay_86 : decode cX8_lay 86 = .ok (.aload_n 0, 1) := by decide +kernel
theorem dX8_lay_87 : decode cX8_lay 87 = .ok (.iload_n 1, 1) := by decide +kernel
theorem dX8_lay_88 : decode cX8_lay 88 = .ok (.iload_n 2, 1) := by decide +kernel
theorem dX8_lay_89 : decode cX8_lay 89 = .ok (.iload_n 3, 1) := by decide +kernel
theorem dX8_lay_90 : decode cX8_lay 90 = .ok (.iload 4, 2) := by decide +kernel
theorem dX8_lay_92 : decode cX8_lay 92 = .ok (.iload 5, 2) := by decide +kernel
theorem dX8_lay_94 : decode cX8_lay 94 = .ok (.invokevirtual 152, 3) := by decide +kernel
theorem dX8_lay_97 : decode cX8_lay 97 = .ok (.aload_n 0, 1) := by decide +kernel
theorem dX8_lay_98 : decode cX8_lay 98 = .ok (.getfield 131, 3) := by decide +kernel
theorem dX8_lay_101 : decode cX8_lay 101 = .ok (.iconst 1, 1) := by decide +kernel
theorem dX8_lay_102 : decode cX8_lay 102 = .ok (.isub, 1) := by decide +kernel
theorem dX8_lay_103 : decode cX8_lay 103 = .ok (.ireturn, 1) := by decide +kernel
theorem dX8_leftOf_0 : decode cX8_leftOf 0 = .ok (.iconst 0, 1) := by decide +kernel
theorem dX8_leftOf_1 : decode cX8_leftOf 1 = .ok (.istore_n 2, 1) := by decide +kernel
theorem dX8_leftOf_2 : decode cX8_leftOf 2 = .ok (.iconst 0, 1) := by decide +kernel
theorem dX8_leftOf_3 : decode cX8_leftOf 3 = .ok (.istore_n 3, 1) := by decide +kernel
theorem dX8_leftOf_4 : decode cX8_leftOf 4 = .ok (.iload_n 3, 1) := by decide +kernel
theorem dX8_leftOf_5 : decode cX8_leftOf 5 = .ok (.bipush 6, 2) := by decide +kernel
theorem dX8_leftOf_7 : decode cX8_leftOf 7 = .ok (.if_icmp .ge 23, 3) := by decide +kernel
theorem dX8_leftOf_10 : decode cX8_leftOf 10 = .ok (.iload_n 2, 1) := by decide +kernel
theorem dX8_leftOf_11 : decode cX8_leftOf 11 = .ok (.aload_n 0, 1) := by decide +kernel
theorem dX8_leftOf_12 : decode cX8_leftOf 12 = .ok (.getfield 41, 3) := by decide +kernel
theorem dX8_leftOf_15 : decode cX8_leftOf 15 = .ok (.bipush 6, 2) := by decide +kernel
theorem dX8_leftOf_17 : decode cX8_leftOf 17 = .ok (.iload_n 1, 1) := by decide +kernel
theorem dX8_leftOf_18 : decode cX8_leftOf 18 = .ok (.imul, 1) := by decide +kernel
theorem dX8_leftOf_19 : decode cX8_leftOf 19 = .ok (.iload_n 3, 1) := by decide +kernel
theorem dX8_leftOf_20 : decode cX8_leftOf 20 = .ok (.iadd, 1) := by decide +kernel
theorem dX8_leftOf_21 : decode cX8_leftOf 21 = .ok (.iaload, 1) := by decide +kernel
theorem dX8_leftOf_22 : decode cX8_leftOf 22 = .ok (.iadd, 1) := by decide +kernel
theorem dX8_leftOf_23 : decode cX8_leftOf 23 = .ok (.istore_n 2, 1) := by decide +kernel
theorem dX8_leftOf_24 : decode cX8_leftOf 24 = .ok (.iinc 3 1, 3) := by decide +kernel
theorem dX8_leftOf_27 : decode cX8_leftOf 27 = .ok (.goto (-23), 3) := by decide +kernel
theorem dX8_leftOf_30 : decode cX8_leftOf 30 = .ok (.iload_n 2, 1) := by decide +kernel
theorem dX8_leftOf_31 : decode cX8_leftOf 31 = .ok (.ireturn, 1) := by decide +kernel
set_option maxRecDepth 20000 in
theorem ggX8_takeOne_X8_leftOf : GoodIn wsX8_takeOne wsX8_leftOf := goodIn_r _ [8, 3, 9, 10, 11, 12, 13, 14, 15, 16, 17, 18, 19, 20, 21, 22, 23, 24, 25, 26, 27, 28, 29, 30, 31, 32, 33, 34, 35, 36, 37, 38, 39, 40, 41, 42, 43, 44, 45, 46, 47, 48, 49, 50] (by decide +kernel) (by decide +kernel)
set_option maxRecDepth 20000 in
theorem gX8_takeOne_X8_leftOf : GoodIn wsX8_takeOne (wsV RX8 156 RX8 yX8_leftOf wsX8_leftOf) := goodIn_app (goodIn_of _ (by decide +kernel)) ggX8_takeOne_X8_leftOf
theorem dX8_takeOne_0 : decode cX8_takeOne 0 = .ok (.aload_n 0, 1) := by decide +kernel
theorem dX8_takeOne_1 : decode cX8_takeOne 1 = .ok (.getfield 131, 3) := by decide +kernel
theorem dX8_takeOne_4 : decode cX8_takeOne 4 = .ok (.iconst 1, 1) := by decide +kernel
theorem dX8_takeOne_5 : decode cX8_takeOne 5 = .ok (.isub, 1) := by decide +kernel
theorem dX8_takeOne_6 : decode cX8_takeOne 6 = .ok (.istore_n 2, 1) := by decide +kernel
theorem dX8_takeOne_7 : decode cX8_takeOne 7 = .ok (.iload_n 2, 1) := by decide +kernel
theorem dX8_takeOne_8 : decode cX8_takeOne 8 = .ok (.ifCond .lt 55, 3) := by decide +kernel
theorem dX8_takeOne_11 : decode cX8_takeOne 11 = .ok (.aload_n 0, 1) := by decide +kernel
theorem dX8_takeOne_12 : decode cX8_takeOne 12 = .ok (.getfield 26, 3) := by decide +kernel
theorem dX8_takeOne_15 : decode cX8_takeOne 15 = .ok (.iload_n 2, 1) := by decide +kernel
theorem dX8_takeOne_16 : decode cX8_takeOne 16 = .ok (.iaload, 1) := by decide +kernel
theorem dX8_takeOne_17 : decode cX8_takeOne 17 = .ok (.iload_n 1, 1) := by decide +kernel
theorem dX8_takeOne_18 : decode cX8_takeOne 18 = .ok (.if_icmp .ne 39, 3) := by decide +kernel
theorem dX8_takeOne_21 : decode cX8_takeOne 21 = .ok (.aload_n 0, 1) := by decide +kernel
theorem dX8_takeOne_22 : decode cX8_takeOne 22 = .ok (.iload_n 2, 1) := by decide +kernel
theorem dX8_takeOne_23 : decode cX8_takeOne 23 = .ok (.invokevirtual 156, 3) := by decide +kernel
theorem dX8_takeOne_26 : decode cX8_takeOne 26 = .ok (.ifCond .le 31, 3) := by decide +kernel
theorem dX8_takeOne_29 : decode cX8_takeOne 29 = .ok (.iconst 0, 1) := by decide +kernel
theorem dX8_takeOne_30 : decode cX8_takeOne 30 = .ok (.istore_n 3, 1) := by decide +kernel
theorem dX8_takeOne_31 : decode cX8_takeOne 31 = .ok (.iload_n 3, 1) := by decide +kernel
theorem dX8_takeOne_32 : decode cX8_takeOne 32 = .ok (.bipush 6, 2) := by decide +kernel
theorem dX8_takeOne_34 : decode cX8_takeOne 34 = .ok (.if_icmp .ge 21, 3) := by decide +kernel
theorem dX8_takeOne_37 : decode cX8_takeOne 37 = .ok (.aload_n 0, 1) := by decide +kernel
theorem dX8_takeOne_38 : decode cX8_takeOne 38 = .ok (.getfield 41, 3) := by decide +kernel
theorem dX8_takeOne_41 : decode cX8_takeOne 41 = .ok (.bipush 6, 2) := by decide +kernel
theorem dX8_takeOne_43 : decode cX8_takeOne 43 = .ok (.iload_n 2, 1) := by decide +kernel
theorem dX8_takeOne_44 : decode cX8_takeOne 44 = .ok (.imul, 1) := by decide +kernel
theorem dX8_takeOne_45 : decode cX8_takeOne 45 = .ok (.iload_n 3, 1) := by decide +kernel
theorem dX8_takeOne_46 : decode cX8_takeOne 46 = .ok (.iadd, 1) := by decide +kernel
theorem dX8_takeOne_47 : decode cX8_takeOne 47 = .ok (.iconst 0, 1) := by decide +kernel
theorem dX8_takeOne_48 : decode cX8_takeOne 48 = .ok (.iastore, 1) := by decide +kernel
theorem dX8_takeOne_49 : decode cX8_takeOne 49 = .ok (.iinc 3 1, 3) := by decide +kernel
theorem dX8_takeOne_52 : decode cX8_takeOne 52 = .ok (.goto (-21), 3) := by decide +kernel
theorem dX8_takeOne_55 : decode cX8_takeOne 55 = .ok (.iconst 1, 1) := by decide +kernel
theorem dX8_takeOne_56 : decode cX8_takeOne 56 = .ok (.ireturn, 1) := by decide +kernel
theorem dX8_takeOne_57 : decode cX8_takeOne 57 = .ok (.iinc 2 (-1), 3) := by decide +kernel
theorem dX8_takeOne_60 : decode cX8_takeOne 60 = .ok (.goto (-53), 3) := by decide +kernel
theorem dX8_takeOne_63 : decode cX8_takeOne 63 = .ok (.iconst 0, 1) := by decide +kernel
theorem dX8_takeOne_64 : decode cX8_takeOne 64 = .ok (.ireturn, 1) := by decide +kernel
set_option maxRecDepth 20000 in
theorem ggX8_strip_X8_noColumn : GoodIn wsX8_strip wsX8_noColumn := goodIn_r _ [7, 8, 9, 10, 6, 11, 23, 24, 25, 26, 27, 28, 29, 30, 31, 32, 33, 34, 35, 36, 37, 38, 39, 40, 41, 42, 43, 44, 45, 46, 47, 48, 49, 50, 51, 52, 53, 54, 55, 56, 57, 58, 59, 60, 61, 62, 63, 64] (by decide +kernel) (by decide +kernel)
set_option maxRecDepth 20000 in
theorem gX8_strip_X8_noColumn : GoodIn wsX8_strip (wsV RX8 127 RX8 yX8_noColumn wsX8_noColumn) := goodIn_app (goodIn_of _ (by decide +kernel)) ggX8_strip_X8_noColumn
set_option maxRecDepth 20000 in
theorem ggX8_strip_X8_in : GoodIn wsX8_strip wsX8_in := goodIn_r _ [11] (by decide +kernel) (by decide +kernel)
set_option maxRecDepth 20000 in
theorem gX8_strip_X8_in : GoodIn wsX8_strip (va_wsS RX8 123 yX8_in wsX8_in) := goodIn_app (goodIn_of _ (by decide +kernel)) ggX8_strip_X8_in
set_option maxRecDepth 20000 in
theorem ggX8_strip_X8_takeOne : GoodIn wsX8_strip wsX8_takeOne := goodIn_r _ [15, 16, 17, 18, 19, 20, 21, 6, 22, 23, 24, 25, 26, 27, 28, 29, 30, 31, 32, 33, 34, 35, 36, 37, 38, 39, 40, 41, 42, 43, 44, 45, 46, 47, 48, 49, 50, 51, 52, 53, 54, 55, 56, 57, 58, 59, 60, 61, 62, 63, 64] (by decide +kernel) (by decide +kernel)
set_option maxRecDepth 20000 in
theorem gX8_strip_X8_takeOne : GoodIn wsX8_strip (wsV RX8 160 RX8 yX8_takeOne wsX8_takeOne) := goodIn_app (goodIn_of _ (by decide +kernel)) ggX8_strip_X8_takeOne
theorem dX8_strip_0 : decode cX8_strip 0 = .ok (.aload_n 0, 1) := by decide +kernel
theorem dX8_strip_1 : decode cX8_strip 1 = .ok (.iconst 0, 1) := by decide +kernel
theorem dX8_strip_2 : decode cX8_strip 2 = .ok (.putfield 120, 3) := by decide +kernel
theorem dX8_strip_5 : decode cX8_strip 5 = .ok (.aload_n 0, 1) := by decide +kernel
theorem dX8_strip_6 : decode cX8_strip 6 = .ok (.iload_n 1, 1) := by decide +kernel
theorem dX8_strip_7 : decode cX8_strip 7 = .ok (.invokevirtual 127, 3) := by decide +kernel
theorem dX8_strip_10 : decode cX8_strip 10 = .ok (.ifCond .eq 5, 3) := by decide +kernel
theorem dX8_strip_13 : decode cX8_strip 13 = .ok (.iconst (-1), 1) := by decide +kernel
theorem dX8_strip_14 : decode cX8_strip 14 = .ok (.ireturn, 1) := by decide +kernel
theorem dX8_strip_15 : decode cX8_strip 15 = .ok (.iload_n 2, 1) := by decide +kernel
theorem dX8_strip_16 : decode cX8_strip 16 = .ok (.i2l, 1) := by decide +kernel
theorem dX8_strip_17 : decode cX8_strip 17 = .ok (.lconst 1, 1) := by decide +kernel
theorem dX8_strip_18 : decode cX8_strip 18 = .ok (.ldc2_w 150, 3) := by decide +kernel
theorem dX8_strip_21 : decode cX8_strip 21 = .ok (.invokestatic 123, 3) := by decide +kernel
theorem dX8_strip_24 : decode cX8_strip 24 = .ok (.ifCond .ne 6, 3) := by decide +kernel
theorem dX8_strip_27 : decode cX8_strip 27 = .ok (.bipush (-2), 2) := by decide +kernel
theorem dX8_strip_29 : decode cX8_strip 29 = .ok (.ireturn, 1) := by decide +kernel
theorem dX8_strip_30 : decode cX8_strip 30 = .ok (.iconst 0, 1) := by decide +kernel
theorem dX8_strip_31 : decode cX8_strip 31 = .ok (.istore_n 3, 1) := by decide +kernel
theorem dX8_strip_32 : decode cX8_strip 32 = .ok (.iload_n 3, 1) := by decide +kernel
theorem dX8_strip_33 : decode cX8_strip 33 = .ok (.iload_n 2, 1) := by decide +kernel
theorem dX8_strip_34 : decode cX8_strip 34 = .ok (.if_icmp .ge 17, 3) := by decide +kernel
theorem dX8_strip_37 : decode cX8_strip 37 = .ok (.aload_n 0, 1) := by decide +kernel
theorem dX8_strip_38 : decode cX8_strip 38 = .ok (.iload_n 1, 1) := by decide +kernel
theorem dX8_strip_39 : decode cX8_strip 39 = .ok (.invokevirtual 160, 3) := by decide +kernel
theorem dX8_strip_42 : decode cX8_strip 42 = .ok (.ifCond .eq 9, 3) := by decide +kernel
theorem dX8_strip_45 : decode cX8_strip 45 = .ok (.iinc 3 1, 3) := by decide +kernel
theorem dX8_strip_48 : decode cX8_strip 48 = .ok (.goto (-16), 3) := by decide +kernel
theorem dX8_strip_51 : decode cX8_strip 51 = .ok (.iload_n 3, 1) := by decide +kernel
theorem dX8_strip_52 : decode cX8_strip 52 = .ok (.ireturn, 1) := by decide +kernel
set_option maxRecDepth 20000 in
theorem ggX8_about_X8_noBundle : GoodIn wsX8_about wsX8_noBundle := goodIn_r _ [11, 12, 13, 14, 10, 15, 21, 22, 23, 24, 25, 26, 27, 28, 29, 30, 31, 32, 33, 34, 35, 36, 37, 38, 39, 40, 41, 42, 43, 44, 45, 46, 47, 48, 49, 50, 51, 52, 53, 54, 55, 56, 57, 58, 59, 60, 61, 62] (by decide +kernel) (by decide +kernel)
set_option maxRecDepth 20000 in
theorem gX8_about_X8_noBundle : GoodIn wsX8_about (wsV RX8 163 RX8 yX8_noBundle wsX8_noBundle) := goodIn_app (goodIn_of _ (by decide +kernel)) ggX8_about_X8_noBundle
set_option maxRecDepth 20000 in
theorem ggX8_about_X8_leftOf : GoodIn wsX8_about wsX8_leftOf := goodIn_r _ [19, 20, 21, 22, 23, 24, 25, 26, 27, 28, 29, 30, 31, 32, 33, 34, 35, 36, 37, 38, 39, 40, 41, 42, 43, 44, 45, 46, 47, 48, 49, 50, 51, 52, 53, 54, 55, 56, 57, 58, 59, 60, 61, 62] (by decide +kernel) (by decide +kernel)
set_option maxRecDepth 20000 in
theorem gX8_about_X8_leftOf : GoodIn wsX8_about (wsV RX8 156 RX8 yX8_leftOf wsX8_leftOf) := goodIn_app (goodIn_of _ (by decide +kernel)) ggX8_about_X8_leftOf
theorem dX8_about_0 : decode cX8_about 0 = .ok (.aload_n 0, 1) := by decide +kernel
theorem dX8_about_1 : decode cX8_about 1 = .ok (.iconst 0, 1) := by decide +kernel
theorem dX8_about_2 : decode cX8_about 2 = .ok (.putfield 120, 3) := by decide +kernel
theorem dX8_about_5 : decode cX8_about 5 = .ok (.aload_n 0, 1) := by decide +kernel
theorem dX8_about_6 : decode cX8_about 6 = .ok (.iload_n 1, 1) := by decide +kernel
theorem dX8_about_7 : decode cX8_about 7 = .ok (.invokevirtual 163, 3) := by decide +kernel
theorem dX8_about_10 : decode cX8_about 10 = .ok (.ifCond .eq 5, 3) := by decide +kernel
theorem dX8_about_13 : decode cX8_about 13 = .ok (.iconst (-1), 1) := by decide +kernel
theorem dX8_about_14 : decode cX8_about 14 = .ok (.ireturn, 1) := by decide +kernel
theorem dX8_about_15 : decode cX8_about 15 = .ok (.iload_n 2, 1) := by decide +kernel
theorem dX8_about_16 : decode cX8_about 16 = .ok (.tableswitch 81 0 5 #[40, 47, 54, 61, 68, 75], 40) := by decide +kernel
theorem dX8_about_56 : decode cX8_about 56 = .ok (.aload_n 0, 1) := by decide +kernel
theorem dX8_about_57 : decode cX8_about 57 = .ok (.getfield 26, 3) := by decide +kernel
theorem dX8_about_60 : decode cX8_about 60 = .ok (.iload_n 1, 1) := by decide +kernel
theorem dX8_about_61 : decode cX8_about 61 = .ok (.iaload, 1) := by decide +kernel
theorem dX8_about_62 : decode cX8_about 62 = .ok (.ireturn, 1) := by decide +kernel
theorem dX8_about_63 : decode cX8_about 63 = .ok (.aload_n 0, 1) := by decide +kernel
theorem dX8_about_64 : decode cX8_about 64 = .ok (.getfield 29, 3) := by decide +kernel
theorem dX8_about_67 : decode cX8_about 67 = .ok (.iload_n 1, 1) := by decide +kernel
theorem dX8_about_68 : decode cX8_about 68 = .ok (.iaload, 1) := by decide +kernel
theorem dX8_about_69 : decode cX8_about 69 = .ok (.ireturn, 1) := by decide +kernel
theorem dX8_about_70 : decode cX8_about 70 = .ok (.aload_n 0, 1) := by decide +kernel
theorem dX8_about_71 : decode cX8_about 71 = .ok (.getfield 32, 3) := by decide +kernel
theorem dX8_about_74 : decode cX8_about 74 = .ok (.iload_n 1, 1) := by decide +kernel
theorem dX8_about_75 : decode cX8_about 75 = .ok (.iaload, 1) := by decide +kernel
theorem dX8_about_76 : decode cX8_about 76 = .ok (.ireturn, 1) := by decide +kernel
theorem dX8_about_77 : decode cX8_about 77 = .ok (.aload_n 0, 1) := by decide +kernel
theorem dX8_about_78 : decode cX8_about 78 = .ok (.getfield 35, 3) := by decide +kernel
theorem dX8_about_81 : decode cX8_about 81 = .ok (.iload_n 1, 1) := by decide +kernel
theorem dX8_about_82 : decode cX8_about 82 = .ok (.iaload, 1) := by decide +kernel
theorem dX8_about_83 : decode cX8_about 83 = .ok (.ireturn, 1) := by decide +kernel
theorem dX8_about_84 : decode cX8_about 84 = .ok (.aload_n 0, 1) := by decide +kernel
theorem dX8_about_85 : decode cX8_about 85 = .ok (.getfield 38, 3) := by decide +kernel
theorem dX8_about_88 : decode cX8_about 88 = .ok (.iload_n 1, 1) := by decide +kernel
theorem dX8_about_89 : decode cX8_about 89 = .ok (.iaload, 1) := by decide +kernel
theorem dX8_about_90 : decode cX8_about 90 = .ok (.ireturn, 1) := by decide +kernel
theorem dX8_about_91 : decode cX8_about 91 = .ok (.aload_n 0, 1) := by decide +kernel
theorem dX8_about_92 : decode cX8_about 92 = .ok (.iload_n 1, 1) := by decide +kernel
theorem dX8_about_93 : decode cX8_about 93 = .ok (.invokevirtual 156, 3) := by decide +kernel
theorem dX8_about_96 : decode cX8_about 96 = .ok (.ireturn, 1) := by decide +kernel
theorem dX8_about_97 : decode cX8_about 97 = .ok (.bipush (-2), 2) := by decide +kernel
theorem dX8_about_99 : decode cX8_about 99 = .ok (.ireturn, 1) := by decide +kernel
set_option maxRecDepth 20000 in
theorem ggX8_left_X8_noBundle : GoodIn wsX8_left wsX8_noBundle := goodIn_r _ [8, 9, 10, 11, 7, 12, 13, 14, 15, 16, 17, 18, 19, 20, 21, 22, 23, 24, 25, 26, 27, 28, 29, 30, 31, 32, 33, 34, 35, 36, 37, 38, 39, 40, 41, 42, 43, 44, 45, 46, 47, 48, 49, 50, 51, 52, 53, 54] (by decide +kernel) (by decide +kernel)
set_option maxRecDepth 20000 in
theorem gX8_left_X8_noBundle : GoodIn wsX8_left (wsV RX8 163 RX8 yX8_noBundle wsX8_noBundle) := goodIn_app (goodIn_of _ (by decide +kernel)) ggX8_left_X8_noBundle
set_option maxRecDepth 20000 in
theorem ggX8_left_X8_in : GoodIn wsX8_left wsX8_in := goodIn_r _ [12] (by decide +kernel) (by decide +kernel)
set_option maxRecDepth 20000 in
theorem gX8_left_X8_in : GoodIn wsX8_left (va_wsS RX8 123 yX8_in wsX8_in) := goodIn_app (goodIn_of _ (by decide +kernel)) ggX8_left_X8_in
theorem dX8_left_0 : decode cX8_left 0 = .ok (.aload_n 0, 1) := by decide +kernel
theorem dX8_left_1 : decode cX8_left 1 = .ok (.iconst 0, 1) := by decide +kernel
theorem dX8_left_2 : decode cX8_left 2 = .ok (.putfield 120, 3) := by decide +kernel
theorem dX8_left_5 : decode cX8_left 5 = .ok (.aload_n 0, 1) := by decide +kernel
theorem dX8_left_6 : decode cX8_left 6 = .ok (.iload_n 1, 1) := by decide +kernel
theorem dX8_left_7 : decode cX8_left 7 = .ok (.invokevirtual 163, 3) := by decide +kernel
theorem dX8_left_10 : decode cX8_left 10 = .ok (.ifCond .ne 19, 3) := by decide +kernel
theorem dX8_left_13 : decode cX8_left 13 = .ok (.iload_n 2, 1) := by decide +kernel
theorem dX8_left_14 : decode cX8_left 14 = .ok (.i2l, 1) := by decide +kernel
theorem dX8_left_15 : decode cX8_left 15 = .ok (.lconst 0, 1) := by decide +kernel
theorem dX8_left_16 : decode cX8_left 16 = .ok (.aload_n 0, 1) := by decide +kernel
theorem dX8_left_17 : decode cX8_left 17 = .ok (.getfield 13, 3) := by decide +kernel
theorem dX8_left_20 : decode cX8_left 20 = .ok (.iconst 1, 1) := by decide +kernel
theorem dX8_left_21 : decode cX8_left 21 = .ok (.isub, 1) := by decide +kernel
theorem dX8_left_22 : decode cX8_left 22 = .ok (.i2l, 1) := by decide +kernel
theorem dX8_left_23 : decode cX8_left 23 = .ok (.invokestatic 123, 3) := by decide +kernel
theorem dX8_left_26 : decode cX8_left 26 = .ok (.ifCond .ne 7, 3) := by decide +kernel
theorem dX8_left_29 : decode cX8_left 29 = .ok (.iconst (-1), 1) := by decide +kernel
theorem dX8_left_30 : decode cX8_left 30 = .ok (.goto 14, 3) := by decide +kernel
theorem dX8_left_33 : decode cX8_left 33 = .ok (.aload_n 0, 1) := by decide +kernel
theorem dX8_left_34 : decode cX8_left 34 = .ok (.getfield 41, 3) := by decide +kernel
theorem dX8_left_37 : decode cX8_left 37 = .ok (.bipush 6, 2) := by decide +kernel
theorem dX8_left_39 : decode cX8_left 39 = .ok (.iload_n 1, 1) := by decide +kernel
theorem dX8_left_40 : decode cX8_left 40 = .ok (.imul, 1) := by decide +kernel
theorem dX8_left_41 : decode cX8_left 41 = .ok (.iload_n 2, 1) := by decide +kernel
theorem dX8_left_42 : decode cX8_left 42 = .ok (.iadd, 1) := by decide +kernel
theorem dX8_left_43 : decode cX8_left 43 = .ok (.iaload, 1) := by decide +kernel
theorem dX8_left_44 : decode cX8_left 44 = .ok (.ireturn, 1) := by decide +kernel
set_option maxRecDepth 20000 in
theorem ggX8_top_X8_noCell : GoodIn wsX8_top wsX8_noCell := goodIn_r _ [7, 8, 9, 10, 11, 6, 12, 13, 14, 15, 16, 23, 24, 25, 26, 27, 28, 29, 30, 31, 32, 33, 34, 35, 36, 37, 38, 39, 40, 41, 42, 43, 44, 45, 46, 47, 48, 49, 50, 51, 52, 53, 54, 55, 56, 57, 58, 59, 60, 61, 62, 63, 64] (by decide +kernel) (by decide +kernel)
set_option maxRecDepth 20000 in
theorem gX8_top_X8_noCell : GoodIn wsX8_top (wsV RX8 138 RX8 yX8_noCell wsX8_noCell) := goodIn_app (goodIn_of _ (by decide +kernel)) ggX8_top_X8_noCell
set_option maxRecDepth 20000 in
theorem ggX8_top_X8_topOf : GoodIn wsX8_top wsX8_topOf := goodIn_r _ [20, 21, 22, 23, 24, 25, 26, 27, 28, 29, 30, 31, 32, 33, 34, 35, 36, 37, 38, 39, 40, 41, 42, 43, 44, 45, 46, 47, 48, 49, 50, 51, 52, 53, 54, 55, 56, 57, 58, 59, 60, 61, 62, 63, 64] (by decide +kernel) (by decide +kernel)
set_option maxRecDepth 20000 in
theorem gX8_top_X8_topOf : GoodIn wsX8_top (wsV RX8 144 RX8 yX8_topOf wsX8_topOf) := goodIn_app (goodIn_of _ (by decide +kernel)) ggX8_top_X8_topOf
theorem dX8_top_0 : decode cX8_top 0 = .ok (.aload_n 0, 1) := by decide +kernel
theorem dX8_top_1 : decode cX8_top 1 = .ok (.iconst 0, 1) := by decide +kernel
theorem dX8_top_2 : decode cX8_top 2 = .ok (.putfield 120, 3) := by decide +kernel
theorem dX8_top_5 : decode cX8_top 5 = .ok (.aload_n 0, 1) := by decide +kernel
theorem dX8_top_6 : decode cX8_top 6 = .ok (.iload_n 1, 1) := by decide +kernel
theorem dX8_top_7 : decode cX8_top 7 = .ok (.iload_n 2, 1) := by decide +kernel
theorem dX8_top_8 : decode cX8_top 8 = .ok (.invokevirtual 138, 3) := by decide +kernel
theorem dX8_top_11 : decode cX8_top 11 = .ok (.ifCond .eq 7, 3) := by decide +kernel
theorem dX8_top_14 : decode cX8_top 14 = .ok (.iconst (-1), 1) := by decide +kernel
theorem dX8_top_15 : decode cX8_top 15 = .ok (.goto 13, 3) := by decide +kernel
theorem dX8_top_18 : decode cX8_top 18 = .ok (.aload_n 0, 1) := by decide +kernel
theorem dX8_top_19 : decode cX8_top 19 = .ok (.iload_n 1, 1) := by decide +kernel
theorem dX8_top_20 : decode cX8_top 20 = .ok (.iload_n 2, 1) := by decide +kernel
theorem dX8_top_21 : decode cX8_top 21 = .ok (.aload_n 0, 1) := by decide +kernel
theorem dX8_top_22 : decode cX8_top 22 = .ok (.getfield 131, 3) := by decide +kernel
theorem dX8_top_25 : decode cX8_top 25 = .ok (.invokevirtual 144, 3) := by decide +kernel
theorem dX8_top_28 : decode cX8_top 28 = .ok (.ireturn, 1) := by decide +kernel
set_option maxRecDepth 20000 in
theorem ggX8_depth_X8_noCell : GoodIn wsX8_depth wsX8_noCell := goodIn_r _ [9, 10, 11, 12, 13, 8, 14, 15, 16, 17, 18, 19, 20, 21, 22, 23, 24, 25, 26, 27, 28, 29, 30, 31, 32, 33, 34, 35, 36, 37, 38, 39, 40, 41, 42, 43, 44, 45, 46, 47, 48, 49, 50, 51, 52, 53, 54, 55, 56, 57, 58, 59, 60] (by decide +kernel) (by decide +kernel)
set_option maxRecDepth 20000 in
theorem gX8_depth_X8_noCell : GoodIn wsX8_depth (wsV RX8 138 RX8 yX8_noCell wsX8_noCell) := goodIn_app (goodIn_of _ (by decide +kernel)) ggX8_depth_X8_noCell
set_option maxRecDepth 20000 in
theorem ggX8_depth_X8_in : GoodIn wsX8_depth wsX8_in := goodIn_r _ [18] (by decide +kernel) (by decide +kernel)
set_option maxRecDepth 20000 in
theorem gX8_depth_X8_in : GoodIn wsX8_depth (va_wsS RX8 123 yX8_in wsX8_in) := goodIn_app (goodIn_of _ (by decide +kernel)) ggX8_depth_X8_in
theorem dX8_depth_0 : decode cX8_depth 0 = .ok (.aload_n 0, 1) := by decide +kernel
theorem dX8_depth_1 : decode cX8_depth 1 = .ok (.iconst 0, 1) := by decide +kernel
theorem dX8_depth_2 : decode cX8_depth 2 = .ok (.putfield 120, 3) := by decide +kernel
theorem dX8_depth_5 : decode cX8_depth 5 = .ok (.aload_n 0, 1) := by decide +kernel
theorem dX8_depth_6 : decode cX8_depth 6 = .ok (.iload_n 1, 1) := by decide +kernel
theorem dX8_depth_7 : decode cX8_depth 7 = .ok (.iload_n 2, 1) := by decide +kernel
theorem dX8_depth_8 : decode cX8_depth 8 = .ok (.invokevirtual 138, 3) := by decide +kernel
theorem dX8_depth_11 : decode cX8_depth 11 = .ok (.ifCond .eq 5, 3) := by decide +kernel
theorem dX8_depth_14 : decode cX8_depth 14 = .ok (.iconst (-1), 1) := by decide +kernel
theorem dX8_depth_15 : decode cX8_depth 15 = .ok (.ireturn, 1) := by decide +kernel
theorem dX8_depth_16 : decode cX8_depth 16 = .ok (.iload_n 3, 1) := by decide +kernel
theorem dX8_depth_17 : decode cX8_depth 17 = .ok (.i2l, 1) := by decide +kernel
theorem dX8_depth_18 : decode cX8_depth 18 = .ok (.lconst 0, 1) := by decide +kernel
theorem dX8_depth_19 : decode cX8_depth 19 = .ok (.lconst 1, 1) := by decide +kernel
theorem dX8_depth_20 : decode cX8_depth 20 = .ok (.invokestatic 123, 3) := by decide +kernel
theorem dX8_depth_23 : decode cX8_depth 23 = .ok (.ifCond .ne 6, 3) := by decide +kernel
theorem dX8_depth_26 : decode cX8_depth 26 = .ok (.bipush (-2), 2) := by decide +kernel
theorem dX8_depth_28 : decode cX8_depth 28 = .ok (.ireturn, 1) := by decide +kernel
theorem dX8_depth_29 : decode cX8_depth 29 = .ok (.iconst 0, 1) := by decide +kernel
theorem dX8_depth_30 : decode cX8_depth 30 = .ok (.istore 4, 2) := by decide +kernel
theorem dX8_depth_32 : decode cX8_depth 32 = .ok (.iconst 0, 1) := by decide +kernel
theorem dX8_depth_33 : decode cX8_depth 33 = .ok (.istore 5, 2) := by decide +kernel
theorem dX8_depth_35 : decode cX8_depth 35 = .ok (.iload 5, 2) := by decide +kernel
theorem dX8_depth_37 : decode cX8_depth 37 = .ok (.aload_n 0, 1) := by decide +kernel
theorem dX8_depth_38 : decode cX8_depth 38 = .ok (.getfield 131, 3) := by decide +kernel
theorem dX8_depth_41 : decode cX8_depth 41 = .ok (.if_icmp .ge 63, 3) := by decide +kernel
theorem dX8_depth_44 : decode cX8_depth 44 = .ok (.aload_n 0, 1) := by decide +kernel
theorem dX8_depth_45 : decode cX8_depth 45 = .ok (.getfield 26, 3) := by decide +kernel
theorem dX8_depth_48 : decode cX8_depth 48 = .ok (.iload 5, 2) := by decide +kernel
theorem dX8_depth_50 : decode cX8_depth 50 = .ok (.iaload, 1) := by decide +kernel
theorem dX8_depth_51 : decode cX8_depth 51 = .ok (.iload_n 1, 1) := by decide +kernel
theorem dX8_depth_52 : decode cX8_depth 52 = .ok (.if_icmp .ne 18, 3) := by decide +kernel
theorem dX8_depth_55 : decode cX8_depth 55 = .ok (.aload_n 0, 1) := by decide +kernel
theorem dX8_depth_56 : decode cX8_depth 56 = .ok (.getfield 41, 3) := by decide +kernel
theorem dX8_depth_59 : decode cX8_depth 59 = .ok (.bipush 6, 2) := by decide +kernel
theorem dX8_depth_61 : decode cX8_depth 61 = .ok (.iload 5, 2) := by decide +kernel
theorem dX8_depth_63 : decode cX8_depth 63 = .ok (.imul, 1) := by decide +kernel
theorem dX8_depth_64 : decode cX8_depth 64 = .ok (.iload_n 2, 1) := by decide +kernel
theorem dX8_depth_65 : decode cX8_depth 65 = .ok (.iadd, 1) := by decide +kernel
theorem dX8_depth_66 : decode cX8_depth 66 = .ok (.iaload, 1) := by decide +kernel
theorem dX8_depth_67 : decode cX8_depth 67 = .ok (.goto 4, 3) := by decide +kernel
theorem dX8_depth_70 : decode cX8_depth 70 = .ok (.iconst 0, 1) := by decide +kernel
theorem dX8_depth_71 : decode cX8_depth 71 = .ok (.istore 6, 2) := by decide +kernel
theorem dX8_depth_73 : decode cX8_depth 73 = .ok (.iload 4, 2) := by decide +kernel
theorem dX8_depth_75 : decode cX8_depth 75 = .ok (.iload_n 3, 1) := by decide +kernel
theorem dX8_depth_76 : decode cX8_depth 76 = .ok (.iconst 1, 1) := by decide +kernel
theorem dX8_depth_77 : decode cX8_depth 77 = .ok (.if_icmp .ne 8, 3) := by decide +kernel
theorem dX8_depth_80 : decode cX8_depth 80 = .ok (.iload 6, 2) := by decide +kernel
theorem dX8_depth_82 : decode cX8_depth 82 = .ok (.goto 13, 3) := by decide +kernel
theorem dX8_depth_85 : decode cX8_depth 85 = .ok (.iload 6, 2) := by decide +kernel
theorem dX8_depth_87 : decode cX8_depth 87 = .ok (.ifCond .le 7, 3) := by decide +kernel
theorem dX8_depth_90 : decode cX8_depth 90 = .ok (.iconst 1, 1) := by decide +kernel
theorem dX8_depth_91 : decode cX8_depth 91 = .ok (.goto 4, 3) := by decide +kernel
theorem dX8_depth_94 : decode cX8_depth 94 = .ok (.iconst 0, 1) := by decide +kernel
theorem dX8_depth_95 : decode cX8_depth 95 = .ok (.iadd, 1) := by decide +kernel
theorem dX8_depth_96 : decode cX8_depth 96 = .ok (.istore 4, 2) := by decide +kernel
theorem dX8_depth_98 : decode cX8_depth 98 = .ok (.iinc 5 1, 3) := by decide +kernel
theorem dX8_depth_101 : decode cX8_depth 101 = .ok (.goto (-66), 3) := by decide +kernel
theorem dX8_depth_104 : decode cX8_depth 104 = .ok (.iload 4, 2) := by decide +kernel
theorem dX8_depth_106 : decode cX8_depth 106 = .ok (.ireturn, 1) := by decide +kernel
theorem dX8_laps_0 : decode cX8_laps 0 = .ok (.aload_n 0, 1) := by decide +kernel
theorem dX8_laps_1 : decode cX8_laps 1 = .ok (.getfield 16, 3) := by decide +kernel
theorem dX8_laps_4 : decode cX8_laps 4 = .ok (.iconst 1, 1) := by decide +kernel
theorem dX8_laps_5 : decode cX8_laps 5 = .ok (.if_icmp .ne 7, 3) := by decide +kernel
theorem dX8_laps_8 : decode cX8_laps 8 = .ok (.iconst 2, 1) := by decide +kernel
theorem dX8_laps_9 : decode cX8_laps 9 = .ok (.goto 4, 3) := by decide +kernel
theorem dX8_laps_12 : decode cX8_laps 12 = .ok (.iconst 1, 1) := by decide +kernel
theorem dX8_laps_13 : decode cX8_laps 13 = .ok (.istore 4, 2) := by decide +kernel
theorem dX8_laps_15 : decode cX8_laps 15 = .ok (.iconst 1, 1) := by decide +kernel
theorem dX8_laps_16 : decode cX8_laps 16 = .ok (.istore 5, 2) := by decide +kernel
theorem dX8_laps_18 : decode cX8_laps 18 = .ok (.iload_n 3, 1) := by decide +kernel
theorem dX8_laps_19 : decode cX8_laps 19 = .ok (.iconst 1, 1) := by decide +kernel
theorem dX8_laps_20 : decode cX8_laps 20 = .ok (.iadd, 1) := by decide +kernel
theorem dX8_laps_21 : decode cX8_laps 21 = .ok (.istore 6, 2) := by decide +kernel
theorem dX8_laps_23 : decode cX8_laps 23 = .ok (.iload 6, 2) := by decide +kernel
theorem dX8_laps_25 : decode cX8_laps 25 = .ok (.iload_n 3, 1) := by decide +kernel
theorem dX8_laps_26 : decode cX8_laps 26 = .ok (.iload 4, 2) := by decide +kernel
theorem dX8_laps_28 : decode cX8_laps 28 = .ok (.iadd, 1) := by decide +kernel
theorem dX8_laps_29 : decode cX8_laps 29 = .ok (.if_icmp .gt 60, 3) := by decide +kernel
theorem dX8_laps_32 : decode cX8_laps 32 = .ok (.iload 6, 2) := by decide +kernel
theorem dX8_laps_34 : decode cX8_laps 34 = .ok (.aload_n 0, 1) := by decide +kernel
theorem dX8_laps_35 : decode cX8_laps 35 = .ok (.getfield 13, 3) := by decide +kernel
theorem dX8_laps_38 : decode cX8_laps 38 = .ok (.if_icmp .ge 51, 3) := by decide +kernel
theorem dX8_laps_41 : decode cX8_laps 41 = .ok (.iload 5, 2) := by decide +kernel
theorem dX8_laps_43 : decode cX8_laps 43 = .ok (.ifCond .eq 37, 3) := by decide +kernel
theorem dX8_laps_46 : decode cX8_laps 46 = .ok (.aload_n 0, 1) := by decide +kernel
theorem dX8_laps_47 : decode cX8_laps 47 = .ok (.getfield 19, 3) := by decide +kernel
theorem dX8_laps_50 : decode cX8_laps 50 = .ok (.bipush 6, 2) := by decide +kernel
theorem dX8_laps_52 : decode cX8_laps 52 = .ok (.iload_n 2, 1) := by decide +kernel
theorem dX8_laps_53 : decode cX8_laps 53 = .ok (.imul, 1) := by decide +kernel
theorem dX8_laps_54 : decode cX8_laps 54 = .ok (.iload 6, 2) := by decide +kernel
theorem dX8_laps_56 : decode cX8_laps 56 = .ok (.iadd, 1) := by decide +kernel
theorem dX8_laps_57 : decode cX8_laps 57 = .ok (.iaload, 1) := by decide +kernel
theorem dX8_laps_58 : decode cX8_laps 58 = .ok (.ifCond .ne 18, 3) := by decide +kernel
theorem dX8_laps_61 : decode cX8_laps 61 = .ok (.aload_n 0, 1) := by decide +kernel
theorem dX8_laps_62 : decode cX8_laps 62 = .ok (.getfield 41, 3) := by decide +kernel
theorem dX8_laps_65 : decode cX8_laps 65 = .ok (.bipush 6, 2) := by decide +kernel
theorem dX8_laps_67 : decode cX8_laps 67 = .ok (.iload_n 1, 1) := by decide +kernel
theorem dX8_laps_68 : decode cX8_laps 68 = .ok (.imul, 1) := by decide +kernel
theorem dX8_laps_69 : decode cX8_laps 69 = .ok (.iload 6, 2) := by decide +kernel
theorem dX8_laps_71 : decode cX8_laps 71 = .ok (.iadd, 1) := by decide +kernel
theorem dX8_laps_72 : decode cX8_laps 72 = .ok (.iaload, 1) := by decide +kernel
theorem dX8_laps_73 : decode cX8_laps 73 = .ok (.ifCond .le 7, 3) := by decide +kernel
theorem dX8_laps_76 : decode cX8_laps 76 = .ok (.iconst 1, 1) := by decide +kernel
theorem dX8_laps_77 : decode cX8_laps 77 = .ok (.goto 4, 3) := by decide +kernel
theorem dX8_laps_80 : decode cX8_laps 80 = .ok (.iconst 0, 1) := by decide +kernel
theorem dX8_laps_81 : decode cX8_laps 81 = .ok (.istore 5, 2) := by decide +kernel
theorem dX8_laps_83 : decode cX8_laps 83 = .ok (.iinc 6 1, 3) := by decide +kernel
theorem dX8_laps_86 : decode cX8_laps 86 = .ok (.goto (-63), 3) := by decide +kernel
theorem dX8_laps_89 : decode cX8_laps 89 = .ok (.iload 5, 2) := by decide +kernel
theorem dX8_laps_91 : decode cX8_laps 91 = .ok (.ireturn, 1) := by decide +kernel
theorem dX8_place_0 : decode cX8_place 0 = .ok (.aload_n 0, 1) := by decide +kernel
theorem dX8_place_1 : decode cX8_place 1 = .ok (.getfield 99, 3) := by decide +kernel
theorem dX8_place_4 : decode cX8_place 4 = .ok (.aload_n 0, 1) := by decide +kernel
theorem dX8_place_5 : decode cX8_place 5 = .ok (.getfield 166, 3) := by decide +kernel
theorem dX8_place_8 : decode cX8_place 8 = .ok (.iload_n 1, 1) := by decide +kernel
theorem dX8_place_9 : decode cX8_place 9 = .ok (.iastore, 1) := by decide +kernel
theorem dX8_place_10 : decode cX8_place 10 = .ok (.aload_n 0, 1) := by decide +kernel
theorem dX8_place_11 : decode cX8_place 11 = .ok (.dup, 1) := by decide +kernel
theorem dX8_place_12 : decode cX8_place 12 = .ok (.getfield 166, 3) := by decide +kernel
theorem dX8_place_15 : decode cX8_place 15 = .ok (.iconst 1, 1) := by decide +kernel
theorem dX8_place_16 : decode cX8_place 16 = .ok (.iadd, 1) := by decide +kernel
theorem dX8_place_17 : decode cX8_place 17 = .ok (.putfield 166, 3) := by decide +kernel
theorem dX8_place_20 : decode cX8_place 20 = .ok (.return_, 1) := by decide +kernel
set_option maxRecDepth 20000 in
theorem ggX8_run_X8_place : GoodIn wsX8_run wsX8_place := goodIn_r _ [11, 12, 1, 32, 33, 34, 35, 36, 37, 38, 39, 40, 41, 42, 43, 44, 45, 46, 47, 48, 49, 50, 51, 52, 53, 54, 55, 56, 57, 58, 59, 60, 61, 62, 63, 64, 65, 66, 67, 68, 69, 70, 71, 72, 73] (by decide +kernel) (by decide +kernel)
set_option maxRecDepth 20000 in
theorem gX8_run_X8_place : GoodIn wsX8_run (wsV RX8 172 RX8 yX8_place wsX8_place) := goodIn_app (goodIn_of _ (by decide +kernel)) ggX8_run_X8_place
set_option maxRecDepth 20000 in
theorem ggX8_run_X8_noColumn : GoodIn wsX8_run wsX8_noColumn := goodIn_r _ [16, 17, 18, 19, 10, 20, 32, 33, 34, 35, 36, 37, 38, 39, 40, 41, 42, 43, 44, 45, 46, 47, 48, 49, 50, 51, 52, 53, 54, 55, 56, 57, 58, 59, 60, 61, 62, 63, 64, 65, 66, 67, 68, 69, 70, 71, 72, 73] (by decide +kernel) (by decide +kernel)
set_option maxRecDepth 20000 in
theorem gX8_run_X8_noColumn : GoodIn wsX8_run (wsV RX8 127 RX8 yX8_noColumn wsX8_noColumn) := goodIn_app (goodIn_of _ (by decide +kernel)) ggX8_run_X8_noColumn
set_option maxRecDepth 20000 in
theorem ggX8_run_X8_topOf : GoodIn wsX8_run wsX8_topOf := goodIn_r _ [24, 25, 6, 32, 33, 34, 35, 36, 37, 38, 39, 40, 41, 42, 43, 44, 45, 46, 47, 48, 49, 50, 51, 52, 53, 54, 55, 56, 57, 58, 59, 60, 61, 62, 63, 64, 65, 66, 67, 68, 69, 70, 71, 72, 73] (by decide +kernel) (by decide +kernel)
set_option maxRecDepth 20000 in
theorem gX8_run_X8_topOf : GoodIn wsX8_run (wsV RX8 144 RX8 yX8_topOf wsX8_topOf) := goodIn_app (goodIn_of _ (by decide +kernel)) ggX8_run_X8_topOf
set_option maxRecDepth 20000 in
theorem ggX8_run_X8_laps : GoodIn wsX8_run wsX8_laps := goodIn_r _ [29, 30, 31, 4, 6, 32, 33, 34, 35, 36, 37, 38, 39, 40, 41, 42, 43, 44, 45, 46, 47, 48, 49, 50, 51, 52, 53, 54, 55, 56, 57, 58, 59, 60, 61, 62, 63, 64, 65, 66, 67, 68, 69, 70, 71, 72, 73] (by decide +kernel) (by decide +kernel)
set_option maxRecDepth 20000 in
theorem gX8_run_X8_laps : GoodIn wsX8_run (wsV RX8 176 RX8 yX8_laps wsX8_laps) := goodIn_app (goodIn_of _ (by decide +kernel)) ggX8_run_X8_laps
theorem dX8_run_0 : decode cX8_run 0 = .ok (.aload_n 0, 1) := by decide +kernel
theorem dX8_run_1 : decode cX8_run 1 = .ok (.iconst 0, 1) := by decide +kernel
theorem dX8_run_2 : decode cX8_run 2 = .ok (.putfield 166, 3) := by decide +kernel
theorem dX8_run_5 : decode cX8_run 5 = .ok (.aload_n 0, 1) := by decide +kernel
theorem dX8_run_6 : decode cX8_run 6 = .ok (.bipush (-9), 2) := by decide +kernel
theorem dX8_run_8 : decode cX8_run 8 = .ok (.putfield 169, 3) := by decide +kernel
theorem dX8_run_11 : decode cX8_run 11 = .ok (.iload_n 1, 1) := by decide +kernel
theorem dX8_run_12 : decode cX8_run 12 = .ok (.istore_n 3, 1) := by decide +kernel
theorem dX8_run_13 : decode cX8_run 13 = .ok (.iload_n 2, 1) := by decide +kernel
theorem dX8_run_14 : decode cX8_run 14 = .ok (.istore 4, 2) := by decide +kernel
theorem dX8_run_16 : decode cX8_run 16 = .ok (.bipush (-9), 2) := by decide +kernel
theorem dX8_run_18 : decode cX8_run 18 = .ok (.istore 5, 2) := by decide +kernel
theorem dX8_run_20 : decode cX8_run 20 = .ok (.iconst 0, 1) := by decide +kernel
theorem dX8_run_21 : decode cX8_run 21 = .ok (.istore 6, 2) := by decide +kernel
theorem dX8_run_23 : decode cX8_run 23 = .ok (.iload 6, 2) := by decide +kernel
theorem dX8_run_25 : decode cX8_run 25 = .ok (.bipush 36, 2) := by decide +kernel
theorem dX8_run_27 : decode cX8_run 27 = .ok (.if_icmp .ge 17, 3) := by decide +kernel
theorem dX8_run_30 : decode cX8_run 30 = .ok (.aload_n 0, 1) := by decide +kernel
theorem dX8_run_31 : decode cX8_run 31 = .ok (.getfield 102, 3) := by decide +kernel
theorem dX8_run_34 : decode cX8_run 34 = .ok (.iload 6, 2) := by decide +kernel
theorem dX8_run_36 : decode cX8_run 36 = .ok (.iconst 0, 1) := by decide +kernel
theorem dX8_run_37 : decode cX8_run 37 = .ok (.bastore, 1) := by decide +kernel
theorem dX8_run_38 : decode cX8_run 38 = .ok (.iinc 6 1, 3) := by decide +kernel
theorem dX8_run_41 : decode cX8_run 41 = .ok (.goto (-18), 3) := by decide +kernel
theorem dX8_run_44 : decode cX8_run 44 = .ok (.bipush 10, 2) := by decide +kernel
theorem dX8_run_46 : decode cX8_run 46 = .ok (.iload_n 3, 1) := by decide +kernel
theorem dX8_run_47 : decode cX8_run 47 = .ok (.imul, 1) := by decide +kernel
theorem dX8_run_48 : decode cX8_run 48 = .ok (.iload 4, 2) := by decide +kernel
theorem dX8_run_50 : decode cX8_run 50 = .ok (.iadd, 1) := by decide +kernel
theorem dX8_run_51 : decode cX8_run 51 = .ok (.istore 6, 2) := by decide +kernel
theorem dX8_run_53 : decode cX8_run 53 = .ok (.aload_n 0, 1) := by decide +kernel
theorem dX8_run_54 : decode cX8_run 54 = .ok (.getfield 19, 3) := by decide +kernel
theorem dX8_run_57 : decode cX8_run 57 = .ok (.bipush 6, 2) := by decide +kernel
theorem dX8_run_59 : decode cX8_run 59 = .ok (.iload_n 3, 1) := by decide +kernel
theorem dX8_run_60 : decode cX8_run 60 = .ok (.imul, 1) := by decide +kernel
theorem dX8_run_61 : decode cX8_run 61 = .ok (.iload 4, 2) := by decide +kernel
theorem dX8_run_63 : decode cX8_run 63 = .ok (.iadd, 1) := by decide +kernel
theorem dX8_run_64 : decode cX8_run 64 = .ok (.iaload, 1) := by decide +kernel
theorem dX8_run_65 : decode cX8_run 65 = .ok (.ifCond .eq 86, 3) := by decide +kernel
theorem dX8_run_68 : decode cX8_run 68 = .ok (.aload_n 0, 1) := by decide +kernel
theorem dX8_run_69 : decode cX8_run 69 = .ok (.getfield 102, 3) := by decide +kernel
theorem dX8_run_72 : decode cX8_run 72 = .ok (.bipush 6, 2) := by decide +kernel
theorem dX8_run_74 : decode cX8_run 74 = .ok (.iload_n 3, 1) := by decide +kernel
theorem dX8_run_75 : decode cX8_run 75 = .ok (.imul, 1) := by decide +kernel
theorem dX8_run_76 : decode cX8_run 76 = .ok (.iload 4, 2) := by decide +kernel
theorem dX8_run_78 : decode cX8_run 78 = .ok (.iadd, 1) := by decide +kernel
theorem dX8_run_79 : decode cX8_run 79 = .ok (.baload, 1) := by decide +kernel
theorem dX8_run_80 : decode cX8_run 80 = .ok (.ifCond .eq 6, 3) := by decide +kernel
theorem dX8_run_83 : decode cX8_run 83 = .ok (.iload 6, 2) := by decide +kernel
theorem dX8_run_85 : decode cX8_run 85 = .ok (.ireturn, 1) := by decide +kernel
theorem dX8_run_86 : decode cX8_run 86 = .ok (.aload_n 0, 1) := by decide +kernel
theorem dX8_run_87 : decode cX8_run 87 = .ok (.getfield 102, 3) := by decide +kernel
theorem dX8_run_90 : decode cX8_run 90 = .ok (.bipush 6, 2) := by decide +kernel
theorem dX8_run_92 : decode cX8_run 92 = .ok (.iload_n 3, 1) := by decide +kernel
theorem dX8_run_93 : decode cX8_run 93 = .ok (.imul, 1) := by decide +kernel
theorem dX8_run_94 : decode cX8_run 94 = .ok (.iload 4, 2) := by decide +kernel
theorem dX8_run_96 : decode cX8_run 96 = .ok (.iadd, 1) := by decide +kernel
theorem dX8_run_97 : decode cX8_run 97 = .ok (.iconst 1, 1) := by decide +kernel
theorem dX8_run_98 : decode cX8_run 98 = .ok (.bastore, 1) := by decide +kernel
theorem dX8_run_99 : decode cX8_run 99 = .ok (.aload_n 0, 1) := by decide +kernel
theorem dX8_run_100 : decode cX8_run 100 = .ok (.sipush 9900, 3) := by decide +kernel
theorem dX8_run_103 : decode cX8_run 103 = .ok (.iload 6, 2) := by decide +kernel
theorem dX8_run_105 : decode cX8_run 105 = .ok (.iadd, 1) := by decide +kernel
theorem dX8_run_106 : decode cX8_run 106 = .ok (.invokevirtual 172, 3) := by decide +kernel
theorem dX8_run_109 : decode cX8_run 109 = .ok (.iload_n 3, 1) := by decide +kernel
theorem dX8_run_110 : decode cX8_run 110 = .ok (.aload_n 0, 1) := by decide +kernel
theorem dX8_run_111 : decode cX8_run 111 = .ok (.getfield 19, 3) := by decide +kernel
theorem dX8_run_114 : decode cX8_run 114 = .ok (.bipush 6, 2) := by decide +kernel
theorem dX8_run_116 : decode cX8_run 116 = .ok (.iload_n 3, 1) := by decide +kernel
theorem dX8_run_117 : decode cX8_run 117 = .ok (.imul, 1) := by decide +kernel
theorem dX8_run_118 : decode cX8_run 118 = .ok (.iload 4, 2) := by decide +kernel
theorem dX8_run_120 : decode cX8_run 120 = .ok (.iadd, 1) := by decide +kernel
theorem dX8_run_121 : decode cX8_run 121 = .ok (.iaload, 1) := by decide +kernel
theorem dX8_run_122 : decode cX8_run 122 = .ok (.iconst 1, 1) := by decide +kernel
theorem dX8_run_123 : decode cX8_run 123 = .ok (.if_icmp .ne 7, 3) := by decide +kernel
theorem dX8_run_126 : decode cX8_run 126 = .ok (.iconst (-1), 1) := by decide +kernel
theorem dX8_run_127 : decode cX8_run 127 = .ok (.goto 4, 3) := by decide +kernel
theorem dX8_run_130 : decode cX8_run 130 = .ok (.iconst 1, 1) := by decide +kernel
theorem dX8_run_131 : decode cX8_run 131 = .ok (.iadd, 1) := by decide +kernel
theorem dX8_run_132 : decode cX8_run 132 = .ok (.istore_n 3, 1) := by decide +kernel
theorem dX8_run_133 : decode cX8_run 133 = .ok (.aload_n 0, 1) := by decide +kernel
theorem dX8_run_134 : decode cX8_run 134 = .ok (.iload_n 3, 1) := by decide +kernel
theorem dX8_run_135 : decode cX8_run 135 = .ok (.invokevirtual 127, 3) := by decide +kernel
theorem dX8_run_138 : decode cX8_run 138 = .ok (.ifCond .eq 6, 3) := by decide +kernel
theorem dX8_run_141 : decode cX8_run 141 = .ok (.bipush 100, 2) := by decide +kernel
theorem dX8_run_143 : decode cX8_run 143 = .ok (.ireturn, 1) := by decide +kernel
theorem dX8_run_144 : decode cX8_run 144 = .ok (.bipush (-9), 2) := by decide +kernel
theorem dX8_run_146 : decode cX8_run 146 = .ok (.istore 5, 2) := by decide +kernel
theorem dX8_run_148 : decode cX8_run 148 = .ok (.goto 135, 3) := by decide +kernel
theorem dX8_run_151 : decode cX8_run 151 = .ok (.iload 5, 2) := by decide +kernel
theorem dX8_run_153 : decode cX8_run 153 = .ok (.bipush (-9), 2) := by decide +kernel
theorem dX8_run_155 : decode cX8_run 155 = .ok (.if_icmp .ne 26, 3) := by decide +kernel
theorem dX8_run_158 : decode cX8_run 158 = .ok (.aload_n 0, 1) := by decide +kernel
theorem dX8_run_159 : decode cX8_run 159 = .ok (.iload_n 3, 1) := by decide +kernel
theorem dX8_run_160 : decode cX8_run 160 = .ok (.iload 4, 2) := by decide +kernel
theorem dX8_run_162 : decode cX8_run 162 = .ok (.aload_n 0, 1) := by decide +kernel
theorem dX8_run_163 : decode cX8_run 163 = .ok (.getfield 131, 3) := by decide +kernel
theorem dX8_run_166 : decode cX8_run 166 = .ok (.invokevirtual 144, 3) := by decide +kernel
theorem dX8_run_169 : decode cX8_run 169 = .ok (.istore 5, 2) := by decide +kernel
theorem dX8_run_171 : decode cX8_run 171 = .ok (.iload 5, 2) := by decide +kernel
theorem dX8_run_173 : decode cX8_run 173 = .ok (.bipush (-9), 2) := by decide +kernel
theorem dX8_run_175 : decode cX8_run 175 = .ok (.if_icmp .ne 6, 3) := by decide +kernel
theorem dX8_run_178 : decode cX8_run 178 = .ok (.iload 6, 2) := by decide +kernel
theorem dX8_run_180 : decode cX8_run 180 = .ok (.ireturn, 1) := by decide +kernel
theorem dX8_run_181 : decode cX8_run 181 = .ok (.aload_n 0, 1) := by decide +kernel
theorem dX8_run_182 : decode cX8_run 182 = .ok (.bipush 100, 2) := by decide +kernel
theorem dX8_run_184 : decode cX8_run 184 = .ok (.iload 5, 2) := by decide +kernel
theorem dX8_run_186 : decode cX8_run 186 = .ok (.imul, 1) := by decide +kernel
theorem dX8_run_187 : decode cX8_run 187 = .ok (.iload 6, 2) := by decide +kernel
theorem dX8_run_189 : decode cX8_run 189 = .ok (.iadd, 1) := by decide +kernel
theorem dX8_run_190 : decode cX8_run 190 = .ok (.invokevirtual 172, 3) := by decide +kernel
theorem dX8_run_193 : decode cX8_run 193 = .ok (.iload 4, 2) := by decide +kernel
theorem dX8_run_195 : decode cX8_run 195 = .ok (.ifCond .ne 11, 3) := by decide +kernel
theorem dX8_run_198 : decode cX8_run 198 = .ok (.aload_n 0, 1) := by decide +kernel
theorem dX8_run_199 : decode cX8_run 199 = .ok (.iload_n 3, 1) := by decide +kernel
theorem dX8_run_200 : decode cX8_run 200 = .ok (.putfield 169, 3) := by decide +kernel
theorem dX8_run_203 : decode cX8_run 203 = .ok (.bipush 100, 2) := by decide +kernel
theorem dX8_run_205 : decode cX8_run 205 = .ok (.ireturn, 1) := by decide +kernel
theorem dX8_run_206 : decode cX8_run 206 = .ok (.aload_n 0, 1) := by decide +kernel
theorem dX8_run_207 : decode cX8_run 207 = .ok (.getfield 41, 3) := by decide +kernel
theorem dX8_run_210 : decode cX8_run 210 = .ok (.bipush 6, 2) := by decide +kernel
theorem dX8_run_212 : decode cX8_run 212 = .ok (.iload 5, 2) := by decide +kernel
theorem dX8_run_214 : decode cX8_run 214 = .ok (.imul, 1) := by decide +kernel
theorem dX8_run_215 : decode cX8_run 215 = .ok (.iload 4, 2) := by decide +kernel
theorem dX8_run_217 : decode cX8_run 217 = .ok (.iadd, 1) := by decide +kernel
theorem dX8_run_218 : decode cX8_run 218 = .ok (.iconst 1, 1) := by decide +kernel
theorem dX8_run_219 : decode cX8_run 219 = .ok (.isub, 1) := by decide +kernel
theorem dX8_run_220 : decode cX8_run 220 = .ok (.iaload, 1) := by decide +kernel
theorem dX8_run_221 : decode cX8_run 221 = .ok (.ifCond .ne 59, 3) := by decide +kernel
theorem dX8_run_224 : decode cX8_run 224 = .ok (.aload_n 0, 1) := by decide +kernel
theorem dX8_run_225 : decode cX8_run 225 = .ok (.getfield 19, 3) := by decide +kernel
theorem dX8_run_228 : decode cX8_run 228 = .ok (.bipush 6, 2) := by decide +kernel
theorem dX8_run_230 : decode cX8_run 230 = .ok (.iload_n 3, 1) := by decide +kernel
theorem dX8_run_231 : decode cX8_run 231 = .ok (.imul, 1) := by decide +kernel
theorem dX8_run_232 : decode cX8_run 232 = .ok (.iload 4, 2) := by decide +kernel
theorem dX8_run_234 : decode cX8_run 234 = .ok (.iadd, 1) := by decide +kernel
theorem dX8_run_235 : decode cX8_run 235 = .ok (.iconst 1, 1) := by decide +kernel
theorem dX8_run_236 : decode cX8_run 236 = .ok (.isub, 1) := by decide +kernel
theorem dX8_run_237 : decode cX8_run 237 = .ok (.iaload, 1) := by decide +kernel
theorem dX8_run_238 : decode cX8_run 238 = .ok (.ifCond .ne 42, 3) := by decide +kernel
theorem dX8_run_241 : decode cX8_run 241 = .ok (.aload_n 0, 1) := by decide +kernel
theorem dX8_run_242 : decode cX8_run 242 = .ok (.iload_n 3, 1) := by decide +kernel
theorem dX8_run_243 : decode cX8_run 243 = .ok (.iload 4, 2) := by decide +kernel
theorem dX8_run_245 : decode cX8_run 245 = .ok (.iconst 1, 1) := by decide +kernel
theorem dX8_run_246 : decode cX8_run 246 = .ok (.isub, 1) := by decide +kernel
theorem dX8_run_247 : decode cX8_run 247 = .ok (.iload 5, 2) := by decide +kernel
theorem dX8_run_249 : decode cX8_run 249 = .ok (.invokevirtual 144, 3) := by decide +kernel
theorem dX8_run_252 : decode cX8_run 252 = .ok (.istore 5, 2) := by decide +kernel
theorem dX8_run_254 : decode cX8_run 254 = .ok (.iload 5, 2) := by decide +kernel
theorem dX8_run_256 : decode cX8_run 256 = .ok (.bipush (-9), 2) := by decide +kernel
theorem dX8_run_258 : decode cX8_run 258 = .ok (.if_icmp .eq 17, 3) := by decide +kernel
theorem dX8_run_261 : decode cX8_run 261 = .ok (.aload_n 0, 1) := by decide +kernel
theorem dX8_run_262 : decode cX8_run 262 = .ok (.iload 5, 2) := by decide +kernel
theorem dX8_run_264 : decode cX8_run 264 = .ok (.iload_n 3, 1) := by decide +kernel
theorem dX8_run_265 : decode cX8_run 265 = .ok (.iload 4, 2) := by decide +kernel
theorem dX8_run_267 : decode cX8_run 267 = .ok (.iconst 1, 1) := by decide +kernel
theorem dX8_run_268 : decode cX8_run 268 = .ok (.isub, 1) := by decide +kernel
theorem dX8_run_269 : decode cX8_run 269 = .ok (.invokevirtual 176, 3) := by decide +kernel
theorem dX8_run_272 : decode cX8_run 272 = .ok (.ifCond .ne 8, 3) := by decide +kernel
theorem dX8_run_275 : decode cX8_run 275 = .ok (.iload 6, 2) := by decide +kernel
theorem dX8_run_277 : decode cX8_run 277 = .ok (.iconst 1, 1) := by decide +kernel
theorem dX8_run_278 : decode cX8_run 278 = .ok (.isub, 1) := by decide +kernel
theorem dX8_run_279 : decode cX8_run 279 = .ok (.ireturn, 1) := by decide +kernel
theorem dX8_run_280 : decode cX8_run 280 = .ok (.iinc 4 (-1), 3) := by decide +kernel
theorem dX8_run_283 : decode cX8_run 283 = .ok (.goto (-239), 3) := by decide +kernel
set_option maxRecDepth 20000 in
theorem ggX8_drop_X8_noCell : GoodIn wsX8_drop wsX8_noCell := goodIn_r _ [6, 7, 8, 9, 10, 5, 11, 12, 13, 14, 15, 41, 42, 43, 44, 45, 46, 47, 48, 49, 50, 51, 52, 53, 54, 55, 56, 57, 58, 59, 60, 61, 62, 63, 64, 65, 66, 67, 68, 69, 70, 71, 72, 73, 74, 75, 76, 77, 78, 79, 80, 81, 82] (by decide +kernel) (by decide +kernel)
set_option maxRecDepth 20000 in
theorem gX8_drop_X8_noCell : GoodIn wsX8_drop (wsV RX8 138 RX8 yX8_noCell wsX8_noCell) := goodIn_app (goodIn_of _ (by decide +kernel)) ggX8_drop_X8_noCell
set_option maxRecDepth 20000 in
theorem ggX8_drop_X8_run : GoodIn wsX8_drop wsX8_run := goodIn_r _ [19, 20, 21, 22, 23, 24, 25, 26, 27, 28, 5, 29, 30, 8, 9, 10, 11, 12, 13, 14, 15, 31, 32, 33, 34, 35, 36, 37, 38, 39, 40, 7, 41, 42, 43, 44, 45, 46, 47, 48, 49, 50, 51, 52, 53, 54, 55, 56, 57, 58, 59, 60, 61, 62, 63, 64, 65, 66, 67, 68, 69, 70, 71, 72, 73, 74, 75, 76, 77, 78, 79, 80, 81, 82] (by decide +kernel) (by decide +kernel)
set_option maxRecDepth 20000 in
theorem gX8_drop_X8_run : GoodIn wsX8_drop (wsV RX8 180 RX8 yX8_run wsX8_run) := goodIn_app (goodIn_of _ (by decide +kernel)) ggX8_drop_X8_run
theorem dX8_drop_0 : decode cX8_drop 0 = .ok (.aload_n 0, 1) := by decide +kernel
theorem dX8_drop_1 : decode cX8_drop 1 = .ok (.iconst 0, 1) := by decide +kernel
theorem dX8_drop_2 : decode cX8_drop 2 = .ok (.putfield 120, 3) := by decide +kernel
theorem dX8_drop_5 : decode cX8_drop 5 = .ok (.aload_n 0, 1) := by decide +kernel
theorem dX8_drop_6 : decode cX8_drop 6 = .ok (.iload_n 1, 1) := by decide +kernel
theorem dX8_drop_7 : decode cX8_drop 7 = .ok (.iload_n 2, 1) := by decide +kernel
theorem dX8_drop_8 : decode cX8_drop 8 = .ok (.invokevirtual 138, 3) := by decide +kernel
theorem dX8_drop_11 : decode cX8_drop 11 = .ok (.ifCond .eq 7, 3) := by decide +kernel
theorem dX8_drop_14 : decode cX8_drop 14 = .ok (.iconst (-1), 1) := by decide +kernel
theorem dX8_drop_15 : decode cX8_drop 15 = .ok (.goto 9, 3) := by decide +kernel
theorem dX8_drop_18 : decode cX8_drop 18 = .ok (.aload_n 0, 1) := by decide +kernel
theorem dX8_drop_19 : decode cX8_drop 19 = .ok (.iload_n 1, 1) := by decide +kernel
theorem dX8_drop_20 : decode cX8_drop 20 = .ok (.iload_n 2, 1) := by decide +kernel
theorem dX8_drop_21 : decode cX8_drop 21 = .ok (.invokevirtual 180, 3) := by decide +kernel
theorem dX8_drop_24 : decode cX8_drop 24 = .ok (.ireturn, 1) := by decide +kernel
set_option maxRecDepth 20000 in
theorem ggX8_way_X8_noCell : GoodIn wsX8_way wsX8_noCell := goodIn_r _ [8, 9, 10, 11, 12, 7, 13, 14, 15, 16, 17, 41, 42, 43, 44, 45, 46, 47, 48, 49, 50, 51, 52, 53, 54, 55, 56, 57, 58, 59, 60, 61, 62, 63, 64, 65, 66, 67, 68, 69, 70, 71, 72, 73, 74, 75, 76, 77, 78, 79, 80, 81, 82] (by decide +kernel) (by decide +kernel)
set_option maxRecDepth 20000 in
theorem gX8_way_X8_noCell : GoodIn wsX8_way (wsV RX8 138 RX8 yX8_noCell wsX8_noCell) := goodIn_app (goodIn_of _ (by decide +kernel)) ggX8_way_X8_noCell
set_option maxRecDepth 20000 in
theorem ggX8_way_X8_run : GoodIn wsX8_way wsX8_run := goodIn_r _ [21, 2, 22, 23, 24, 25, 26, 27, 28, 29, 7, 30, 3, 10, 11, 12, 13, 14, 15, 16, 17, 31, 32, 33, 34, 35, 36, 37, 38, 39, 40, 9, 41, 42, 43, 44, 45, 46, 47, 48, 49, 50, 51, 52, 53, 54, 55, 56, 57, 58, 59, 60, 61, 62, 63, 64, 65, 66, 67, 68, 69, 70, 71, 72, 73, 74, 75, 76, 77, 78, 79, 80, 81, 82] (by decide +kernel) (by decide +kernel)
set_option maxRecDepth 20000 in
theorem gX8_way_X8_run : GoodIn wsX8_way (wsV RX8 180 RX8 yX8_run wsX8_run) := goodIn_app (goodIn_of _ (by decide +kernel)) ggX8_way_X8_run
set_option maxRecDepth 20000 in
theorem ggX8_way_X8_in : GoodIn wsX8_way wsX8_in := goodIn_r _ [17] (by decide +kernel) (by decide +kernel)
set_option maxRecDepth 20000 in
theorem gX8_way_X8_in : GoodIn wsX8_way (va_wsS RX8 123 yX8_in wsX8_in) := goodIn_app (goodIn_of _ (by decide +kernel)) ggX8_way_X8_in
theorem dX8_way_0 : decode cX8_way 0 = .ok (.aload_n 0, 1) := by decide +kernel
theorem dX8_way_1 : decode cX8_way 1 = .ok (.iconst 0, 1) := by decide +kernel
theorem dX8_way_2 : decode cX8_way 2 = .ok (.putfield 120, 3) := by decide +kernel
theorem dX8_way_5 : decode cX8_way 5 = .ok (.aload_n 0, 1) := by decide +kernel
theorem dX8_way_6 : decode cX8_way 6 = .ok (.iload_n 1, 1) := by decide +kernel
theorem dX8_way_7 : decode cX8_way 7 = .ok (.iload_n 2, 1) := by decide +kernel
theorem dX8_way_8 : decode cX8_way 8 = .ok (.invokevirtual 138, 3) := by decide +kernel
theorem dX8_way_11 : decode cX8_way 11 = .ok (.ifCond .eq 5, 3) := by decide +kernel
theorem dX8_way_14 : decode cX8_way 14 = .ok (.iconst (-1), 1) := by decide +kernel
theorem dX8_way_15 : decode cX8_way 15 = .ok (.ireturn, 1) := by decide +kernel
theorem dX8_way_16 : decode cX8_way 16 = .ok (.aload_n 0, 1) := by decide +kernel
theorem dX8_way_17 : decode cX8_way 17 = .ok (.iload_n 1, 1) := by decide +kernel
theorem dX8_way_18 : decode cX8_way 18 = .ok (.iload_n 2, 1) := by decide +kernel
theorem dX8_way_19 : decode cX8_way 19 = .ok (.invokevirtual 180, 3) := by decide +kernel
theorem dX8_way_22 : decode cX8_way 22 = .ok (.pop, 1) := by decide +kernel
theorem dX8_way_23 : decode cX8_way 23 = .ok (.iload_n 3, 1) := by decide +kernel
theorem dX8_way_24 : decode cX8_way 24 = .ok (.i2l, 1) := by decide +kernel
theorem dX8_way_25 : decode cX8_way 25 = .ok (.lconst 0, 1) := by decide +kernel
theorem dX8_way_26 : decode cX8_way 26 = .ok (.aload_n 0, 1) := by decide +kernel
theorem dX8_way_27 : decode cX8_way 27 = .ok (.getfield 166, 3) := by decide +kernel
theorem dX8_way_30 : decode cX8_way 30 = .ok (.iconst 1, 1) := by decide +kernel
theorem dX8_way_31 : decode cX8_way 31 = .ok (.isub, 1) := by decide +kernel
theorem dX8_way_32 : decode cX8_way 32 = .ok (.i2l, 1) := by decide +kernel
theorem dX8_way_33 : decode cX8_way 33 = .ok (.invokestatic 123, 3) := by decide +kernel
theorem dX8_way_36 : decode cX8_way 36 = .ok (.ifCond .eq 12, 3) := by decide +kernel
theorem dX8_way_39 : decode cX8_way 39 = .ok (.aload_n 0, 1) := by decide +kernel
theorem dX8_way_40 : decode cX8_way 40 = .ok (.getfield 99, 3) := by decide +kernel
theorem dX8_way_43 : decode cX8_way 43 = .ok (.iload_n 3, 1) := by decide +kernel
theorem dX8_way_44 : decode cX8_way 44 = .ok (.iaload, 1) := by decide +kernel
theorem dX8_way_45 : decode cX8_way 45 = .ok (.goto 5, 3) := by decide +kernel
theorem dX8_way_48 : decode cX8_way 48 = .ok (.bipush (-9), 2) := by decide +kernel
theorem dX8_way_50 : decode cX8_way 50 = .ok (.ireturn, 1) := by decide +kernel
set_option maxRecDepth 20000 in
theorem ggX8_wet_X8_noCell : GoodIn wsX8_wet wsX8_noCell := goodIn_r _ [8, 3, 9, 10, 11, 7, 12, 2, 13, 14, 15, 41, 42, 43, 44, 45, 46, 47, 48, 49, 50, 51, 52, 53, 54, 55, 56, 57, 58, 59, 60, 61, 62, 63, 64, 65, 66, 67, 68, 69, 70, 71, 72, 73, 74, 75, 76, 77, 78, 79, 80, 81, 82] (by decide +kernel) (by decide +kernel)
set_option maxRecDepth 20000 in
theorem gX8_wet_X8_noCell : GoodIn wsX8_wet (wsV RX8 138 RX8 yX8_noCell wsX8_noCell) := goodIn_app (goodIn_of _ (by decide +kernel)) ggX8_wet_X8_noCell
set_option maxRecDepth 20000 in
theorem ggX8_wet_X8_run : GoodIn wsX8_wet wsX8_run := goodIn_r _ [19, 20, 21, 22, 23, 24, 25, 26, 27, 28, 7, 29, 30, 9, 10, 11, 12, 2, 13, 14, 15, 31, 32, 33, 34, 35, 36, 37, 38, 39, 40, 3, 41, 42, 43, 44, 45, 46, 47, 48, 49, 50, 51, 52, 53, 54, 55, 56, 57, 58, 59, 60, 61, 62, 63, 64, 65, 66, 67, 68, 69, 70, 71, 72, 73, 74, 75, 76, 77, 78, 79, 80, 81, 82] (by decide +kernel) (by decide +kernel)
set_option maxRecDepth 20000 in
theorem gX8_wet_X8_run : GoodIn wsX8_wet (wsV RX8 180 RX8 yX8_run wsX8_run) := goodIn_app (goodIn_of _ (by decide +kernel)) ggX8_wet_X8_run
theorem dX8_wet_0 : decode cX8_wet 0 = .ok (.aload_n 0, 1) := by decide +kernel
theorem dX8_wet_1 : decode cX8_wet 1 = .ok (.iconst 0, 1) := by decide +kernel
theorem dX8_wet_2 : decode cX8_wet 2 = .ok (.putfield 120, 3) := by decide +kernel
theorem dX8_wet_5 : decode cX8_wet 5 = .ok (.aload_n 0, 1) := by decide +kernel
theorem dX8_wet_6 : decode cX8_wet 6 = .ok (.iload_n 1, 1) := by decide +kernel
theorem dX8_wet_7 : decode cX8_wet 7 = .ok (.iload_n 2, 1) := by decide +kernel
theorem dX8_wet_8 : decode cX8_wet 8 = .ok (.invokevirtual 138, 3) := by decide +kernel
theorem dX8_wet_11 : decode cX8_wet 11 = .ok (.ifCond .eq 5, 3) := by decide +kernel
theorem dX8_wet_14 : decode cX8_wet 14 = .ok (.iconst (-1), 1) := by decide +kernel
theorem dX8_wet_15 : decode cX8_wet 15 = .ok (.ireturn, 1) := by decide +kernel
theorem dX8_wet_16 : decode cX8_wet 16 = .ok (.iconst 0, 1) := by decide +kernel
theorem dX8_wet_17 : decode cX8_wet 17 = .ok (.istore_n 3, 1) := by decide +kernel
theorem dX8_wet_18 : decode cX8_wet 18 = .ok (.iconst 0, 1) := by decide +kernel
theorem dX8_wet_19 : decode cX8_wet 19 = .ok (.istore 4, 2) := by decide +kernel
theorem dX8_wet_21 : decode cX8_wet 21 = .ok (.iload 4, 2) := by decide +kernel
theorem dX8_wet_23 : decode cX8_wet 23 = .ok (.aload_n 0, 1) := by decide +kernel
theorem dX8_wet_24 : decode cX8_wet 24 = .ok (.getfield 7, 3) := by decide +kernel
theorem dX8_wet_27 : decode cX8_wet 27 = .ok (.if_icmp .ge 52, 3) := by decide +kernel
theorem dX8_wet_30 : decode cX8_wet 30 = .ok (.iconst 0, 1) := by decide +kernel
theorem dX8_wet_31 : decode cX8_wet 31 = .ok (.istore 5, 2) := by decide +kernel
theorem dX8_wet_33 : decode cX8_wet 33 = .ok (.iload 5, 2) := by decide +kernel
theorem dX8_wet_35 : decode cX8_wet 35 = .ok (.aload_n 0, 1) := by decide +kernel
theorem dX8_wet_36 : decode cX8_wet 36 = .ok (.getfield 13, 3) := by decide +kernel
theorem dX8_wet_39 : decode cX8_wet 39 = .ok (.if_icmp .ge 34, 3) := by decide +kernel
theorem dX8_wet_42 : decode cX8_wet 42 = .ok (.iload_n 3, 1) := by decide +kernel
theorem dX8_wet_43 : decode cX8_wet 43 = .ok (.aload_n 0, 1) := by decide +kernel
theorem dX8_wet_44 : decode cX8_wet 44 = .ok (.iload 4, 2) := by decide +kernel
theorem dX8_wet_46 : decode cX8_wet 46 = .ok (.iload 5, 2) := by decide +kernel
theorem dX8_wet_48 : decode cX8_wet 48 = .ok (.invokevirtual 180, 3) := by decide +kernel
theorem dX8_wet_51 : decode cX8_wet 51 = .ok (.bipush 10, 2) := by decide +kernel
theorem dX8_wet_53 : decode cX8_wet 53 = .ok (.iload_n 1, 1) := by decide +kernel
theorem dX8_wet_54 : decode cX8_wet 54 = .ok (.imul, 1) := by decide +kernel
theorem dX8_wet_55 : decode cX8_wet 55 = .ok (.iload_n 2, 1) := by decide +kernel
theorem dX8_wet_56 : decode cX8_wet 56 = .ok (.iadd, 1) := by decide +kernel
theorem dX8_wet_57 : decode cX8_wet 57 = .ok (.if_icmp .ne 7, 3) := by decide +kernel
theorem dX8_wet_60 : decode cX8_wet 60 = .ok (.iconst 1, 1) := by decide +kernel
theorem dX8_wet_61 : decode cX8_wet 61 = .ok (.goto 4, 3) := by decide +kernel
theorem dX8_wet_64 : decode cX8_wet 64 = .ok (.iconst 0, 1) := by decide +kernel
theorem dX8_wet_65 : decode cX8_wet 65 = .ok (.iadd, 1) := by decide +kernel
theorem dX8_wet_66 : decode cX8_wet 66 = .ok (.istore_n 3, 1) := by decide +kernel
theorem dX8_wet_67 : decode cX8_wet 67 = .ok (.iinc 5 1, 3) := by decide +kernel
theorem dX8_wet_70 : decode cX8_wet 70 = .ok (.goto (-37), 3) := by decide +kernel
theorem dX8_wet_73 : decode cX8_wet 73 = .ok (.iinc 4 1, 3) := by decide +kernel
theorem dX8_wet_76 : decode cX8_wet 76 = .ok (.goto (-55), 3) := by decide +kernel
theorem dX8_wet_79 : decode cX8_wet 79 = .ok (.iload_n 3, 1) := by decide +kernel
theorem dX8_wet_80 : decode cX8_wet 80 = .ok (.ireturn, 1) := by decide +kernel
set_option maxRecDepth 20000 in
theorem ggX8_firstWet_X8_run : GoodIn wsX8_firstWet wsX8_run := goodIn_r _ [7, 8, 9, 10, 11, 12, 13, 14, 15, 16, 6, 17, 18, 19, 20, 21, 22, 1, 23, 24, 25, 26, 27, 28, 29, 30, 31, 32, 33, 34, 35, 2, 36, 37, 38, 39, 40, 41, 42, 43, 44, 45, 46, 47, 48, 49, 50, 51, 52, 53, 54, 55, 56, 57, 58, 59, 60, 61, 62, 63, 64, 65, 66, 67, 68, 69, 70, 71, 72, 73, 74, 75, 76, 77] (by decide +kernel) (by decide +kernel)
set_option maxRecDepth 20000 in
theorem gX8_firstWet_X8_run : GoodIn wsX8_firstWet (wsV RX8 180 RX8 yX8_run wsX8_run) := goodIn_app (goodIn_of _ (by decide +kernel)) ggX8_firstWet_X8_run
theorem dX8_firstWet_0 : decode cX8_firstWet 0 = .ok (.bipush (-9), 2) := by decide +kernel
theorem dX8_firstWet_2 : decode cX8_firstWet 2 = .ok (.istore_n 1, 1) := by decide +kernel
theorem dX8_firstWet_3 : decode cX8_firstWet 3 = .ok (.iconst 0, 1) := by decide +kernel
theorem dX8_firstWet_4 : decode cX8_firstWet 4 = .ok (.istore_n 2, 1) := by decide +kernel
theorem dX8_firstWet_5 : decode cX8_firstWet 5 = .ok (.iload_n 2, 1) := by decide +kernel
theorem dX8_firstWet_6 : decode cX8_firstWet 6 = .ok (.aload_n 0, 1) := by decide +kernel
theorem dX8_firstWet_7 : decode cX8_firstWet 7 = .ok (.getfield 7, 3) := by decide +kernel
theorem dX8_firstWet_10 : decode cX8_firstWet 10 = .ok (.if_icmp .ge 59, 3) := by decide +kernel
theorem dX8_firstWet_13 : decode cX8_firstWet 13 = .ok (.iconst 0, 1) := by decide +kernel
theorem dX8_firstWet_14 : decode cX8_firstWet 14 = .ok (.istore_n 3, 1) := by decide +kernel
theorem dX8_firstWet_15 : decode cX8_firstWet 15 = .ok (.iload_n 3, 1) := by decide +kernel
theorem dX8_firstWet_16 : decode cX8_firstWet 16 = .ok (.aload_n 0, 1) := by decide +kernel
theorem dX8_firstWet_17 : decode cX8_firstWet 17 = .ok (.getfield 13, 3) := by decide +kernel
theorem dX8_firstWet_20 : decode cX8_firstWet 20 = .ok (.if_icmp .ge 43, 3) := by decide +kernel
theorem dX8_firstWet_23 : decode cX8_firstWet 23 = .ok (.aload_n 0, 1) := by decide +kernel
theorem dX8_firstWet_24 : decode cX8_firstWet 24 = .ok (.iload_n 2, 1) := by decide +kernel
theorem dX8_firstWet_25 : decode cX8_firstWet 25 = .ok (.iload_n 3, 1) := by decide +kernel
theorem dX8_firstWet_26 : decode cX8_firstWet 26 = .ok (.invokevirtual 180, 3) := by decide +kernel
theorem dX8_firstWet_29 : decode cX8_firstWet 29 = .ok (.istore 4, 2) := by decide +kernel
theorem dX8_firstWet_31 : decode cX8_firstWet 31 = .ok (.iload 4, 2) := by decide +kernel
theorem dX8_firstWet_33 : decode cX8_firstWet 33 = .ok (.bipush 100, 2) := by decide +kernel
theorem dX8_firstWet_35 : decode cX8_firstWet 35 = .ok (.if_icmp .eq 20, 3) := by decide +kernel
theorem dX8_firstWet_38 : decode cX8_firstWet 38 = .ok (.iload_n 1, 1) := by decide +kernel
theorem dX8_firstWet_39 : decode cX8_firstWet 39 = .ok (.bipush (-9), 2) := by decide +kernel
theorem dX8_firstWet_41 : decode cX8_firstWet 41 = .ok (.if_icmp .eq 9, 3) := by decide +kernel
theorem dX8_firstWet_44 : decode cX8_firstWet 44 = .ok (.iload 4, 2) := by decide +kernel
theorem dX8_firstWet_46 : decode cX8_firstWet 46 = .ok (.iload_n 1, 1) := by decide +kernel
theorem dX8_firstWet_47 : decode cX8_firstWet 47 = .ok (.if_icmp .ge 8, 3) := by decide +kernel
theorem dX8_firstWet_50 : decode cX8_firstWet 50 = .ok (.iload 4, 2) := by decide +kernel
theorem dX8_firstWet_52 : decode cX8_firstWet 52 = .ok (.goto 4, 3) := by decide +kernel
theorem dX8_firstWet_55 : decode cX8_firstWet 55 = .ok (.iload_n 1, 1) := by decide +kernel
theorem dX8_firstWet_56 : decode cX8_firstWet 56 = .ok (.istore_n 1, 1) := by decide +kernel
theorem dX8_firstWet_57 : decode cX8_firstWet 57 = .ok (.iinc 3 1, 3) := by decide +kernel
theorem dX8_firstWet_60 : decode cX8_firstWet 60 = .ok (.goto (-45), 3) := by decide +kernel
theorem dX8_firstWet_63 : decode cX8_firstWet 63 = .ok (.iinc 2 1, 3) := by decide +kernel
theorem dX8_firstWet_66 : decode cX8_firstWet 66 = .ok (.goto (-61), 3) := by decide +kernel
theorem dX8_firstWet_69 : decode cX8_firstWet 69 = .ok (.iload_n 1, 1) := by decide +kernel
theorem dX8_firstWet_70 : decode cX8_firstWet 70 = .ok (.ireturn, 1) := by decide +kernel
set_option maxRecDepth 20000 in
theorem ggX8_dry_X8_firstWet : GoodIn wsX8_dry wsX8_firstWet := goodIn_r _ [6, 7, 8, 9, 10, 11, 5, 12, 13, 14, 15, 16, 17, 18, 19, 20, 21, 22, 23, 24, 25, 26, 27, 28, 29, 30, 31, 32, 33, 34, 35, 36, 37, 38, 39, 40, 41, 42, 43, 44, 45, 46, 47, 48, 49, 50, 51, 52, 53, 54, 55, 56, 57, 58, 59, 60, 61, 62, 63, 64, 65, 66, 67, 68, 69, 70, 71, 72, 73, 74, 75, 76, 77, 78, 79, 80, 81, 82] (by decide +kernel) (by decide +kernel)
set_option maxRecDepth 20000 in
theorem gX8_dry_X8_firstWet : GoodIn wsX8_dry (wsV RX8 184 RX8 yX8_firstWet wsX8_firstWet) := goodIn_app (goodIn_of _ (by decide +kernel)) ggX8_dry_X8_firstWet
theorem dX8_dry_0 : decode cX8_dry 0 = .ok (.aload_n 0, 1) := by decide +kernel
theorem dX8_dry_1 : decode cX8_dry 1 = .ok (.iconst 0, 1) := by decide +kernel
theorem dX8_dry_2 : decode cX8_dry 2 = .ok (.putfield 120, 3) := by decide +kernel
theorem dX8_dry_5 : decode cX8_dry 5 = .ok (.aload_n 0, 1) := by decide +kernel
theorem dX8_dry_6 : decode cX8_dry 6 = .ok (.invokevirtual 184, 3) := by decide +kernel
theorem dX8_dry_9 : decode cX8_dry 9 = .ok (.bipush (-9), 2) := by decide +kernel
theorem dX8_dry_11 : decode cX8_dry 11 = .ok (.if_icmp .ne 7, 3) := by decide +kernel
theorem dX8_dry_14 : decode cX8_dry 14 = .ok (.iconst 1, 1) := by decide +kernel
theorem dX8_dry_15 : decode cX8_dry 15 = .ok (.goto 4, 3) := by decide +kernel
theorem dX8_dry_18 : decode cX8_dry 18 = .ok (.iconst 0, 1) := by decide +kernel
theorem dX8_dry_19 : decode cX8_dry 19 = .ok (.ireturn, 1) := by decide +kernel
set_option maxRecDepth 20000 in
theorem ggX8_off_X8_noColumn : GoodIn wsX8_off wsX8_noColumn := goodIn_r _ [9, 2, 10, 11, 8, 12, 37, 38, 39, 40, 41, 42, 43, 44, 45, 46, 47, 48, 49, 50, 51, 52, 53, 54, 55, 56, 57, 58, 59, 60, 61, 62, 63, 64, 65, 66, 67, 68, 69, 70, 71, 72, 73, 74, 75, 76, 77, 78] (by decide +kernel) (by decide +kernel)
set_option maxRecDepth 20000 in
theorem gX8_off_X8_noColumn : GoodIn wsX8_off (wsV RX8 127 RX8 yX8_noColumn wsX8_noColumn) := goodIn_app (goodIn_of _ (by decide +kernel)) ggX8_off_X8_noColumn
set_option maxRecDepth 20000 in
theorem ggX8_off_X8_run : GoodIn wsX8_off wsX8_run := goodIn_r _ [16, 17, 4, 18, 19, 20, 21, 22, 23, 24, 8, 25, 26, 5, 6, 7, 9, 2, 10, 11, 12, 27, 28, 29, 30, 31, 32, 33, 34, 35, 36, 3, 37, 38, 39, 40, 41, 42, 43, 44, 45, 46, 47, 48, 49, 50, 51, 52, 53, 54, 55, 56, 57, 58, 59, 60, 61, 62, 63, 64, 65, 66, 67, 68, 69, 70, 71, 72, 73, 74, 75, 76, 77, 78] (by decide +kernel) (by decide +kernel)
set_option maxRecDepth 20000 in
theorem gX8_off_X8_run : GoodIn wsX8_off (wsV RX8 180 RX8 yX8_run wsX8_run) := goodIn_app (goodIn_of _ (by decide +kernel)) ggX8_off_X8_run
theorem dX8_off_0 : decode cX8_off 0 = .ok (.aload_n 0, 1) := by decide +kernel
theorem dX8_off_1 : decode cX8_off 1 = .ok (.iconst 0, 1) := by decide +kernel
theorem dX8_off_2 : decode cX8_off 2 = .ok (.putfield 120, 3) := by decide +kernel
theorem dX8_off_5 : decode cX8_off 5 = .ok (.aload_n 0, 1) := by decide +kernel
theorem dX8_off_6 : decode cX8_off 6 = .ok (.iload_n 1, 1) := by decide +kernel
theorem dX8_off_7 : decode cX8_off 7 = .ok (.invokevirtual 127, 3) := by decide +kernel
theorem dX8_off_10 : decode cX8_off 10 = .ok (.ifCond .eq 5, 3) := by decide +kernel
theorem dX8_off_13 : decode cX8_off 13 = .ok (.iconst (-1), 1) := by decide +kernel
theorem dX8_off_14 : decode cX8_off 14 = .ok (.ireturn, 1) := by decide +kernel
theorem dX8_off_15 : decode cX8_off 15 = .ok (.iconst 0, 1) := by decide +kernel
theorem dX8_off_16 : decode cX8_off 16 = .ok (.istore_n 2, 1) := by decide +kernel
