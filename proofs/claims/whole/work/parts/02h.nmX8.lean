theorem dX8_layStraw_42 : decode cX8_layStraw 42 = .ok (.invokevirtual 144, 3) := by decide +kernel
theorem dX8_layStraw_45 : decode cX8_layStraw 45 = .ok (.bipush (-9), 2) := by decide +kernel
theorem dX8_layStraw_47 : decode cX8_layStraw 47 = .ok (.if_icmp .eq 7, 3) := by decide +kernel
theorem dX8_layStraw_50 : decode cX8_layStraw 50 = .ok (.iconst 1, 1) := by decide +kernel
theorem dX8_layStraw_51 : decode cX8_layStraw 51 = .ok (.goto 4, 3) := by decide +kernel
theorem dX8_layStraw_54 : decode cX8_layStraw 54 = .ok (.iconst 0, 1) := by decide +kernel
theorem dX8_layStraw_55 : decode cX8_layStraw 55 = .ok (.bastore, 1) := by decide +kernel
theorem dX8_layStraw_56 : decode cX8_layStraw 56 = .ok (.iinc 2 1, 3) := by decide +kernel
theorem dX8_layStraw_59 : decode cX8_layStraw 59 = .ok (.goto (-49), 3) := by decide +kernel
theorem dX8_layStraw_62 : decode cX8_layStraw 62 = .ok (.iinc 1 1, 3) := by decide +kernel
theorem dX8_layStraw_65 : decode cX8_layStraw 65 = .ok (.goto (-63), 3) := by decide +kernel
theorem dX8_layStraw_68 : decode cX8_layStraw 68 = .ok (.return_, 1) := by decide +kernel
set_option maxRecDepth 20000 in
theorem ggX8_catches_X8_noCell : GoodIn wsX8_catches wsX8_noCell := goodIn_r _ [6, 7, 8, 9, 10, 5, 11, 12, 13, 14, 15, 16, 17, 18, 19, 20, 21, 22, 23, 24, 25, 26, 27, 28, 29, 30, 31, 32, 33, 34, 35, 36, 37, 38, 39, 40, 41, 42, 43, 44, 45, 46, 47, 48, 49, 50, 51, 52, 53, 54, 55, 56, 57] (by decide +kernel) (by decide +kernel)
set_option maxRecDepth 20000 in
theorem gX8_catches_X8_noCell : GoodIn wsX8_catches (wsV RX8 138 RX8 yX8_noCell wsX8_noCell) := goodIn_app (goodIn_of _ (by decide +kernel)) ggX8_catches_X8_noCell
theorem dX8_catches_0 : decode cX8_catches 0 = .ok (.aload_n 0, 1) := by decide +kernel
theorem dX8_catches_1 : decode cX8_catches 1 = .ok (.iload_n 1, 1) := by decide +kernel
theorem dX8_catches_2 : decode cX8_catches 2 = .ok (.iload_n 2, 1) := by decide +kernel
theorem dX8_catches_3 : decode cX8_catches 3 = .ok (.invokevirtual 138, 3) := by decide +kernel
theorem dX8_catches_6 : decode cX8_catches 6 = .ok (.ifCond .ne 21, 3) := by decide +kernel
theorem dX8_catches_9 : decode cX8_catches 9 = .ok (.aload_n 0, 1) := by decide +kernel
theorem dX8_catches_10 : decode cX8_catches 10 = .ok (.getfield 117, 3) := by decide +kernel
theorem dX8_catches_13 : decode cX8_catches 13 = .ok (.bipush 6, 2) := by decide +kernel
theorem dX8_catches_15 : decode cX8_catches 15 = .ok (.iload_n 1, 1) := by decide +kernel
theorem dX8_catches_16 : decode cX8_catches 16 = .ok (.imul, 1) := by decide +kernel
theorem dX8_catches_17 : decode cX8_catches 17 = .ok (.iload_n 2, 1) := by decide +kernel
theorem dX8_catches_18 : decode cX8_catches 18 = .ok (.iadd, 1) := by decide +kernel
theorem dX8_catches_19 : decode cX8_catches 19 = .ok (.baload, 1) := by decide +kernel
theorem dX8_catches_20 : decode cX8_catches 20 = .ok (.ifCond .eq 7, 3) := by decide +kernel
theorem dX8_catches_23 : decode cX8_catches 23 = .ok (.iconst 1, 1) := by decide +kernel
theorem dX8_catches_24 : decode cX8_catches 24 = .ok (.goto 4, 3) := by decide +kernel
theorem dX8_catches_27 : decode cX8_catches 27 = .ok (.iconst 0, 1) := by decide +kernel
theorem dX8_catches_28 : decode cX8_catches 28 = .ok (.ireturn, 1) := by decide +kernel
set_option maxRecDepth 20000 in
theorem ggX8_burn_X8_catches : GoodIn wsX8_burn wsX8_catches := goodIn_r _ [9, 1, 10, 11, 12, 8, 13, 4, 14, 15, 16, 17, 3, 18, 19, 20, 21, 22, 23, 24, 25, 26, 27, 28, 29, 30, 31, 32, 33, 34, 35, 36, 37, 38, 39, 40, 41, 42, 43, 44, 45, 46, 47, 48, 49, 50, 51, 52, 53, 54, 55, 56, 57, 58, 59, 60, 61, 62] (by decide +kernel) (by decide +kernel)
set_option maxRecDepth 20000 in
theorem gX8_burn_X8_catches : GoodIn wsX8_burn (wsV RX8 235 RX8 yX8_catches wsX8_catches) := goodIn_app (goodIn_of _ (by decide +kernel)) ggX8_burn_X8_catches
theorem dX8_burn_0 : decode cX8_burn 0 = .ok (.iconst 0, 1) := by decide +kernel
theorem dX8_burn_1 : decode cX8_burn 1 = .ok (.istore 4, 2) := by decide +kernel
theorem dX8_burn_3 : decode cX8_burn 3 = .ok (.iload 4, 2) := by decide +kernel
theorem dX8_burn_5 : decode cX8_burn 5 = .ok (.bipush 36, 2) := by decide +kernel
theorem dX8_burn_7 : decode cX8_burn 7 = .ok (.if_icmp .ge 42, 3) := by decide +kernel
theorem dX8_burn_10 : decode cX8_burn 10 = .ok (.aload_n 0, 1) := by decide +kernel
theorem dX8_burn_11 : decode cX8_burn 11 = .ok (.getfield 117, 3) := by decide +kernel
theorem dX8_burn_14 : decode cX8_burn 14 = .ok (.iload 4, 2) := by decide +kernel
theorem dX8_burn_16 : decode cX8_burn 16 = .ok (.iload 4, 2) := by decide +kernel
theorem dX8_burn_18 : decode cX8_burn 18 = .ok (.bipush 6, 2) := by decide +kernel
theorem dX8_burn_20 : decode cX8_burn 20 = .ok (.iload_n 1, 1) := by decide +kernel
theorem dX8_burn_21 : decode cX8_burn 21 = .ok (.imul, 1) := by decide +kernel
theorem dX8_burn_22 : decode cX8_burn 22 = .ok (.iload_n 2, 1) := by decide +kernel
theorem dX8_burn_23 : decode cX8_burn 23 = .ok (.iadd, 1) := by decide +kernel
theorem dX8_burn_24 : decode cX8_burn 24 = .ok (.if_icmp .ne 17, 3) := by decide +kernel
theorem dX8_burn_27 : decode cX8_burn 27 = .ok (.aload_n 0, 1) := by decide +kernel
theorem dX8_burn_28 : decode cX8_burn 28 = .ok (.getfield 114, 3) := by decide +kernel
theorem dX8_burn_31 : decode cX8_burn 31 = .ok (.iload 4, 2) := by decide +kernel
theorem dX8_burn_33 : decode cX8_burn 33 = .ok (.baload, 1) := by decide +kernel
theorem dX8_burn_34 : decode cX8_burn 34 = .ok (.ifCond .eq 7, 3) := by decide +kernel
theorem dX8_burn_37 : decode cX8_burn 37 = .ok (.iconst 1, 1) := by decide +kernel
theorem dX8_burn_38 : decode cX8_burn 38 = .ok (.goto 4, 3) := by decide +kernel
theorem dX8_burn_41 : decode cX8_burn 41 = .ok (.iconst 0, 1) := by decide +kernel
theorem dX8_burn_42 : decode cX8_burn 42 = .ok (.bastore, 1) := by decide +kernel
theorem dX8_burn_43 : decode cX8_burn 43 = .ok (.iinc 4 1, 3) := by decide +kernel
theorem dX8_burn_46 : decode cX8_burn 46 = .ok (.goto (-43), 3) := by decide +kernel
theorem dX8_burn_49 : decode cX8_burn 49 = .ok (.iload_n 3, 1) := by decide +kernel
theorem dX8_burn_50 : decode cX8_burn 50 = .ok (.iconst 1, 1) := by decide +kernel
theorem dX8_burn_51 : decode cX8_burn 51 = .ok (.if_icmp .ne 7, 3) := by decide +kernel
theorem dX8_burn_54 : decode cX8_burn 54 = .ok (.iconst 1, 1) := by decide +kernel
theorem dX8_burn_55 : decode cX8_burn 55 = .ok (.goto 13, 3) := by decide +kernel
theorem dX8_burn_58 : decode cX8_burn 58 = .ok (.iload_n 3, 1) := by decide +kernel
theorem dX8_burn_59 : decode cX8_burn 59 = .ok (.iconst 3, 1) := by decide +kernel
theorem dX8_burn_60 : decode cX8_burn 60 = .ok (.if_icmp .ne 7, 3) := by decide +kernel
theorem dX8_burn_63 : decode cX8_burn 63 = .ok (.iconst (-1), 1) := by decide +kernel
theorem dX8_burn_64 : decode cX8_burn 64 = .ok (.goto 4, 3) := by decide +kernel
theorem dX8_burn_67 : decode cX8_burn 67 = .ok (.iconst 0, 1) := by decide +kernel
theorem dX8_burn_68 : decode cX8_burn 68 = .ok (.istore 4, 2) := by decide +kernel
theorem dX8_burn_70 : decode cX8_burn 70 = .ok (.iload_n 3, 1) := by decide +kernel
theorem dX8_burn_71 : decode cX8_burn 71 = .ok (.iconst 2, 1) := by decide +kernel
theorem dX8_burn_72 : decode cX8_burn 72 = .ok (.if_icmp .ne 7, 3) := by decide +kernel
theorem dX8_burn_75 : decode cX8_burn 75 = .ok (.iconst 1, 1) := by decide +kernel
theorem dX8_burn_76 : decode cX8_burn 76 = .ok (.goto 13, 3) := by decide +kernel
theorem dX8_burn_79 : decode cX8_burn 79 = .ok (.iload_n 3, 1) := by decide +kernel
theorem dX8_burn_80 : decode cX8_burn 80 = .ok (.iconst 4, 1) := by decide +kernel
theorem dX8_burn_81 : decode cX8_burn 81 = .ok (.if_icmp .ne 7, 3) := by decide +kernel
theorem dX8_burn_84 : decode cX8_burn 84 = .ok (.iconst (-1), 1) := by decide +kernel
theorem dX8_burn_85 : decode cX8_burn 85 = .ok (.goto 4, 3) := by decide +kernel
theorem dX8_burn_88 : decode cX8_burn 88 = .ok (.iconst 0, 1) := by decide +kernel
theorem dX8_burn_89 : decode cX8_burn 89 = .ok (.istore 5, 2) := by decide +kernel
theorem dX8_burn_91 : decode cX8_burn 91 = .ok (.iconst 1, 1) := by decide +kernel
theorem dX8_burn_92 : decode cX8_burn 92 = .ok (.istore 6, 2) := by decide +kernel
theorem dX8_burn_94 : decode cX8_burn 94 = .ok (.iload 6, 2) := by decide +kernel
theorem dX8_burn_96 : decode cX8_burn 96 = .ok (.ifCond .eq 195, 3) := by decide +kernel
theorem dX8_burn_99 : decode cX8_burn 99 = .ok (.iconst 0, 1) := by decide +kernel
theorem dX8_burn_100 : decode cX8_burn 100 = .ok (.istore 6, 2) := by decide +kernel
theorem dX8_burn_102 : decode cX8_burn 102 = .ok (.iconst 0, 1) := by decide +kernel
theorem dX8_burn_103 : decode cX8_burn 103 = .ok (.istore 7, 2) := by decide +kernel
theorem dX8_burn_105 : decode cX8_burn 105 = .ok (.iload 7, 2) := by decide +kernel
theorem dX8_burn_107 : decode cX8_burn 107 = .ok (.aload_n 0, 1) := by decide +kernel
theorem dX8_burn_108 : decode cX8_burn 108 = .ok (.getfield 7, 3) := by decide +kernel
theorem dX8_burn_111 : decode cX8_burn 111 = .ok (.if_icmp .ge 177, 3) := by decide +kernel
theorem dX8_burn_114 : decode cX8_burn 114 = .ok (.iconst 0, 1) := by decide +kernel
theorem dX8_burn_115 : decode cX8_burn 115 = .ok (.istore 8, 2) := by decide +kernel
theorem dX8_burn_117 : decode cX8_burn 117 = .ok (.iload 8, 2) := by decide +kernel
theorem dX8_burn_119 : decode cX8_burn 119 = .ok (.aload_n 0, 1) := by decide +kernel
theorem dX8_burn_120 : decode cX8_burn 120 = .ok (.getfield 13, 3) := by decide +kernel
theorem dX8_burn_123 : decode cX8_burn 123 = .ok (.if_icmp .ge 159, 3) := by decide +kernel
theorem dX8_burn_126 : decode cX8_burn 126 = .ok (.aload_n 0, 1) := by decide +kernel
theorem dX8_burn_127 : decode cX8_burn 127 = .ok (.iload 7, 2) := by decide +kernel
theorem dX8_burn_129 : decode cX8_burn 129 = .ok (.iconst 1, 1) := by decide +kernel
theorem dX8_burn_130 : decode cX8_burn 130 = .ok (.isub, 1) := by decide +kernel
theorem dX8_burn_131 : decode cX8_burn 131 = .ok (.iload 8, 2) := by decide +kernel
theorem dX8_burn_133 : decode cX8_burn 133 = .ok (.invokevirtual 235, 3) := by decide +kernel
theorem dX8_burn_136 : decode cX8_burn 136 = .ok (.ifCond .ne 42, 3) := by decide +kernel
theorem dX8_burn_139 : decode cX8_burn 139 = .ok (.aload_n 0, 1) := by decide +kernel
theorem dX8_burn_140 : decode cX8_burn 140 = .ok (.iload 7, 2) := by decide +kernel
theorem dX8_burn_142 : decode cX8_burn 142 = .ok (.iconst 1, 1) := by decide +kernel
theorem dX8_burn_143 : decode cX8_burn 143 = .ok (.iadd, 1) := by decide +kernel
theorem dX8_burn_144 : decode cX8_burn 144 = .ok (.iload 8, 2) := by decide +kernel
theorem dX8_burn_146 : decode cX8_burn 146 = .ok (.invokevirtual 235, 3) := by decide +kernel
theorem dX8_burn_149 : decode cX8_burn 149 = .ok (.ifCond .ne 29, 3) := by decide +kernel
theorem dX8_burn_152 : decode cX8_burn 152 = .ok (.aload_n 0, 1) := by decide +kernel
theorem dX8_burn_153 : decode cX8_burn 153 = .ok (.iload 7, 2) := by decide +kernel
theorem dX8_burn_155 : decode cX8_burn 155 = .ok (.iload 8, 2) := by decide +kernel
theorem dX8_burn_157 : decode cX8_burn 157 = .ok (.iconst 1, 1) := by decide +kernel
theorem dX8_burn_158 : decode cX8_burn 158 = .ok (.isub, 1) := by decide +kernel
theorem dX8_burn_159 : decode cX8_burn 159 = .ok (.invokevirtual 235, 3) := by decide +kernel
theorem dX8_burn_162 : decode cX8_burn 162 = .ok (.ifCond .ne 16, 3) := by decide +kernel
theorem dX8_burn_165 : decode cX8_burn 165 = .ok (.aload_n 0, 1) := by decide +kernel
theorem dX8_burn_166 : decode cX8_burn 166 = .ok (.iload 7, 2) := by decide +kernel
theorem dX8_burn_168 : decode cX8_burn 168 = .ok (.iload 8, 2) := by decide +kernel
theorem dX8_burn_170 : decode cX8_burn 170 = .ok (.iconst 1, 1) := by decide +kernel
theorem dX8_burn_171 : decode cX8_burn 171 = .ok (.iadd, 1) := by decide +kernel
theorem dX8_burn_172 : decode cX8_burn 172 = .ok (.invokevirtual 235, 3) := by decide +kernel
theorem dX8_burn_175 : decode cX8_burn 175 = .ok (.ifCond .eq 7, 3) := by decide +kernel
theorem dX8_burn_178 : decode cX8_burn 178 = .ok (.iconst 1, 1) := by decide +kernel
theorem dX8_burn_179 : decode cX8_burn 179 = .ok (.goto 4, 3) := by decide +kernel
theorem dX8_burn_182 : decode cX8_burn 182 = .ok (.iconst 0, 1) := by decide +kernel
theorem dX8_burn_183 : decode cX8_burn 183 = .ok (.istore 9, 2) := by decide +kernel
theorem dX8_burn_185 : decode cX8_burn 185 = .ok (.iload 9, 2) := by decide +kernel
theorem dX8_burn_187 : decode cX8_burn 187 = .ok (.ifCond .ne 28, 3) := by decide +kernel
theorem dX8_burn_190 : decode cX8_burn 190 = .ok (.iload_n 3, 1) := by decide +kernel
theorem dX8_burn_191 : decode cX8_burn 191 = .ok (.ifCond .le 28, 3) := by decide +kernel
theorem dX8_burn_194 : decode cX8_burn 194 = .ok (.aload_n 0, 1) := by decide +kernel
theorem dX8_burn_195 : decode cX8_burn 195 = .ok (.iload 7, 2) := by decide +kernel
theorem dX8_burn_197 : decode cX8_burn 197 = .ok (.iconst 2, 1) := by decide +kernel
theorem dX8_burn_198 : decode cX8_burn 198 = .ok (.iload 4, 2) := by decide +kernel
theorem dX8_burn_200 : decode cX8_burn 200 = .ok (.imul, 1) := by decide +kernel
theorem dX8_burn_201 : decode cX8_burn 201 = .ok (.isub, 1) := by decide +kernel
theorem dX8_burn_202 : decode cX8_burn 202 = .ok (.iload 8, 2) := by decide +kernel
theorem dX8_burn_204 : decode cX8_burn 204 = .ok (.iconst 2, 1) := by decide +kernel
theorem dX8_burn_205 : decode cX8_burn 205 = .ok (.iload 5, 2) := by decide +kernel
theorem dX8_burn_207 : decode cX8_burn 207 = .ok (.imul, 1) := by decide +kernel
theorem dX8_burn_208 : decode cX8_burn 208 = .ok (.isub, 1) := by decide +kernel
theorem dX8_burn_209 : decode cX8_burn 209 = .ok (.invokevirtual 235, 3) := by decide +kernel
theorem dX8_burn_212 : decode cX8_burn 212 = .ok (.ifCond .eq 7, 3) := by decide +kernel
theorem dX8_burn_215 : decode cX8_burn 215 = .ok (.iconst 1, 1) := by decide +kernel
theorem dX8_burn_216 : decode cX8_burn 216 = .ok (.goto 4, 3) := by decide +kernel
theorem dX8_burn_219 : decode cX8_burn 219 = .ok (.iconst 0, 1) := by decide +kernel
theorem dX8_burn_220 : decode cX8_burn 220 = .ok (.istore 9, 2) := by decide +kernel
theorem dX8_burn_222 : decode cX8_burn 222 = .ok (.iload 9, 2) := by decide +kernel
theorem dX8_burn_224 : decode cX8_burn 224 = .ok (.ifCond .eq 52, 3) := by decide +kernel
theorem dX8_burn_227 : decode cX8_burn 227 = .ok (.aload_n 0, 1) := by decide +kernel
theorem dX8_burn_228 : decode cX8_burn 228 = .ok (.getfield 114, 3) := by decide +kernel
theorem dX8_burn_231 : decode cX8_burn 231 = .ok (.bipush 6, 2) := by decide +kernel
theorem dX8_burn_233 : decode cX8_burn 233 = .ok (.iload 7, 2) := by decide +kernel
theorem dX8_burn_235 : decode cX8_burn 235 = .ok (.imul, 1) := by decide +kernel
theorem dX8_burn_236 : decode cX8_burn 236 = .ok (.iload 8, 2) := by decide +kernel
theorem dX8_burn_238 : decode cX8_burn 238 = .ok (.iadd, 1) := by decide +kernel
theorem dX8_burn_239 : decode cX8_burn 239 = .ok (.baload, 1) := by decide +kernel
theorem dX8_burn_240 : decode cX8_burn 240 = .ok (.ifCond .eq 36, 3) := by decide +kernel
theorem dX8_burn_243 : decode cX8_burn 243 = .ok (.aload_n 0, 1) := by decide +kernel
theorem dX8_burn_244 : decode cX8_burn 244 = .ok (.getfield 117, 3) := by decide +kernel
theorem dX8_burn_247 : decode cX8_burn 247 = .ok (.bipush 6, 2) := by decide +kernel
theorem dX8_burn_249 : decode cX8_burn 249 = .ok (.iload 7, 2) := by decide +kernel
theorem dX8_burn_251 : decode cX8_burn 251 = .ok (.imul, 1) := by decide +kernel
theorem dX8_burn_252 : decode cX8_burn 252 = .ok (.iload 8, 2) := by decide +kernel
theorem dX8_burn_254 : decode cX8_burn 254 = .ok (.iadd, 1) := by decide +kernel
theorem dX8_burn_255 : decode cX8_burn 255 = .ok (.baload, 1) := by decide +kernel
theorem dX8_burn_256 : decode cX8_burn 256 = .ok (.ifCond .ne 20, 3) := by decide +kernel
theorem dX8_burn_259 : decode cX8_burn 259 = .ok (.aload_n 0, 1) := by decide +kernel
theorem dX8_burn_260 : decode cX8_burn 260 = .ok (.getfield 117, 3) := by decide +kernel
theorem dX8_burn_263 : decode cX8_burn 263 = .ok (.bipush 6, 2) := by decide +kernel
theorem dX8_burn_265 : decode cX8_burn 265 = .ok (.iload 7, 2) := by decide +kernel
theorem dX8_burn_267 : decode cX8_burn 267 = .ok (.imul, 1) := by decide +kernel
theorem dX8_burn_268 : decode cX8_burn 268 = .ok (.iload 8, 2) := by decide +kernel
theorem dX8_burn_270 : decode cX8_burn 270 = .ok (.iadd, 1) := by decide +kernel
theorem dX8_burn_271 : decode cX8_burn 271 = .ok (.iconst 1, 1) := by decide +kernel
theorem dX8_burn_272 : decode cX8_burn 272 = .ok (.bastore, 1) := by decide +kernel
theorem dX8_burn_273 : decode cX8_burn 273 = .ok (.iconst 1, 1) := by decide +kernel
theorem dX8_burn_274 : decode cX8_burn 274 = .ok (.istore 6, 2) := by decide +kernel
theorem dX8_burn_276 : decode cX8_burn 276 = .ok (.iinc 8 1, 3) := by decide +kernel
theorem dX8_burn_279 : decode cX8_burn 279 = .ok (.goto (-162), 3) := by decide +kernel
theorem dX8_burn_282 : decode cX8_burn 282 = .ok (.iinc 7 1, 3) := by decide +kernel
theorem dX8_burn_285 : decode cX8_burn 285 = .ok (.goto (-180), 3) := by decide +kernel
theorem dX8_burn_288 : decode cX8_burn 288 = .ok (.goto (-194), 3) := by decide +kernel
theorem dX8_burn_291 : decode cX8_burn 291 = .ok (.iconst 0, 1) := by decide +kernel
theorem dX8_burn_292 : decode cX8_burn 292 = .ok (.istore 7, 2) := by decide +kernel
theorem dX8_burn_294 : decode cX8_burn 294 = .ok (.iconst 0, 1) := by decide +kernel
theorem dX8_burn_295 : decode cX8_burn 295 = .ok (.istore 8, 2) := by decide +kernel
theorem dX8_burn_297 : decode cX8_burn 297 = .ok (.iload 8, 2) := by decide +kernel
theorem dX8_burn_299 : decode cX8_burn 299 = .ok (.bipush 36, 2) := by decide +kernel
theorem dX8_burn_301 : decode cX8_burn 301 = .ok (.if_icmp .ge 29, 3) := by decide +kernel
theorem dX8_burn_304 : decode cX8_burn 304 = .ok (.iload 7, 2) := by decide +kernel
theorem dX8_burn_306 : decode cX8_burn 306 = .ok (.aload_n 0, 1) := by decide +kernel
theorem dX8_burn_307 : decode cX8_burn 307 = .ok (.getfield 117, 3) := by decide +kernel
theorem dX8_burn_310 : decode cX8_burn 310 = .ok (.iload 8, 2) := by decide +kernel
theorem dX8_burn_312 : decode cX8_burn 312 = .ok (.baload, 1) := by decide +kernel
theorem dX8_burn_313 : decode cX8_burn 313 = .ok (.ifCond .eq 7, 3) := by decide +kernel
theorem dX8_burn_316 : decode cX8_burn 316 = .ok (.iconst 1, 1) := by decide +kernel
theorem dX8_burn_317 : decode cX8_burn 317 = .ok (.goto 4, 3) := by decide +kernel
theorem dX8_burn_320 : decode cX8_burn 320 = .ok (.iconst 0, 1) := by decide +kernel
theorem dX8_burn_321 : decode cX8_burn 321 = .ok (.iadd, 1) := by decide +kernel
theorem dX8_burn_322 : decode cX8_burn 322 = .ok (.istore 7, 2) := by decide +kernel
theorem dX8_burn_324 : decode cX8_burn 324 = .ok (.iinc 8 1, 3) := by decide +kernel
theorem dX8_burn_327 : decode cX8_burn 327 = .ok (.goto (-30), 3) := by decide +kernel
theorem dX8_burn_330 : decode cX8_burn 330 = .ok (.iload 7, 2) := by decide +kernel
theorem dX8_burn_332 : decode cX8_burn 332 = .ok (.ireturn, 1) := by decide +kernel
set_option maxRecDepth 20000 in
theorem ggX8_burnt_X8_noCell : GoodIn wsX8_burnt wsX8_noCell := goodIn_r _ [7, 8, 9, 10, 11, 6, 12, 13, 14, 15, 16, 38, 39, 40, 41, 42, 43, 44, 45, 46, 47, 48, 49, 50, 51, 52, 53, 54, 55, 56, 57, 58, 59, 60, 61, 62, 63, 64, 65, 66, 67, 68, 69, 70, 71, 72, 73, 74, 75, 76, 77, 78, 79] (by decide +kernel) (by decide +kernel)
set_option maxRecDepth 20000 in
theorem gX8_burnt_X8_noCell : GoodIn wsX8_burnt (wsV RX8 138 RX8 yX8_noCell wsX8_noCell) := goodIn_app (goodIn_of _ (by decide +kernel)) ggX8_burnt_X8_noCell
set_option maxRecDepth 20000 in
theorem ggX8_burnt_X8_in : GoodIn wsX8_burnt wsX8_in := goodIn_r _ [16] (by decide +kernel) (by decide +kernel)
set_option maxRecDepth 20000 in
theorem gX8_burnt_X8_in : GoodIn wsX8_burnt (va_wsS RX8 123 yX8_in wsX8_in) := goodIn_app (goodIn_of _ (by decide +kernel)) ggX8_burnt_X8_in
set_option maxRecDepth 20000 in
theorem ggX8_burnt_X8_layStraw : GoodIn wsX8_burnt wsX8_layStraw := goodIn_r _ [20, 21, 22, 3, 4, 5, 6, 7, 8, 9, 10, 11, 12, 13, 14, 15, 16, 23, 24, 25, 26, 27, 28, 38, 39, 40, 41, 42, 43, 44, 45, 46, 47, 48, 49, 50, 51, 52, 53, 54, 55, 56, 57, 58, 59, 60, 61, 62, 63, 64, 65, 66, 67, 68, 69, 70, 71, 72, 73, 74, 75, 76, 77, 78, 79] (by decide +kernel) (by decide +kernel)
set_option maxRecDepth 20000 in
theorem gX8_burnt_X8_layStraw : GoodIn wsX8_burnt (wsV RX8 240 RX8 yX8_layStraw wsX8_layStraw) := goodIn_app (goodIn_of _ (by decide +kernel)) ggX8_burnt_X8_layStraw
set_option maxRecDepth 20000 in
theorem ggX8_burnt_X8_burn : GoodIn wsX8_burnt wsX8_burn := goodIn_r _ [32, 33, 21, 13, 8, 34, 35, 36, 6, 37, 3, 4, 5, 7, 9, 10, 11, 12, 14, 15, 16, 38, 39, 40, 41, 42, 43, 44, 45, 46, 47, 48, 49, 50, 51, 52, 53, 54, 55, 56, 57, 58, 59, 60, 61, 62, 63, 64, 65, 66, 67, 68, 69, 70, 71, 72, 73, 74, 75, 76, 77, 78, 79] (by decide +kernel) (by decide +kernel)
set_option maxRecDepth 20000 in
theorem gX8_burnt_X8_burn : GoodIn wsX8_burnt (wsV RX8 243 RX8 yX8_burn wsX8_burn) := goodIn_app (goodIn_of _ (by decide +kernel)) ggX8_burnt_X8_burn
theorem dX8_burnt_0 : decode cX8_burnt 0 = .ok (.aload_n 0, 1) := by decide +kernel
theorem dX8_burnt_1 : decode cX8_burnt 1 = .ok (.iconst 0, 1) := by decide +kernel
theorem dX8_burnt_2 : decode cX8_burnt 2 = .ok (.putfield 120, 3) := by decide +kernel
theorem dX8_burnt_5 : decode cX8_burnt 5 = .ok (.aload_n 0, 1) := by decide +kernel
theorem dX8_burnt_6 : decode cX8_burnt 6 = .ok (.iload_n 1, 1) := by decide +kernel
theorem dX8_burnt_7 : decode cX8_burnt 7 = .ok (.iload_n 2, 1) := by decide +kernel
theorem dX8_burnt_8 : decode cX8_burnt 8 = .ok (.invokevirtual 138, 3) := by decide +kernel
theorem dX8_burnt_11 : decode cX8_burnt 11 = .ok (.ifCond .eq 5, 3) := by decide +kernel
theorem dX8_burnt_14 : decode cX8_burnt 14 = .ok (.iconst (-1), 1) := by decide +kernel
theorem dX8_burnt_15 : decode cX8_burnt 15 = .ok (.ireturn, 1) := by decide +kernel
theorem dX8_burnt_16 : decode cX8_burnt 16 = .ok (.iload_n 3, 1) := by decide +kernel
theorem dX8_burnt_17 : decode cX8_burnt 17 = .ok (.i2l, 1) := by decide +kernel
theorem dX8_burnt_18 : decode cX8_burnt 18 = .ok (.lconst 0, 1) := by decide +kernel
theorem dX8_burnt_19 : decode cX8_burnt 19 = .ok (.ldc2_w 238, 3) := by decide +kernel
theorem dX8_burnt_22 : decode cX8_burnt 22 = .ok (.invokestatic 123, 3) := by decide +kernel
theorem dX8_burnt_25 : decode cX8_burnt 25 = .ok (.ifCond .ne 6, 3) := by decide +kernel
theorem dX8_burnt_28 : decode cX8_burnt 28 = .ok (.bipush (-2), 2) := by decide +kernel
theorem dX8_burnt_30 : decode cX8_burnt 30 = .ok (.ireturn, 1) := by decide +kernel
theorem dX8_burnt_31 : decode cX8_burnt 31 = .ok (.aload_n 0, 1) := by decide +kernel
theorem dX8_burnt_32 : decode cX8_burnt 32 = .ok (.invokevirtual 240, 3) := by decide +kernel
theorem dX8_burnt_35 : decode cX8_burnt 35 = .ok (.aload_n 0, 1) := by decide +kernel
theorem dX8_burnt_36 : decode cX8_burnt 36 = .ok (.iload_n 1, 1) := by decide +kernel
theorem dX8_burnt_37 : decode cX8_burnt 37 = .ok (.iload_n 2, 1) := by decide +kernel
theorem dX8_burnt_38 : decode cX8_burnt 38 = .ok (.iload_n 3, 1) := by decide +kernel
theorem dX8_burnt_39 : decode cX8_burnt 39 = .ok (.invokevirtual 243, 3) := by decide +kernel
theorem dX8_burnt_42 : decode cX8_burnt 42 = .ok (.ireturn, 1) := by decide +kernel
set_option maxRecDepth 20000 in
theorem ggX8_worstOf_X8_burn : GoodIn wsX8_worstOf wsX8_burn := goodIn_r _ [7, 8, 9, 1, 2, 10, 11, 12, 6, 13, 14, 15, 16, 17, 18, 19, 20, 21, 22, 23, 24, 25, 26, 27, 28, 29, 30, 31, 32, 33, 34, 35, 36, 37, 38, 39, 40, 41, 42, 43, 44, 45, 46, 47, 48, 49, 50, 51, 52, 53, 54, 55, 56, 57, 58, 59, 60, 61, 62, 63, 64, 65, 66] (by decide +kernel) (by decide +kernel)
set_option maxRecDepth 20000 in
theorem gX8_worstOf_X8_burn : GoodIn wsX8_worstOf (wsV RX8 243 RX8 yX8_burn wsX8_burn) := goodIn_app (goodIn_of _ (by decide +kernel)) ggX8_worstOf_X8_burn
theorem dX8_worstOf_0 : decode cX8_worstOf 0 = .ok (.iconst 0, 1) := by decide +kernel
theorem dX8_worstOf_1 : decode cX8_worstOf 1 = .ok (.istore_n 2, 1) := by decide +kernel
theorem dX8_worstOf_2 : decode cX8_worstOf 2 = .ok (.iconst 0, 1) := by decide +kernel
theorem dX8_worstOf_3 : decode cX8_worstOf 3 = .ok (.istore_n 3, 1) := by decide +kernel
theorem dX8_worstOf_4 : decode cX8_worstOf 4 = .ok (.iload_n 3, 1) := by decide +kernel
theorem dX8_worstOf_5 : decode cX8_worstOf 5 = .ok (.aload_n 0, 1) := by decide +kernel
theorem dX8_worstOf_6 : decode cX8_worstOf 6 = .ok (.getfield 7, 3) := by decide +kernel
theorem dX8_worstOf_9 : decode cX8_worstOf 9 = .ok (.if_icmp .ge 73, 3) := by decide +kernel
theorem dX8_worstOf_12 : decode cX8_worstOf 12 = .ok (.iconst 0, 1) := by decide +kernel
theorem dX8_worstOf_13 : decode cX8_worstOf 13 = .ok (.istore 4, 2) := by decide +kernel
theorem dX8_worstOf_15 : decode cX8_worstOf 15 = .ok (.iload 4, 2) := by decide +kernel
theorem dX8_worstOf_17 : decode cX8_worstOf 17 = .ok (.aload_n 0, 1) := by decide +kernel
theorem dX8_worstOf_18 : decode cX8_worstOf 18 = .ok (.getfield 13, 3) := by decide +kernel
theorem dX8_worstOf_21 : decode cX8_worstOf 21 = .ok (.if_icmp .ge 55, 3) := by decide +kernel
theorem dX8_worstOf_24 : decode cX8_worstOf 24 = .ok (.aload_n 0, 1) := by decide +kernel
theorem dX8_worstOf_25 : decode cX8_worstOf 25 = .ok (.iload_n 3, 1) := by decide +kernel
theorem dX8_worstOf_26 : decode cX8_worstOf 26 = .ok (.iload 4, 2) := by decide +kernel
theorem dX8_worstOf_28 : decode cX8_worstOf 28 = .ok (.iload_n 1, 1) := by decide +kernel
theorem dX8_worstOf_29 : decode cX8_worstOf 29 = .ok (.invokevirtual 243, 3) := by decide +kernel
theorem dX8_worstOf_32 : decode cX8_worstOf 32 = .ok (.istore 5, 2) := by decide +kernel
theorem dX8_worstOf_34 : decode cX8_worstOf 34 = .ok (.bipush 100, 2) := by decide +kernel
theorem dX8_worstOf_36 : decode cX8_worstOf 36 = .ok (.iload 5, 2) := by decide +kernel
theorem dX8_worstOf_38 : decode cX8_worstOf 38 = .ok (.imul, 1) := by decide +kernel
theorem dX8_worstOf_39 : decode cX8_worstOf 39 = .ok (.bipush 99, 2) := by decide +kernel
theorem dX8_worstOf_41 : decode cX8_worstOf 41 = .ok (.iadd, 1) := by decide +kernel
theorem dX8_worstOf_42 : decode cX8_worstOf 42 = .ok (.bipush 10, 2) := by decide +kernel
theorem dX8_worstOf_44 : decode cX8_worstOf 44 = .ok (.iload_n 3, 1) := by decide +kernel
theorem dX8_worstOf_45 : decode cX8_worstOf 45 = .ok (.imul, 1) := by decide +kernel
theorem dX8_worstOf_46 : decode cX8_worstOf 46 = .ok (.isub, 1) := by decide +kernel
theorem dX8_worstOf_47 : decode cX8_worstOf 47 = .ok (.iload 4, 2) := by decide +kernel
theorem dX8_worstOf_49 : decode cX8_worstOf 49 = .ok (.isub, 1) := by decide +kernel
theorem dX8_worstOf_50 : decode cX8_worstOf 50 = .ok (.istore 6, 2) := by decide +kernel
theorem dX8_worstOf_52 : decode cX8_worstOf 52 = .ok (.iload 5, 2) := by decide +kernel
theorem dX8_worstOf_54 : decode cX8_worstOf 54 = .ok (.ifCond .le 14, 3) := by decide +kernel
theorem dX8_worstOf_57 : decode cX8_worstOf 57 = .ok (.iload 6, 2) := by decide +kernel
theorem dX8_worstOf_59 : decode cX8_worstOf 59 = .ok (.iload_n 2, 1) := by decide +kernel
theorem dX8_worstOf_60 : decode cX8_worstOf 60 = .ok (.if_icmp .le 8, 3) := by decide +kernel
theorem dX8_worstOf_63 : decode cX8_worstOf 63 = .ok (.iload 6, 2) := by decide +kernel
theorem dX8_worstOf_65 : decode cX8_worstOf 65 = .ok (.goto 4, 3) := by decide +kernel
theorem dX8_worstOf_68 : decode cX8_worstOf 68 = .ok (.iload_n 2, 1) := by decide +kernel
theorem dX8_worstOf_69 : decode cX8_worstOf 69 = .ok (.istore_n 2, 1) := by decide +kernel
theorem dX8_worstOf_70 : decode cX8_worstOf 70 = .ok (.iinc 4 1, 3) := by decide +kernel
theorem dX8_worstOf_73 : decode cX8_worstOf 73 = .ok (.goto (-58), 3) := by decide +kernel
theorem dX8_worstOf_76 : decode cX8_worstOf 76 = .ok (.iinc 3 1, 3) := by decide +kernel
theorem dX8_worstOf_79 : decode cX8_worstOf 79 = .ok (.goto (-75), 3) := by decide +kernel
theorem dX8_worstOf_82 : decode cX8_worstOf 82 = .ok (.iload_n 2, 1) := by decide +kernel
theorem dX8_worstOf_83 : decode cX8_worstOf 83 = .ok (.ireturn, 1) := by decide +kernel
set_option maxRecDepth 20000 in
theorem ggX8_worst_X8_in : GoodIn wsX8_worst wsX8_in := goodIn_r _ [6] (by decide +kernel) (by decide +kernel)
set_option maxRecDepth 20000 in
theorem gX8_worst_X8_in : GoodIn wsX8_worst (va_wsS RX8 123 yX8_in wsX8_in) := goodIn_app (goodIn_of _ (by decide +kernel)) ggX8_worst_X8_in
set_option maxRecDepth 20000 in
theorem ggX8_worst_X8_layStraw : GoodIn wsX8_worst wsX8_layStraw := goodIn_r _ [10, 11, 12, 13, 14, 15, 5, 16, 17, 18, 19, 20, 21, 22, 3, 4, 6, 23, 24, 25, 26, 27, 28, 42, 43, 44, 45, 46, 47, 48, 49, 50, 51, 52, 53, 54, 55, 56, 57, 58, 59, 60, 61, 62, 63, 64, 65, 66, 67, 68, 69, 70, 71, 72, 73, 74, 75, 76, 77, 78, 79, 80, 81, 82, 83] (by decide +kernel) (by decide +kernel)
set_option maxRecDepth 20000 in
theorem gX8_worst_X8_layStraw : GoodIn wsX8_worst (wsV RX8 240 RX8 yX8_layStraw wsX8_layStraw) := goodIn_app (goodIn_of _ (by decide +kernel)) ggX8_worst_X8_layStraw
set_option maxRecDepth 20000 in
theorem ggX8_worst_X8_worstOf : GoodIn wsX8_worst wsX8_worstOf := goodIn_r _ [32, 22, 17, 33, 34, 35, 5, 36, 37, 11, 38, 39, 40, 41, 13, 14, 15, 16, 18, 19, 20, 21, 3, 4, 6, 42, 43, 44, 45, 46, 47, 48, 49, 50, 51, 52, 53, 54, 55, 56, 57, 58, 59, 60, 61, 62, 63, 64, 65, 66, 67, 68, 69, 70, 71, 72, 73, 74, 75, 76, 77, 78, 79, 80, 81, 82, 83] (by decide +kernel) (by decide +kernel)
set_option maxRecDepth 20000 in
theorem gX8_worst_X8_worstOf : GoodIn wsX8_worst (wsV RX8 246 RX8 yX8_worstOf wsX8_worstOf) := goodIn_app (goodIn_of _ (by decide +kernel)) ggX8_worst_X8_worstOf
theorem dX8_worst_0 : decode cX8_worst 0 = .ok (.aload_n 0, 1) := by decide +kernel
theorem dX8_worst_1 : decode cX8_worst 1 = .ok (.iconst 0, 1) := by decide +kernel
theorem dX8_worst_2 : decode cX8_worst 2 = .ok (.putfield 120, 3) := by decide +kernel
theorem dX8_worst_5 : decode cX8_worst 5 = .ok (.iload_n 1, 1) := by decide +kernel
theorem dX8_worst_6 : decode cX8_worst 6 = .ok (.i2l, 1) := by decide +kernel
theorem dX8_worst_7 : decode cX8_worst 7 = .ok (.lconst 0, 1) := by decide +kernel
theorem dX8_worst_8 : decode cX8_worst 8 = .ok (.ldc2_w 238, 3) := by decide +kernel
theorem dX8_worst_11 : decode cX8_worst 11 = .ok (.invokestatic 123, 3) := by decide +kernel
theorem dX8_worst_14 : decode cX8_worst 14 = .ok (.ifCond .ne 6, 3) := by decide +kernel
theorem dX8_worst_17 : decode cX8_worst 17 = .ok (.bipush (-2), 2) := by decide +kernel
theorem dX8_worst_19 : decode cX8_worst 19 = .ok (.ireturn, 1) := by decide +kernel
theorem dX8_worst_20 : decode cX8_worst 20 = .ok (.aload_n 0, 1) := by decide +kernel
theorem dX8_worst_21 : decode cX8_worst 21 = .ok (.invokevirtual 240, 3) := by decide +kernel
theorem dX8_worst_24 : decode cX8_worst 24 = .ok (.aload_n 0, 1) := by decide +kernel
theorem dX8_worst_25 : decode cX8_worst 25 = .ok (.iload_n 1, 1) := by decide +kernel
theorem dX8_worst_26 : decode cX8_worst 26 = .ok (.invokevirtual 246, 3) := by decide +kernel
theorem dX8_worst_29 : decode cX8_worst 29 = .ok (.istore_n 2, 1) := by decide +kernel
theorem dX8_worst_30 : decode cX8_worst 30 = .ok (.iload_n 2, 1) := by decide +kernel
theorem dX8_worst_31 : decode cX8_worst 31 = .ok (.ifCond .ne 8, 3) := by decide +kernel
theorem dX8_worst_34 : decode cX8_worst 34 = .ok (.bipush (-9), 2) := by decide +kernel
theorem dX8_worst_36 : decode cX8_worst 36 = .ok (.goto 10, 3) := by decide +kernel
theorem dX8_worst_39 : decode cX8_worst 39 = .ok (.bipush 99, 2) := by decide +kernel
theorem dX8_worst_41 : decode cX8_worst 41 = .ok (.iload_n 2, 1) := by decide +kernel
theorem dX8_worst_42 : decode cX8_worst 42 = .ok (.bipush 100, 2) := by decide +kernel
theorem dX8_worst_44 : decode cX8_worst 44 = .ok (.irem, 1) := by decide +kernel
theorem dX8_worst_45 : decode cX8_worst 45 = .ok (.isub, 1) := by decide +kernel
theorem dX8_worst_46 : decode cX8_worst 46 = .ok (.ireturn, 1) := by decide +kernel
set_option maxRecDepth 20000 in
theorem ggX8_clear_X8_in : GoodIn wsX8_clear wsX8_in := goodIn_r _ [10] (by decide +kernel) (by decide +kernel)
set_option maxRecDepth 20000 in
theorem gX8_clear_X8_in : GoodIn wsX8_clear (va_wsS RX8 123 yX8_in wsX8_in) := goodIn_app (goodIn_of _ (by decide +kernel)) ggX8_clear_X8_in
set_option maxRecDepth 20000 in
theorem ggX8_clear_X8_layStraw : GoodIn wsX8_clear wsX8_layStraw := goodIn_r _ [14, 6, 15, 16, 17, 18, 9, 19, 5, 20, 21, 22, 23, 4, 7, 8, 10, 24, 25, 26, 27, 28, 29, 43, 44, 45, 46, 47, 48, 49, 50, 51, 52, 53, 54, 55, 56, 57, 58, 59, 60, 61, 62, 63, 64, 65, 66, 67, 68, 69, 70, 71, 72, 73, 74, 75, 76, 77, 78, 79, 80, 81, 82, 83, 84] (by decide +kernel) (by decide +kernel)
set_option maxRecDepth 20000 in
theorem gX8_clear_X8_layStraw : GoodIn wsX8_clear (wsV RX8 240 RX8 yX8_layStraw wsX8_layStraw) := goodIn_app (goodIn_of _ (by decide +kernel)) ggX8_clear_X8_layStraw
set_option maxRecDepth 20000 in
theorem ggX8_clear_X8_worstOf : GoodIn wsX8_clear wsX8_worstOf := goodIn_r _ [33, 4, 5, 34, 35, 36, 9, 37, 38, 6, 39, 40, 41, 42, 16, 17, 18, 19, 20, 21, 22, 23, 7, 8, 10, 43, 44, 45, 46, 47, 48, 49, 50, 51, 52, 53, 54, 55, 56, 57, 58, 59, 60, 61, 62, 63, 64, 65, 66, 67, 68, 69, 70, 71, 72, 73, 74, 75, 76, 77, 78, 79, 80, 81, 82, 83, 84] (by decide +kernel) (by decide +kernel)
set_option maxRecDepth 20000 in
theorem gX8_clear_X8_worstOf : GoodIn wsX8_clear (wsV RX8 246 RX8 yX8_worstOf wsX8_worstOf) := goodIn_app (goodIn_of _ (by decide +kernel)) ggX8_clear_X8_worstOf
theorem dX8_clear_0 : decode cX8_clear 0 = .ok (.aload_n 0, 1) := by decide +kernel
theorem dX8_clear_1 : decode cX8_clear 1 = .ok (.iconst 0, 1) := by decide +kernel
theorem dX8_clear_2 : decode cX8_clear 2 = .ok (.putfield 120, 3) := by decide +kernel
theorem dX8_clear_5 : decode cX8_clear 5 = .ok (.iload_n 1, 1) := by decide +kernel
theorem dX8_clear_6 : decode cX8_clear 6 = .ok (.i2l, 1) := by decide +kernel
theorem dX8_clear_7 : decode cX8_clear 7 = .ok (.lconst 0, 1) := by decide +kernel
theorem dX8_clear_8 : decode cX8_clear 8 = .ok (.ldc2_w 238, 3) := by decide +kernel
theorem dX8_clear_11 : decode cX8_clear 11 = .ok (.invokestatic 123, 3) := by decide +kernel
theorem dX8_clear_14 : decode cX8_clear 14 = .ok (.ifCond .ne 6, 3) := by decide +kernel
theorem dX8_clear_17 : decode cX8_clear 17 = .ok (.bipush (-2), 2) := by decide +kernel
theorem dX8_clear_19 : decode cX8_clear 19 = .ok (.ireturn, 1) := by decide +kernel
theorem dX8_clear_20 : decode cX8_clear 20 = .ok (.aload_n 0, 1) := by decide +kernel
theorem dX8_clear_21 : decode cX8_clear 21 = .ok (.invokevirtual 240, 3) := by decide +kernel
theorem dX8_clear_24 : decode cX8_clear 24 = .ok (.bipush (-9), 2) := by decide +kernel
theorem dX8_clear_26 : decode cX8_clear 26 = .ok (.istore_n 2, 1) := by decide +kernel
theorem dX8_clear_27 : decode cX8_clear 27 = .ok (.ldc 249, 2) := by decide +kernel
theorem dX8_clear_29 : decode cX8_clear 29 = .ok (.istore_n 3, 1) := by decide +kernel
theorem dX8_clear_30 : decode cX8_clear 30 = .ok (.iconst 0, 1) := by decide +kernel
theorem dX8_clear_31 : decode cX8_clear 31 = .ok (.istore 4, 2) := by decide +kernel
theorem dX8_clear_33 : decode cX8_clear 33 = .ok (.iload 4, 2) := by decide +kernel
theorem dX8_clear_35 : decode cX8_clear 35 = .ok (.aload_n 0, 1) := by decide +kernel
theorem dX8_clear_36 : decode cX8_clear 36 = .ok (.getfield 7, 3) := by decide +kernel
theorem dX8_clear_39 : decode cX8_clear 39 = .ok (.if_icmp .ge 99, 3) := by decide +kernel
theorem dX8_clear_42 : decode cX8_clear 42 = .ok (.iconst 0, 1) := by decide +kernel
theorem dX8_clear_43 : decode cX8_clear 43 = .ok (.istore 5, 2) := by decide +kernel
theorem dX8_clear_45 : decode cX8_clear 45 = .ok (.iload 5, 2) := by decide +kernel
theorem dX8_clear_47 : decode cX8_clear 47 = .ok (.aload_n 0, 1) := by decide +kernel
theorem dX8_clear_48 : decode cX8_clear 48 = .ok (.getfield 13, 3) := by decide +kernel
theorem dX8_clear_51 : decode cX8_clear 51 = .ok (.if_icmp .ge 81, 3) := by decide +kernel
theorem dX8_clear_54 : decode cX8_clear 54 = .ok (.aload_n 0, 1) := by decide +kernel
theorem dX8_clear_55 : decode cX8_clear 55 = .ok (.getfield 114, 3) := by decide +kernel
theorem dX8_clear_58 : decode cX8_clear 58 = .ok (.bipush 6, 2) := by decide +kernel
theorem dX8_clear_60 : decode cX8_clear 60 = .ok (.iload 4, 2) := by decide +kernel
theorem dX8_clear_62 : decode cX8_clear 62 = .ok (.imul, 1) := by decide +kernel
theorem dX8_clear_63 : decode cX8_clear 63 = .ok (.iload 5, 2) := by decide +kernel
theorem dX8_clear_65 : decode cX8_clear 65 = .ok (.iadd, 1) := by decide +kernel
theorem dX8_clear_66 : decode cX8_clear 66 = .ok (.baload, 1) := by decide +kernel
theorem dX8_clear_67 : decode cX8_clear 67 = .ok (.ifCond .eq 59, 3) := by decide +kernel
theorem dX8_clear_70 : decode cX8_clear 70 = .ok (.aload_n 0, 1) := by decide +kernel
theorem dX8_clear_71 : decode cX8_clear 71 = .ok (.getfield 114, 3) := by decide +kernel
theorem dX8_clear_74 : decode cX8_clear 74 = .ok (.bipush 6, 2) := by decide +kernel
theorem dX8_clear_76 : decode cX8_clear 76 = .ok (.iload 4, 2) := by decide +kernel
theorem dX8_clear_78 : decode cX8_clear 78 = .ok (.imul, 1) := by decide +kernel
theorem dX8_clear_79 : decode cX8_clear 79 = .ok (.iload 5, 2) := by decide +kernel
theorem dX8_clear_81 : decode cX8_clear 81 = .ok (.iadd, 1) := by decide +kernel
theorem dX8_clear_82 : decode cX8_clear 82 = .ok (.iconst 0, 1) := by decide +kernel
theorem dX8_clear_83 : decode cX8_clear 83 = .ok (.bastore, 1) := by decide +kernel
theorem dX8_clear_84 : decode cX8_clear 84 = .ok (.aload_n 0, 1) := by decide +kernel
theorem dX8_clear_85 : decode cX8_clear 85 = .ok (.iload_n 1, 1) := by decide +kernel
theorem dX8_clear_86 : decode cX8_clear 86 = .ok (.invokevirtual 246, 3) := by decide +kernel
theorem dX8_clear_89 : decode cX8_clear 89 = .ok (.bipush 100, 2) := by decide +kernel
theorem dX8_clear_91 : decode cX8_clear 91 = .ok (.idiv, 1) := by decide +kernel
theorem dX8_clear_92 : decode cX8_clear 92 = .ok (.istore 6, 2) := by decide +kernel
theorem dX8_clear_94 : decode cX8_clear 94 = .ok (.aload_n 0, 1) := by decide +kernel
theorem dX8_clear_95 : decode cX8_clear 95 = .ok (.getfield 114, 3) := by decide +kernel
theorem dX8_clear_98 : decode cX8_clear 98 = .ok (.bipush 6, 2) := by decide +kernel
theorem dX8_clear_100 : decode cX8_clear 100 = .ok (.iload 4, 2) := by decide +kernel
theorem dX8_clear_102 : decode cX8_clear 102 = .ok (.imul, 1) := by decide +kernel
theorem dX8_clear_103 : decode cX8_clear 103 = .ok (.iload 5, 2) := by decide +kernel
theorem dX8_clear_105 : decode cX8_clear 105 = .ok (.iadd, 1) := by decide +kernel
theorem dX8_clear_106 : decode cX8_clear 106 = .ok (.iconst 1, 1) := by decide +kernel
theorem dX8_clear_107 : decode cX8_clear 107 = .ok (.bastore, 1) := by decide +kernel
theorem dX8_clear_108 : decode cX8_clear 108 = .ok (.iload 6, 2) := by decide +kernel
theorem dX8_clear_110 : decode cX8_clear 110 = .ok (.iload_n 3, 1) := by decide +kernel
theorem dX8_clear_111 : decode cX8_clear 111 = .ok (.if_icmp .ge 15, 3) := by decide +kernel
theorem dX8_clear_114 : decode cX8_clear 114 = .ok (.iload 6, 2) := by decide +kernel
theorem dX8_clear_116 : decode cX8_clear 116 = .ok (.istore_n 3, 1) := by decide +kernel
theorem dX8_clear_117 : decode cX8_clear 117 = .ok (.bipush 10, 2) := by decide +kernel
theorem dX8_clear_119 : decode cX8_clear 119 = .ok (.iload 4, 2) := by decide +kernel
theorem dX8_clear_121 : decode cX8_clear 121 = .ok (.imul, 1) := by decide +kernel
theorem dX8_clear_122 : decode cX8_clear 122 = .ok (.iload 5, 2) := by decide +kernel
theorem dX8_clear_124 : decode cX8_clear 124 = .ok (.iadd, 1) := by decide +kernel
theorem dX8_clear_125 : decode cX8_clear 125 = .ok (.istore_n 2, 1) := by decide +kernel
theorem dX8_clear_126 : decode cX8_clear 126 = .ok (.iinc 5 1, 3) := by decide +kernel
theorem dX8_clear_129 : decode cX8_clear 129 = .ok (.goto (-84), 3) := by decide +kernel
theorem dX8_clear_132 : decode cX8_clear 132 = .ok (.iinc 4 1, 3) := by decide +kernel
theorem dX8_clear_135 : decode cX8_clear 135 = .ok (.goto (-102), 3) := by decide +kernel
theorem dX8_clear_138 : decode cX8_clear 138 = .ok (.iload_n 2, 1) := by decide +kernel
theorem dX8_clear_139 : decode cX8_clear 139 = .ok (.ireturn, 1) := by decide +kernel
set_option maxRecDepth 20000 in
theorem ggX8_offer_X8_in : GoodIn wsX8_offer wsX8_in := goodIn_r _ [11] (by decide +kernel) (by decide +kernel)
set_option maxRecDepth 20000 in
theorem gX8_offer_X8_in : GoodIn wsX8_offer (va_wsS RX8 123 yX8_in wsX8_in) := goodIn_app (goodIn_of _ (by decide +kernel)) ggX8_offer_X8_in
set_option maxRecDepth 20000 in
theorem ggX8_offer_X8_hold : GoodIn wsX8_offer wsX8_hold := goodIn_r _ [15, 5, 16, 17, 18, 19, 20, 21, 22, 23, 24, 25, 26, 27, 28, 88, 89, 90, 91, 92, 93, 94, 95, 96, 97, 98, 99, 100, 101, 102, 103, 104, 105, 106, 107, 108, 109, 110, 111, 112, 113, 114, 115, 116, 117, 118, 119, 120, 121, 122, 123, 124, 125, 126, 127, 128, 129] (by decide +kernel) (by decide +kernel)
set_option maxRecDepth 20000 in
theorem gX8_offer_X8_hold : GoodIn wsX8_offer (wsV RX8 196 RX8 yX8_hold wsX8_hold) := goodIn_app (goodIn_of _ (by decide +kernel)) ggX8_offer_X8_hold
set_option maxRecDepth 20000 in
theorem ggX8_offer_X8_findFewest : GoodIn wsX8_offer wsX8_findFewest := goodIn_r _ [32, 7, 33, 34, 10, 35, 36, 37, 38, 39, 5, 40, 41, 42, 43, 44, 18, 20, 22, 24, 26, 28, 45, 46, 47, 48, 49, 50, 51, 52, 53, 54, 55, 56, 57, 58, 59, 60, 6, 8, 9, 11, 61, 62, 63, 64, 65, 66, 67, 68, 69, 88, 89, 90, 91, 92, 93, 94, 95, 96, 97, 98, 99, 100, 101, 102, 103, 104, 105, 106, 107, 108, 109, 110, 111, 112, 113, 114, 115, 116, 117, 118, 119, 120, 121, 122, 123, 124, 125, 126, 127, 128, 129] (by decide +kernel) (by decide +kernel)
set_option maxRecDepth 20000 in
theorem gX8_offer_X8_findFewest : GoodIn wsX8_offer (wsV RX8 219 RX8 yX8_findFewest wsX8_findFewest) := goodIn_app (goodIn_of _ (by decide +kernel)) ggX8_offer_X8_findFewest
set_option maxRecDepth 20000 in
theorem ggX8_offer_X8_put : GoodIn wsX8_offer wsX8_put := goodIn_r _ [44, 18, 5, 20, 22, 24, 26, 28, 40, 88, 89, 90, 91, 92, 93, 94, 95, 96, 97, 98, 99, 100, 101, 102, 103, 104, 105, 106, 107, 108, 109, 110, 111, 112, 113, 114, 115, 116, 117, 118, 119, 120, 121, 122, 123, 124, 125, 126, 127, 128, 129] (by decide +kernel) (by decide +kernel)
set_option maxRecDepth 20000 in
theorem gX8_offer_X8_put : GoodIn wsX8_offer (wsV RX8 152 RX8 yX8_put wsX8_put) := goodIn_app (goodIn_of _ (by decide +kernel)) ggX8_offer_X8_put
set_option maxRecDepth 20000 in
theorem ggX8_offer_X8_wearOut : GoodIn wsX8_offer wsX8_wearOut := goodIn_r _ [73, 74, 75, 76, 10, 77, 6, 7, 45, 46, 47, 48, 49, 50, 51, 40, 5, 28, 52, 53, 54, 55, 56, 57, 58, 59, 60, 8, 9, 11, 61, 62, 63, 64, 18, 65, 66, 67, 68, 69, 78, 79, 80, 81, 82, 83, 88, 89, 90, 91, 92, 93, 94, 95, 96, 97, 98, 99, 100, 101, 102, 103, 104, 105, 106, 107, 108, 109, 110, 111, 112, 113, 114, 115, 116, 117, 118, 119, 120, 121, 122, 123, 124, 125, 126, 127, 128, 129] (by decide +kernel) (by decide +kernel)
set_option maxRecDepth 20000 in
theorem gX8_offer_X8_wearOut : GoodIn wsX8_offer (wsV RX8 199 RX8 yX8_wearOut wsX8_wearOut) := goodIn_app (goodIn_of _ (by decide +kernel)) ggX8_offer_X8_wearOut
set_option maxRecDepth 20000 in
theorem ggX8_offer_X8_back : GoodIn wsX8_offer wsX8_back := goodIn_r _ [87, 16, 5, 18, 17, 20, 19, 22, 21, 24, 23, 26, 25, 28, 27, 88, 89, 90, 91, 92, 93, 94, 95, 96, 97, 98, 99, 100, 101, 102, 103, 104, 105, 106, 107, 108, 109, 110, 111, 112, 113, 114, 115, 116, 117, 118, 119, 120, 121, 122, 123, 124, 125, 126, 127, 128, 129] (by decide +kernel) (by decide +kernel)
set_option maxRecDepth 20000 in
theorem gX8_offer_X8_back : GoodIn wsX8_offer (wsV RX8 202 RX8 yX8_back wsX8_back) := goodIn_app (goodIn_of _ (by decide +kernel)) ggX8_offer_X8_back
theorem dX8_offer_0 : decode cX8_offer 0 = .ok (.aload_n 0, 1) := by decide +kernel
theorem dX8_offer_1 : decode cX8_offer 1 = .ok (.iconst 0, 1) := by decide +kernel
theorem dX8_offer_2 : decode cX8_offer 2 = .ok (.putfield 120, 3) := by decide +kernel
theorem dX8_offer_5 : decode cX8_offer 5 = .ok (.iload_n 1, 1) := by decide +kernel
theorem dX8_offer_6 : decode cX8_offer 6 = .ok (.i2l, 1) := by decide +kernel
theorem dX8_offer_7 : decode cX8_offer 7 = .ok (.lconst 0, 1) := by decide +kernel
theorem dX8_offer_8 : decode cX8_offer 8 = .ok (.ldc2_w 188, 3) := by decide +kernel
theorem dX8_offer_11 : decode cX8_offer 11 = .ok (.invokestatic 123, 3) := by decide +kernel
theorem dX8_offer_14 : decode cX8_offer 14 = .ok (.ifCond .eq 53, 3) := by decide +kernel
theorem dX8_offer_17 : decode cX8_offer 17 = .ok (.iload_n 2, 1) := by decide +kernel
theorem dX8_offer_18 : decode cX8_offer 18 = .ok (.i2l, 1) := by decide +kernel
theorem dX8_offer_19 : decode cX8_offer 19 = .ok (.lconst 0, 1) := by decide +kernel
theorem dX8_offer_20 : decode cX8_offer 20 = .ok (.ldc2_w 188, 3) := by decide +kernel
theorem dX8_offer_23 : decode cX8_offer 23 = .ok (.invokestatic 123, 3) := by decide +kernel
theorem dX8_offer_26 : decode cX8_offer 26 = .ok (.ifCond .eq 41, 3) := by decide +kernel
theorem dX8_offer_29 : decode cX8_offer 29 = .ok (.iload_n 3, 1) := by decide +kernel
theorem dX8_offer_30 : decode cX8_offer 30 = .ok (.i2l, 1) := by decide +kernel
theorem dX8_offer_31 : decode cX8_offer 31 = .ok (.lconst 1, 1) := by decide +kernel
theorem dX8_offer_32 : decode cX8_offer 32 = .ok (.ldc2_w 136, 3) := by decide +kernel
theorem dX8_offer_35 : decode cX8_offer 35 = .ok (.invokestatic 123, 3) := by decide +kernel
theorem dX8_offer_38 : decode cX8_offer 38 = .ok (.ifCond .eq 29, 3) := by decide +kernel
theorem dX8_offer_41 : decode cX8_offer 41 = .ok (.iload 4, 2) := by decide +kernel
theorem dX8_offer_43 : decode cX8_offer 43 = .ok (.i2l, 1) := by decide +kernel
theorem dX8_offer_44 : decode cX8_offer 44 = .ok (.lconst 1, 1) := by decide +kernel
theorem dX8_offer_45 : decode cX8_offer 45 = .ok (.ldc2_w 150, 3) := by decide +kernel
theorem dX8_offer_48 : decode cX8_offer 48 = .ok (.invokestatic 123, 3) := by decide +kernel
theorem dX8_offer_51 : decode cX8_offer 51 = .ok (.ifCond .eq 16, 3) := by decide +kernel
theorem dX8_offer_54 : decode cX8_offer 54 = .ok (.iload 5, 2) := by decide +kernel
theorem dX8_offer_56 : decode cX8_offer 56 = .ok (.i2l, 1) := by decide +kernel
theorem dX8_offer_57 : decode cX8_offer 57 = .ok (.lconst 1, 1) := by decide +kernel
theorem dX8_offer_58 : decode cX8_offer 58 = .ok (.ldc2_w 188, 3) := by decide +kernel
theorem dX8_offer_61 : decode cX8_offer 61 = .ok (.invokestatic 123, 3) := by decide +kernel
theorem dX8_offer_64 : decode cX8_offer 64 = .ok (.ifCond .ne 6, 3) := by decide +kernel
theorem dX8_offer_67 : decode cX8_offer 67 = .ok (.bipush (-2), 2) := by decide +kernel
theorem dX8_offer_69 : decode cX8_offer 69 = .ok (.ireturn, 1) := by decide +kernel
theorem dX8_offer_70 : decode cX8_offer 70 = .ok (.aload_n 0, 1) := by decide +kernel
theorem dX8_offer_71 : decode cX8_offer 71 = .ok (.invokevirtual 196, 3) := by decide +kernel
theorem dX8_offer_74 : decode cX8_offer 74 = .ok (.aload_n 0, 1) := by decide +kernel
theorem dX8_offer_75 : decode cX8_offer 75 = .ok (.iconst 0, 1) := by decide +kernel
theorem dX8_offer_76 : decode cX8_offer 76 = .ok (.putfield 131, 3) := by decide +kernel
theorem dX8_offer_79 : decode cX8_offer 79 = .ok (.iconst 1, 1) := by decide +kernel
theorem dX8_offer_80 : decode cX8_offer 80 = .ok (.istore 6, 2) := by decide +kernel
theorem dX8_offer_82 : decode cX8_offer 82 = .ok (.iconst 0, 1) := by decide +kernel
theorem dX8_offer_83 : decode cX8_offer 83 = .ok (.istore 7, 2) := by decide +kernel
theorem dX8_offer_85 : decode cX8_offer 85 = .ok (.iload 7, 2) := by decide +kernel
theorem dX8_offer_87 : decode cX8_offer 87 = .ok (.aload_n 0, 1) := by decide +kernel
theorem dX8_offer_88 : decode cX8_offer 88 = .ok (.getfield 7, 3) := by decide +kernel
theorem dX8_offer_91 : decode cX8_offer 91 = .ok (.if_icmp .ge 83, 3) := by decide +kernel
theorem dX8_offer_94 : decode cX8_offer 94 = .ok (.iload 6, 2) := by decide +kernel
theorem dX8_offer_96 : decode cX8_offer 96 = .ok (.ifCond .eq 78, 3) := by decide +kernel
theorem dX8_offer_99 : decode cX8_offer 99 = .ok (.aload_n 0, 1) := by decide +kernel
theorem dX8_offer_100 : decode cX8_offer 100 = .ok (.iload 7, 2) := by decide +kernel
theorem dX8_offer_102 : decode cX8_offer 102 = .ok (.iload_n 3, 1) := by decide +kernel
theorem dX8_offer_103 : decode cX8_offer 103 = .ok (.invokevirtual 219, 3) := by decide +kernel
theorem dX8_offer_106 : decode cX8_offer 106 = .ok (.istore 8, 2) := by decide +kernel
theorem dX8_offer_108 : decode cX8_offer 108 = .ok (.iload 8, 2) := by decide +kernel
theorem dX8_offer_110 : decode cX8_offer 110 = .ok (.bipush (-9), 2) := by decide +kernel
theorem dX8_offer_112 : decode cX8_offer 112 = .ok (.if_icmp .eq 7, 3) := by decide +kernel
theorem dX8_offer_115 : decode cX8_offer 115 = .ok (.iconst 1, 1) := by decide +kernel
theorem dX8_offer_116 : decode cX8_offer 116 = .ok (.goto 4, 3) := by decide +kernel
theorem dX8_offer_119 : decode cX8_offer 119 = .ok (.iconst 0, 1) := by decide +kernel
theorem dX8_offer_120 : decode cX8_offer 120 = .ok (.istore 6, 2) := by decide +kernel
theorem dX8_offer_122 : decode cX8_offer 122 = .ok (.iconst 0, 1) := by decide +kernel
theorem dX8_offer_123 : decode cX8_offer 123 = .ok (.istore 9, 2) := by decide +kernel
theorem dX8_offer_125 : decode cX8_offer 125 = .ok (.iload 9, 2) := by decide +kernel
theorem dX8_offer_127 : decode cX8_offer 127 = .ok (.aload_n 0, 1) := by decide +kernel
theorem dX8_offer_128 : decode cX8_offer 128 = .ok (.getfield 13, 3) := by decide +kernel
theorem dX8_offer_131 : decode cX8_offer 131 = .ok (.if_icmp .ge 37, 3) := by decide +kernel
theorem dX8_offer_134 : decode cX8_offer 134 = .ok (.iload 6, 2) := by decide +kernel
theorem dX8_offer_136 : decode cX8_offer 136 = .ok (.ifCond .eq 32, 3) := by decide +kernel
theorem dX8_offer_139 : decode cX8_offer 139 = .ok (.iload 8, 2) := by decide +kernel
theorem dX8_offer_141 : decode cX8_offer 141 = .ok (.iload 9, 2) := by decide +kernel
theorem dX8_offer_143 : decode cX8_offer 143 = .ok (.ishr, 1) := by decide +kernel
theorem dX8_offer_144 : decode cX8_offer 144 = .ok (.iconst 1, 1) := by decide +kernel
theorem dX8_offer_145 : decode cX8_offer 145 = .ok (.iand, 1) := by decide +kernel
theorem dX8_offer_146 : decode cX8_offer 146 = .ok (.iconst 1, 1) := by decide +kernel
theorem dX8_offer_147 : decode cX8_offer 147 = .ok (.if_icmp .ne 15, 3) := by decide +kernel
theorem dX8_offer_150 : decode cX8_offer 150 = .ok (.aload_n 0, 1) := by decide +kernel
theorem dX8_offer_151 : decode cX8_offer 151 = .ok (.iload 7, 2) := by decide +kernel
theorem dX8_offer_153 : decode cX8_offer 153 = .ok (.iload 9, 2) := by decide +kernel
theorem dX8_offer_155 : decode cX8_offer 155 = .ok (.iload_n 3, 1) := by decide +kernel
theorem dX8_offer_156 : decode cX8_offer 156 = .ok (.iconst 0, 1) := by decide +kernel
theorem dX8_offer_157 : decode cX8_offer 157 = .ok (.iload 4, 2) := by decide +kernel
theorem dX8_offer_159 : decode cX8_offer 159 = .ok (.invokevirtual 152, 3) := by decide +kernel
theorem dX8_offer_162 : decode cX8_offer 162 = .ok (.iinc 9 1, 3) := by decide +kernel
theorem dX8_offer_165 : decode cX8_offer 165 = .ok (.goto (-40), 3) := by decide +kernel
theorem dX8_offer_168 : decode cX8_offer 168 = .ok (.iinc 7 1, 3) := by decide +kernel
theorem dX8_offer_171 : decode cX8_offer 171 = .ok (.goto (-86), 3) := by decide +kernel
theorem dX8_offer_174 : decode cX8_offer 174 = .ok (.aload_n 0, 1) := by decide +kernel
theorem dX8_offer_175 : decode cX8_offer 175 = .ok (.getfield 131, 3) := by decide +kernel
theorem dX8_offer_178 : decode cX8_offer 178 = .ok (.iload_n 1, 1) := by decide +kernel
theorem dX8_offer_179 : decode cX8_offer 179 = .ok (.iload_n 2, 1) := by decide +kernel
theorem dX8_offer_180 : decode cX8_offer 180 = .ok (.iload 4, 2) := by decide +kernel
theorem dX8_offer_182 : decode cX8_offer 182 = .ok (.imul, 1) := by decide +kernel
theorem dX8_offer_183 : decode cX8_offer 183 = .ok (.iadd, 1) := by decide +kernel
theorem dX8_offer_184 : decode cX8_offer 184 = .ok (.imul, 1) := by decide +kernel
theorem dX8_offer_185 : decode cX8_offer 185 = .ok (.istore 7, 2) := by decide +kernel
theorem dX8_offer_187 : decode cX8_offer 187 = .ok (.iload 6, 2) := by decide +kernel
theorem dX8_offer_189 : decode cX8_offer 189 = .ok (.ifCond .eq 10, 3) := by decide +kernel
theorem dX8_offer_192 : decode cX8_offer 192 = .ok (.aload_n 0, 1) := by decide +kernel
theorem dX8_offer_193 : decode cX8_offer 193 = .ok (.invokevirtual 199, 3) := by decide +kernel
theorem dX8_offer_196 : decode cX8_offer 196 = .ok (.goto 4, 3) := by decide +kernel
theorem dX8_offer_199 : decode cX8_offer 199 = .ok (.iconst 0, 1) := by decide +kernel
theorem dX8_offer_200 : decode cX8_offer 200 = .ok (.istore 8, 2) := by decide +kernel
theorem dX8_offer_202 : decode cX8_offer 202 = .ok (.aload_n 0, 1) := by decide +kernel
theorem dX8_offer_203 : decode cX8_offer 203 = .ok (.invokevirtual 202, 3) := by decide +kernel
theorem dX8_offer_206 : decode cX8_offer 206 = .ok (.iload 6, 2) := by decide +kernel
theorem dX8_offer_208 : decode cX8_offer 208 = .ok (.ifCond .eq 8, 3) := by decide +kernel
theorem dX8_offer_211 : decode cX8_offer 211 = .ok (.iload 8, 2) := by decide +kernel
theorem dX8_offer_213 : decode cX8_offer 213 = .ok (.ifCond .ne 6, 3) := by decide +kernel
theorem dX8_offer_216 : decode cX8_offer 216 = .ok (.bipush (-9), 2) := by decide +kernel
theorem dX8_offer_218 : decode cX8_offer 218 = .ok (.ireturn, 1) := by decide +kernel
theorem dX8_offer_219 : decode cX8_offer 219 = .ok (.iconst 1, 1) := by decide +kernel
theorem dX8_offer_220 : decode cX8_offer 220 = .ok (.istore 9, 2) := by decide +kernel
theorem dX8_offer_222 : decode cX8_offer 222 = .ok (.iload 8, 2) := by decide +kernel
theorem dX8_offer_224 : decode cX8_offer 224 = .ok (.istore 10, 2) := by decide +kernel
theorem dX8_offer_226 : decode cX8_offer 226 = .ok (.iload 8, 2) := by decide +kernel
theorem dX8_offer_228 : decode cX8_offer 228 = .ok (.bipush (-9), 2) := by decide +kernel
theorem dX8_offer_230 : decode cX8_offer 230 = .ok (.if_icmp .eq 23, 3) := by decide +kernel
theorem dX8_offer_233 : decode cX8_offer 233 = .ok (.iload 10, 2) := by decide +kernel
theorem dX8_offer_235 : decode cX8_offer 235 = .ok (.iload 5, 2) := by decide +kernel
theorem dX8_offer_237 : decode cX8_offer 237 = .ok (.if_icmp .ge 16, 3) := by decide +kernel
theorem dX8_offer_240 : decode cX8_offer 240 = .ok (.iinc 9 1, 3) := by decide +kernel
theorem dX8_offer_243 : decode cX8_offer 243 = .ok (.iload 10, 2) := by decide +kernel
theorem dX8_offer_245 : decode cX8_offer 245 = .ok (.iload 8, 2) := by decide +kernel
theorem dX8_offer_247 : decode cX8_offer 247 = .ok (.iadd, 1) := by decide +kernel
theorem dX8_offer_248 : decode cX8_offer 248 = .ok (.istore 10, 2) := by decide +kernel
theorem dX8_offer_250 : decode cX8_offer 250 = .ok (.goto (-24), 3) := by decide +kernel
theorem dX8_offer_253 : decode cX8_offer 253 = .ok (.iload 9, 2) := by decide +kernel
theorem dX8_offer_255 : decode cX8_offer 255 = .ok (.iload 7, 2) := by decide +kernel
theorem dX8_offer_257 : decode cX8_offer 257 = .ok (.imul, 1) := by decide +kernel
theorem dX8_offer_258 : decode cX8_offer 258 = .ok (.ireturn, 1) := by decide +kernel
set_option maxRecDepth 20000 in
theorem ggX8_write_X8_in : GoodIn wsX8_write wsX8_in := goodIn_r _ [8] (by decide +kernel) (by decide +kernel)
set_option maxRecDepth 20000 in
theorem gX8_write_X8_in : GoodIn wsX8_write (va_wsS RX8 123 yX8_in wsX8_in) := goodIn_app (goodIn_of _ (by decide +kernel)) ggX8_write_X8_in
theorem dX8_write_0 : decode cX8_write 0 = .ok (.aload_n 0, 1) := by decide +kernel
theorem dX8_write_1 : decode cX8_write 1 = .ok (.iconst 0, 1) := by decide +kernel
theorem dX8_write_2 : decode cX8_write 2 = .ok (.putfield 120, 3) := by decide +kernel
theorem dX8_write_5 : decode cX8_write 5 = .ok (.iload_n 1, 1) := by decide +kernel
theorem dX8_write_6 : decode cX8_write 6 = .ok (.i2l, 1) := by decide +kernel
theorem dX8_write_7 : decode cX8_write 7 = .ok (.lconst 1, 1) := by decide +kernel
theorem dX8_write_8 : decode cX8_write 8 = .ok (.ldc2_w 250, 3) := by decide +kernel
theorem dX8_write_11 : decode cX8_write 11 = .ok (.invokestatic 123, 3) := by decide +kernel
theorem dX8_write_14 : decode cX8_write 14 = .ok (.ifCond .ne 6, 3) := by decide +kernel
theorem dX8_write_17 : decode cX8_write 17 = .ok (.bipush (-2), 2) := by decide +kernel
theorem dX8_write_19 : decode cX8_write 19 = .ok (.ireturn, 1) := by decide +kernel
theorem dX8_write_20 : decode cX8_write 20 = .ok (.aload_n 0, 1) := by decide +kernel
theorem dX8_write_21 : decode cX8_write 21 = .ok (.getfield 252, 3) := by decide +kernel
theorem dX8_write_24 : decode cX8_write 24 = .ok (.iload_n 1, 1) := by decide +kernel
theorem dX8_write_25 : decode cX8_write 25 = .ok (.iadd, 1) := by decide +kernel
theorem dX8_write_26 : decode cX8_write 26 = .ok (.bipush 60, 2) := by decide +kernel
theorem dX8_write_28 : decode cX8_write 28 = .ok (.if_icmp .le 6, 3) := by decide +kernel
theorem dX8_write_31 : decode cX8_write 31 = .ok (.bipush (-4), 2) := by decide +kernel
theorem dX8_write_33 : decode cX8_write 33 = .ok (.ireturn, 1) := by decide +kernel
theorem dX8_write_34 : decode cX8_write 34 = .ok (.iload_n 1, 1) := by decide +kernel
theorem dX8_write_35 : decode cX8_write 35 = .ok (.iconst 1, 1) := by decide +kernel
theorem dX8_write_36 : decode cX8_write 36 = .ok (.isub, 1) := by decide +kernel
theorem dX8_write_37 : decode cX8_write 37 = .ok (.istore 4, 2) := by decide +kernel
theorem dX8_write_39 : decode cX8_write 39 = .ok (.iload 4, 2) := by decide +kernel
theorem dX8_write_41 : decode cX8_write 41 = .ok (.ifCond .lt 40, 3) := by decide +kernel
theorem dX8_write_44 : decode cX8_write 44 = .ok (.aload_n 0, 1) := by decide +kernel
theorem dX8_write_45 : decode cX8_write 45 = .ok (.getfield 93, 3) := by decide +kernel
theorem dX8_write_48 : decode cX8_write 48 = .ok (.aload_n 0, 1) := by decide +kernel
theorem dX8_write_49 : decode cX8_write 49 = .ok (.getfield 252, 3) := by decide +kernel
theorem dX8_write_52 : decode cX8_write 52 = .ok (.lload_n 2, 1) := by decide +kernel
theorem dX8_write_53 : decode cX8_write 53 = .ok (.bipush 8, 2) := by decide +kernel
theorem dX8_write_55 : decode cX8_write 55 = .ok (.iload 4, 2) := by decide +kernel
theorem dX8_write_57 : decode cX8_write 57 = .ok (.imul, 1) := by decide +kernel
theorem dX8_write_58 : decode cX8_write 58 = .ok (.lshr, 1) := by decide +kernel
theorem dX8_write_59 : decode cX8_write 59 = .ok (.l2i, 1) := by decide +kernel
theorem dX8_write_60 : decode cX8_write 60 = .ok (.sipush 255, 3) := by decide +kernel
theorem dX8_write_63 : decode cX8_write 63 = .ok (.iand, 1) := by decide +kernel
theorem dX8_write_64 : decode cX8_write 64 = .ok (.iastore, 1) := by decide +kernel
theorem dX8_write_65 : decode cX8_write 65 = .ok (.aload_n 0, 1) := by decide +kernel
theorem dX8_write_66 : decode cX8_write 66 = .ok (.dup, 1) := by decide +kernel
theorem dX8_write_67 : decode cX8_write 67 = .ok (.getfield 252, 3) := by decide +kernel
theorem dX8_write_70 : decode cX8_write 70 = .ok (.iconst 1, 1) := by decide +kernel
theorem dX8_write_71 : decode cX8_write 71 = .ok (.iadd, 1) := by decide +kernel
theorem dX8_write_72 : decode cX8_write 72 = .ok (.putfield 252, 3) := by decide +kernel
theorem dX8_write_75 : decode cX8_write 75 = .ok (.iinc 4 (-1), 3) := by decide +kernel
theorem dX8_write_78 : decode cX8_write 78 = .ok (.goto (-39), 3) := by decide +kernel
theorem dX8_write_81 : decode cX8_write 81 = .ok (.aload_n 0, 1) := by decide +kernel
theorem dX8_write_82 : decode cX8_write 82 = .ok (.getfield 252, 3) := by decide +kernel
theorem dX8_write_85 : decode cX8_write 85 = .ok (.ireturn, 1) := by decide +kernel
theorem dX8_wipe_0 : decode cX8_wipe 0 = .ok (.aload_n 0, 1) := by decide +kernel
theorem dX8_wipe_1 : decode cX8_wipe 1 = .ok (.iconst 0, 1) := by decide +kernel
theorem dX8_wipe_2 : decode cX8_wipe 2 = .ok (.putfield 120, 3) := by decide +kernel
theorem dX8_wipe_5 : decode cX8_wipe 5 = .ok (.aload_n 0, 1) := by decide +kernel
theorem dX8_wipe_6 : decode cX8_wipe 6 = .ok (.getfield 252, 3) := by decide +kernel
theorem dX8_wipe_9 : decode cX8_wipe 9 = .ok (.istore_n 1, 1) := by decide +kernel
theorem dX8_wipe_10 : decode cX8_wipe 10 = .ok (.aload_n 0, 1) := by decide +kernel
theorem dX8_wipe_11 : decode cX8_wipe 11 = .ok (.iconst 0, 1) := by decide +kernel
theorem dX8_wipe_12 : decode cX8_wipe 12 = .ok (.putfield 252, 3) := by decide +kernel
theorem dX8_wipe_15 : decode cX8_wipe 15 = .ok (.iload_n 1, 1) := by decide +kernel
theorem dX8_wipe_16 : decode cX8_wipe 16 = .ok (.ireturn, 1) := by decide +kernel
theorem dX8_figures_0 : decode cX8_figures 0 = .ok (.iload_n 0, 1) := by decide +kernel
theorem dX8_figures_1 : decode cX8_figures 1 = .ok (.bipush 66, 2) := by decide +kernel
theorem dX8_figures_3 : decode cX8_figures 3 = .ok (.if_icmp .ne 7, 3) := by decide +kernel
theorem dX8_figures_6 : decode cX8_figures 6 = .ok (.iconst 5, 1) := by decide +kernel
theorem dX8_figures_7 : decode cX8_figures 7 = .ok (.goto 25, 3) := by decide +kernel
theorem dX8_figures_10 : decode cX8_figures 10 = .ok (.iload_n 0, 1) := by decide +kernel
theorem dX8_figures_11 : decode cX8_figures 11 = .ok (.bipush 89, 2) := by decide +kernel
theorem dX8_figures_13 : decode cX8_figures 13 = .ok (.if_icmp .ne 7, 3) := by decide +kernel
theorem dX8_figures_16 : decode cX8_figures 16 = .ok (.iconst 1, 1) := by decide +kernel
theorem dX8_figures_17 : decode cX8_figures 17 = .ok (.goto 15, 3) := by decide +kernel
theorem dX8_figures_20 : decode cX8_figures 20 = .ok (.iload_n 0, 1) := by decide +kernel
theorem dX8_figures_21 : decode cX8_figures 21 = .ok (.bipush 83, 2) := by decide +kernel
theorem dX8_figures_23 : decode cX8_figures 23 = .ok (.if_icmp .ne 7, 3) := by decide +kernel
theorem dX8_figures_26 : decode cX8_figures 26 = .ok (.iconst 2, 1) := by decide +kernel
theorem dX8_figures_27 : decode cX8_figures 27 = .ok (.goto 5, 3) := by decide +kernel
theorem dX8_figures_30 : decode cX8_figures 30 = .ok (.bipush (-9), 2) := by decide +kernel
theorem dX8_figures_32 : decode cX8_figures 32 = .ok (.ireturn, 1) := by decide +kernel
theorem dX8_leastOf_0 : decode cX8_leastOf 0 = .ok (.iload_n 1, 1) := by decide +kernel
theorem dX8_leastOf_1 : decode cX8_leastOf 1 = .ok (.bipush 89, 2) := by decide +kernel
theorem dX8_leastOf_3 : decode cX8_leastOf 3 = .ok (.if_icmp .eq 30, 3) := by decide +kernel
theorem dX8_leastOf_6 : decode cX8_leastOf 6 = .ok (.iload_n 1, 1) := by decide +kernel
theorem dX8_leastOf_7 : decode cX8_leastOf 7 = .ok (.bipush 83, 2) := by decide +kernel
theorem dX8_leastOf_9 : decode cX8_leastOf 9 = .ok (.if_icmp .ne 8, 3) := by decide +kernel
theorem dX8_leastOf_12 : decode cX8_leastOf 12 = .ok (.iload_n 2, 1) := by decide +kernel
theorem dX8_leastOf_13 : decode cX8_leastOf 13 = .ok (.iconst 1, 1) := by decide +kernel
theorem dX8_leastOf_14 : decode cX8_leastOf 14 = .ok (.if_icmp .eq 19, 3) := by decide +kernel
theorem dX8_leastOf_17 : decode cX8_leastOf 17 = .ok (.iload_n 1, 1) := by decide +kernel
theorem dX8_leastOf_18 : decode cX8_leastOf 18 = .ok (.bipush 66, 2) := by decide +kernel
theorem dX8_leastOf_20 : decode cX8_leastOf 20 = .ok (.if_icmp .ne 17, 3) := by decide +kernel
theorem dX8_leastOf_23 : decode cX8_leastOf 23 = .ok (.iload_n 2, 1) := by decide +kernel
theorem dX8_leastOf_24 : decode cX8_leastOf 24 = .ok (.iconst 2, 1) := by decide +kernel
theorem dX8_leastOf_25 : decode cX8_leastOf 25 = .ok (.if_icmp .eq 8, 3) := by decide +kernel
theorem dX8_leastOf_28 : decode cX8_leastOf 28 = .ok (.iload_n 2, 1) := by decide +kernel
theorem dX8_leastOf_29 : decode cX8_leastOf 29 = .ok (.iconst 4, 1) := by decide +kernel
theorem dX8_leastOf_30 : decode cX8_leastOf 30 = .ok (.if_icmp .ne 7, 3) := by decide +kernel
theorem dX8_leastOf_33 : decode cX8_leastOf 33 = .ok (.iconst 1, 1) := by decide +kernel
theorem dX8_leastOf_34 : decode cX8_leastOf 34 = .ok (.goto 4, 3) := by decide +kernel
theorem dX8_leastOf_37 : decode cX8_leastOf 37 = .ok (.iconst 0, 1) := by decide +kernel
theorem dX8_leastOf_38 : decode cX8_leastOf 38 = .ok (.istore_n 3, 1) := by decide +kernel
theorem dX8_leastOf_39 : decode cX8_leastOf 39 = .ok (.iload_n 3, 1) := by decide +kernel
theorem dX8_leastOf_40 : decode cX8_leastOf 40 = .ok (.ifCond .eq 7, 3) := by decide +kernel
theorem dX8_leastOf_43 : decode cX8_leastOf 43 = .ok (.iconst 1, 1) := by decide +kernel
theorem dX8_leastOf_44 : decode cX8_leastOf 44 = .ok (.goto 4, 3) := by decide +kernel
theorem dX8_leastOf_47 : decode cX8_leastOf 47 = .ok (.iconst 0, 1) := by decide +kernel
theorem dX8_leastOf_48 : decode cX8_leastOf 48 = .ok (.ireturn, 1) := by decide +kernel
theorem dX8_mostOf_0 : decode cX8_mostOf 0 = .ok (.iload_n 1, 1) := by decide +kernel
theorem dX8_mostOf_1 : decode cX8_mostOf 1 = .ok (.bipush 89, 2) := by decide +kernel
theorem dX8_mostOf_3 : decode cX8_mostOf 3 = .ok (.if_icmp .eq 14, 3) := by decide +kernel
theorem dX8_mostOf_6 : decode cX8_mostOf 6 = .ok (.iload_n 1, 1) := by decide +kernel
theorem dX8_mostOf_7 : decode cX8_mostOf 7 = .ok (.bipush 83, 2) := by decide +kernel
theorem dX8_mostOf_9 : decode cX8_mostOf 9 = .ok (.if_icmp .ne 11, 3) := by decide +kernel
theorem dX8_mostOf_12 : decode cX8_mostOf 12 = .ok (.iload_n 2, 1) := by decide +kernel
theorem dX8_mostOf_13 : decode cX8_mostOf 13 = .ok (.iconst 1, 1) := by decide +kernel
theorem dX8_mostOf_14 : decode cX8_mostOf 14 = .ok (.if_icmp .ne 6, 3) := by decide +kernel
theorem dX8_mostOf_17 : decode cX8_mostOf 17 = .ok (.bipush 9, 2) := by decide +kernel
theorem dX8_mostOf_19 : decode cX8_mostOf 19 = .ok (.ireturn, 1) := by decide +kernel
theorem dX8_mostOf_20 : decode cX8_mostOf 20 = .ok (.iload_n 2, 1) := by decide +kernel
theorem dX8_mostOf_21 : decode cX8_mostOf 21 = .ok (.ifCond .ne 12, 3) := by decide +kernel
theorem dX8_mostOf_24 : decode cX8_mostOf 24 = .ok (.aload_n 0, 1) := by decide +kernel
theorem dX8_mostOf_25 : decode cX8_mostOf 25 = .ok (.getfield 7, 3) := by decide +kernel
theorem dX8_mostOf_28 : decode cX8_mostOf 28 = .ok (.iconst 1, 1) := by decide +kernel
theorem dX8_mostOf_29 : decode cX8_mostOf 29 = .ok (.isub, 1) := by decide +kernel
theorem dX8_mostOf_30 : decode cX8_mostOf 30 = .ok (.goto 37, 3) := by decide +kernel
theorem dX8_mostOf_33 : decode cX8_mostOf 33 = .ok (.iload_n 2, 1) := by decide +kernel
theorem dX8_mostOf_34 : decode cX8_mostOf 34 = .ok (.iconst 1, 1) := by decide +kernel
theorem dX8_mostOf_35 : decode cX8_mostOf 35 = .ok (.if_icmp .ne 12, 3) := by decide +kernel
theorem dX8_mostOf_38 : decode cX8_mostOf 38 = .ok (.aload_n 0, 1) := by decide +kernel
theorem dX8_mostOf_39 : decode cX8_mostOf 39 = .ok (.getfield 13, 3) := by decide +kernel
theorem dX8_mostOf_42 : decode cX8_mostOf 42 = .ok (.iconst 1, 1) := by decide +kernel
theorem dX8_mostOf_43 : decode cX8_mostOf 43 = .ok (.isub, 1) := by decide +kernel
theorem dX8_mostOf_44 : decode cX8_mostOf 44 = .ok (.goto 23, 3) := by decide +kernel
theorem dX8_mostOf_47 : decode cX8_mostOf 47 = .ok (.iload_n 2, 1) := by decide +kernel
theorem dX8_mostOf_48 : decode cX8_mostOf 48 = .ok (.iconst 2, 1) := by decide +kernel
theorem dX8_mostOf_49 : decode cX8_mostOf 49 = .ok (.if_icmp .ne 7, 3) := by decide +kernel
theorem dX8_mostOf_52 : decode cX8_mostOf 52 = .ok (.iconst 3, 1) := by decide +kernel
theorem dX8_mostOf_53 : decode cX8_mostOf 53 = .ok (.goto 14, 3) := by decide +kernel
theorem dX8_mostOf_56 : decode cX8_mostOf 56 = .ok (.iload_n 2, 1) := by decide +kernel
theorem dX8_mostOf_57 : decode cX8_mostOf 57 = .ok (.iconst 3, 1) := by decide +kernel
theorem dX8_mostOf_58 : decode cX8_mostOf 58 = .ok (.if_icmp .ne 7, 3) := by decide +kernel
theorem dX8_mostOf_61 : decode cX8_mostOf 61 = .ok (.iconst 5, 1) := by decide +kernel
theorem dX8_mostOf_62 : decode cX8_mostOf 62 = .ok (.goto 5, 3) := by decide +kernel
theorem dX8_mostOf_65 : decode cX8_mostOf 65 = .ok (.bipush 9, 2) := by decide +kernel
theorem dX8_mostOf_67 : decode cX8_mostOf 67 = .ok (.ireturn, 1) := by decide +kernel
set_option maxRecDepth 20000 in
theorem ggX8_faultOf_X8_figures : GoodIn wsX8_faultOf wsX8_figures := goodIn_r _ [6] (by decide +kernel) (by decide +kernel)
set_option maxRecDepth 20000 in
theorem gX8_faultOf_X8_figures : GoodIn wsX8_faultOf (va_wsS RX8 255 yX8_figures wsX8_figures) := goodIn_app (goodIn_of _ (by decide +kernel)) ggX8_faultOf_X8_figures
set_option maxRecDepth 20000 in
theorem ggX8_faultOf_X8_leastOf : GoodIn wsX8_faultOf wsX8_leastOf := goodIn_r _ [10] (by decide +kernel) (by decide +kernel)
set_option maxRecDepth 20000 in
theorem gX8_faultOf_X8_leastOf : GoodIn wsX8_faultOf (wsV RX8 258 RX8 yX8_leastOf wsX8_leastOf) := goodIn_app (goodIn_of _ (by decide +kernel)) ggX8_faultOf_X8_leastOf
set_option maxRecDepth 20000 in
theorem ggX8_faultOf_X8_mostOf : GoodIn wsX8_faultOf wsX8_mostOf := goodIn_r _ [14, 15, 16, 20, 21, 22, 23, 24, 25, 26, 27, 28, 29, 30, 31, 32, 33, 34, 35, 36, 37, 38, 39, 40, 41, 42, 43, 44, 45, 46, 47, 48, 49, 50, 51, 52, 53, 54, 55, 56, 57, 58, 59, 60, 61] (by decide +kernel) (by decide +kernel)
set_option maxRecDepth 20000 in
theorem gX8_faultOf_X8_mostOf : GoodIn wsX8_faultOf (wsV RX8 261 RX8 yX8_mostOf wsX8_mostOf) := goodIn_app (goodIn_of _ (by decide +kernel)) ggX8_faultOf_X8_mostOf
set_option maxRecDepth 20000 in
theorem ggX8_faultOf_X8_in : GoodIn wsX8_faultOf wsX8_in := goodIn_r _ [19] (by decide +kernel) (by decide +kernel)
set_option maxRecDepth 20000 in
theorem gX8_faultOf_X8_in : GoodIn wsX8_faultOf (va_wsS RX8 123 yX8_in wsX8_in) := goodIn_app (goodIn_of _ (by decide +kernel)) ggX8_faultOf_X8_in
theorem dX8_faultOf_0 : decode cX8_faultOf 0 = .ok (.iconst 0, 1) := by decide +kernel
theorem dX8_faultOf_1 : decode cX8_faultOf 1 = .ok (.istore_n 1, 1) := by decide +kernel
theorem dX8_faultOf_2 : decode cX8_faultOf 2 = .ok (.iload_n 1, 1) := by decide +kernel
theorem dX8_faultOf_3 : decode cX8_faultOf 3 = .ok (.aload_n 0, 1) := by decide +kernel
theorem dX8_faultOf_4 : decode cX8_faultOf 4 = .ok (.getfield 252, 3) := by decide +kernel
theorem dX8_faultOf_7 : decode cX8_faultOf 7 = .ok (.if_icmp .ge 89, 3) := by decide +kernel
theorem dX8_faultOf_10 : decode cX8_faultOf 10 = .ok (.aload_n 0, 1) := by decide +kernel
theorem dX8_faultOf_11 : decode cX8_faultOf 11 = .ok (.getfield 93, 3) := by decide +kernel
theorem dX8_faultOf_14 : decode cX8_faultOf 14 = .ok (.iload_n 1, 1) := by decide +kernel
theorem dX8_faultOf_15 : decode cX8_faultOf 15 = .ok (.iaload, 1) := by decide +kernel
theorem dX8_faultOf_16 : decode cX8_faultOf 16 = .ok (.istore_n 2, 1) := by decide +kernel
theorem dX8_faultOf_17 : decode cX8_faultOf 17 = .ok (.iload_n 2, 1) := by decide +kernel
theorem dX8_faultOf_18 : decode cX8_faultOf 18 = .ok (.invokestatic 255, 3) := by decide +kernel
theorem dX8_faultOf_21 : decode cX8_faultOf 21 = .ok (.istore_n 3, 1) := by decide +kernel
theorem dX8_faultOf_22 : decode cX8_faultOf 22 = .ok (.iload_n 3, 1) := by decide +kernel
theorem dX8_faultOf_23 : decode cX8_faultOf 23 = .ok (.bipush (-9), 2) := by decide +kernel
theorem dX8_faultOf_25 : decode cX8_faultOf 25 = .ok (.if_icmp .ne 5, 3) := by decide +kernel
theorem dX8_faultOf_28 : decode cX8_faultOf 28 = .ok (.iload_n 1, 1) := by decide +kernel
theorem dX8_faultOf_29 : decode cX8_faultOf 29 = .ok (.ireturn, 1) := by decide +kernel
theorem dX8_faultOf_30 : decode cX8_faultOf 30 = .ok (.iinc 1 1, 3) := by decide +kernel
theorem dX8_faultOf_33 : decode cX8_faultOf 33 = .ok (.iconst 0, 1) := by decide +kernel
theorem dX8_faultOf_34 : decode cX8_faultOf 34 = .ok (.istore 4, 2) := by decide +kernel
theorem dX8_faultOf_36 : decode cX8_faultOf 36 = .ok (.iload 4, 2) := by decide +kernel
theorem dX8_faultOf_38 : decode cX8_faultOf 38 = .ok (.iload_n 3, 1) := by decide +kernel
theorem dX8_faultOf_39 : decode cX8_faultOf 39 = .ok (.if_icmp .ge 54, 3) := by decide +kernel
theorem dX8_faultOf_42 : decode cX8_faultOf 42 = .ok (.iload_n 1, 1) := by decide +kernel
theorem dX8_faultOf_43 : decode cX8_faultOf 43 = .ok (.aload_n 0, 1) := by decide +kernel
theorem dX8_faultOf_44 : decode cX8_faultOf 44 = .ok (.getfield 252, 3) := by decide +kernel
theorem dX8_faultOf_47 : decode cX8_faultOf 47 = .ok (.if_icmp .eq 35, 3) := by decide +kernel
theorem dX8_faultOf_50 : decode cX8_faultOf 50 = .ok (.aload_n 0, 1) := by decide +kernel
theorem dX8_faultOf_51 : decode cX8_faultOf 51 = .ok (.getfield 93, 3) := by decide +kernel
theorem dX8_faultOf_54 : decode cX8_faultOf 54 = .ok (.iload_n 1, 1) := by decide +kernel
theorem dX8_faultOf_55 : decode cX8_faultOf 55 = .ok (.iaload, 1) := by decide +kernel
theorem dX8_faultOf_56 : decode cX8_faultOf 56 = .ok (.bipush 48, 2) := by decide +kernel
theorem dX8_faultOf_58 : decode cX8_faultOf 58 = .ok (.isub, 1) := by decide +kernel
theorem dX8_faultOf_59 : decode cX8_faultOf 59 = .ok (.i2l, 1) := by decide +kernel
theorem dX8_faultOf_60 : decode cX8_faultOf 60 = .ok (.aload_n 0, 1) := by decide +kernel
theorem dX8_faultOf_61 : decode cX8_faultOf 61 = .ok (.iload_n 2, 1) := by decide +kernel
theorem dX8_faultOf_62 : decode cX8_faultOf 62 = .ok (.iload 4, 2) := by decide +kernel
theorem dX8_faultOf_64 : decode cX8_faultOf 64 = .ok (.invokevirtual 258, 3) := by decide +kernel
theorem dX8_faultOf_67 : decode cX8_faultOf 67 = .ok (.i2l, 1) := by decide +kernel
theorem dX8_faultOf_68 : decode cX8_faultOf 68 = .ok (.aload_n 0, 1) := by decide +kernel
theorem dX8_faultOf_69 : decode cX8_faultOf 69 = .ok (.iload_n 2, 1) := by decide +kernel
theorem dX8_faultOf_70 : decode cX8_faultOf 70 = .ok (.iload 4, 2) := by decide +kernel
theorem dX8_faultOf_72 : decode cX8_faultOf 72 = .ok (.invokevirtual 261, 3) := by decide +kernel
theorem dX8_faultOf_75 : decode cX8_faultOf 75 = .ok (.i2l, 1) := by decide +kernel
theorem dX8_faultOf_76 : decode cX8_faultOf 76 = .ok (.invokestatic 123, 3) := by decide +kernel
theorem dX8_faultOf_79 : decode cX8_faultOf 79 = .ok (.ifCond .ne 5, 3) := by decide +kernel
theorem dX8_faultOf_82 : decode cX8_faultOf 82 = .ok (.iload_n 1, 1) := by decide +kernel
theorem dX8_faultOf_83 : decode cX8_faultOf 83 = .ok (.ireturn, 1) := by decide +kernel
theorem dX8_faultOf_84 : decode cX8_faultOf 84 = .ok (.iinc 1 1, 3) := by decide +kernel
theorem dX8_faultOf_87 : decode cX8_faultOf 87 = .ok (.iinc 4 1, 3) := by decide +kernel
theorem dX8_faultOf_90 : decode cX8_faultOf 90 = .ok (.goto (-54), 3) := by decide +kernel
theorem dX8_faultOf_93 : decode cX8_faultOf 93 = .ok (.goto (-91), 3) := by decide +kernel
theorem dX8_faultOf_96 : decode cX8_faultOf 96 = .ok (.bipush (-9), 2) := by decide +kernel
theorem dX8_faultOf_98 : decode cX8_faultOf 98 = .ok (.ireturn, 1) := by decide +kernel
set_option maxRecDepth 20000 in
theorem ggX8_fault_X8_faultOf : GoodIn wsX8_fault wsX8_faultOf := goodIn_r _ [6, 7, 8, 9, 10, 5, 11, 12, 13, 14, 15, 16, 17, 18, 19, 20, 21, 22, 23, 24, 25, 26, 27, 28, 29, 30, 31, 32, 33, 34, 35, 36, 37, 38, 39, 40, 41, 42, 43, 44, 45, 46, 47, 48, 49, 50, 51, 52, 53, 54, 55, 56, 57, 58, 59, 60, 61, 62, 63, 64, 65, 66] (by decide +kernel) (by decide +kernel)
set_option maxRecDepth 20000 in
theorem gX8_fault_X8_faultOf : GoodIn wsX8_fault (wsV RX8 264 RX8 yX8_faultOf wsX8_faultOf) := goodIn_app (goodIn_of _ (by decide +kernel)) ggX8_fault_X8_faultOf
theorem dX8_fault_0 : decode cX8_fault 0 = .ok (.aload_n 0, 1) := by decide +kernel
theorem dX8_fault_1 : decode cX8_fault 1 = .ok (.iconst 0, 1) := by decide +kernel
theorem dX8_fault_2 : decode cX8_fault 2 = .ok (.putfield 120, 3) := by decide +kernel
theorem dX8_fault_5 : decode cX8_fault 5 = .ok (.aload_n 0, 1) := by decide +kernel
theorem dX8_fault_6 : decode cX8_fault 6 = .ok (.invokevirtual 264, 3) := by decide +kernel
theorem dX8_fault_9 : decode cX8_fault 9 = .ok (.ireturn, 1) := by decide +kernel
theorem dX8_at_0 : decode cX8_at 0 = .ok (.aload_n 0, 1) := by decide +kernel
theorem dX8_at_1 : decode cX8_at 1 = .ok (.getfield 93, 3) := by decide +kernel
theorem dX8_at_4 : decode cX8_at 4 = .ok (.iload_n 1, 1) := by decide +kernel
theorem dX8_at_5 : decode cX8_at 5 = .ok (.iaload, 1) := by decide +kernel
theorem dX8_at_6 : decode cX8_at 6 = .ok (.bipush 48, 2) := by decide +kernel
theorem dX8_at_8 : decode cX8_at 8 = .ok (.isub, 1) := by decide +kernel
theorem dX8_at_9 : decode cX8_at 9 = .ok (.ireturn, 1) := by decide +kernel
set_option maxRecDepth 20000 in
theorem ggX8_done_X8_faultOf : GoodIn wsX8_done wsX8_faultOf := goodIn_r _ [10, 2, 3, 11, 12, 9, 13, 14, 15, 16, 17, 18, 19, 20, 21, 22, 23, 24, 25, 26, 59, 60, 61, 62, 63, 64, 65, 66, 67, 68, 69, 70, 71, 72, 73, 74, 75, 76, 77, 78, 79, 80, 81, 82, 83, 84, 85, 86, 87, 88, 89, 90, 91, 92, 93, 94, 95, 96, 97, 98, 99, 100] (by decide +kernel) (by decide +kernel)
set_option maxRecDepth 20000 in
theorem gX8_done_X8_faultOf : GoodIn wsX8_done (wsV RX8 264 RX8 yX8_faultOf wsX8_faultOf) := goodIn_app (goodIn_of _ (by decide +kernel)) ggX8_done_X8_faultOf
set_option maxRecDepth 20000 in
theorem ggX8_done_X8_at : GoodIn wsX8_done wsX8_at := goodIn_r _ [30, 3, 59, 60, 61, 62, 63, 64, 65, 66, 67, 68, 69, 70, 71, 72, 73, 74, 75, 76, 77, 78, 79, 80, 81, 82, 83, 84, 85, 86, 87, 88, 89, 90, 91, 92, 93, 94, 95, 96, 97, 98, 99, 100] (by decide +kernel) (by decide +kernel)
set_option maxRecDepth 20000 in
theorem gX8_done_X8_at : GoodIn wsX8_done (wsV RX8 267 RX8 yX8_at wsX8_at) := goodIn_app (goodIn_of _ (by decide +kernel)) ggX8_done_X8_at
set_option maxRecDepth 20000 in
theorem ggX8_done_X8_put : GoodIn wsX8_done wsX8_put := goodIn_r _ [34, 35, 5, 36, 37, 38, 39, 40, 4, 59, 60, 61, 62, 63, 64, 65, 66, 67, 68, 69, 70, 71, 72, 73, 74, 75, 76, 77, 78, 79, 80, 81, 82, 83, 84, 85, 86, 87, 88, 89, 90, 91, 92, 93, 94, 95, 96, 97, 98, 99, 100] (by decide +kernel) (by decide +kernel)
set_option maxRecDepth 20000 in
theorem gX8_done_X8_put : GoodIn wsX8_done (wsV RX8 152 RX8 yX8_put wsX8_put) := goodIn_app (goodIn_of _ (by decide +kernel)) ggX8_done_X8_put
set_option maxRecDepth 20000 in
theorem ggX8_done_X8_passYear : GoodIn wsX8_done wsX8_passYear := goodIn_r _ [44, 22, 23, 45, 5, 40, 46, 47, 48, 49, 9, 50, 35, 59, 60, 61, 62, 63, 64, 65, 66, 67, 68, 69, 70, 71, 72, 73, 74, 75, 76, 77, 78, 79, 80, 81, 82, 83, 84, 85, 86, 87, 88, 89, 90, 91, 92, 93, 94, 95, 96, 97, 98, 99, 100] (by decide +kernel) (by decide +kernel)
set_option maxRecDepth 20000 in
theorem gX8_done_X8_passYear : GoodIn wsX8_done (wsV RX8 190 RX8 yX8_passYear wsX8_passYear) := goodIn_app (goodIn_of _ (by decide +kernel)) ggX8_done_X8_passYear
set_option maxRecDepth 20000 in
theorem ggX8_done_X8_takeOne : GoodIn wsX8_done wsX8_takeOne := goodIn_r _ [54, 5, 35, 40, 55, 56, 57, 9, 58, 59, 60, 61, 62, 63, 64, 65, 66, 67, 68, 69, 70, 71, 72, 73, 74, 75, 76, 77, 78, 79, 80, 81, 82, 83, 84, 85, 86, 87, 88, 89, 90, 91, 92, 93, 94, 95, 96, 97, 98, 99, 100] (by decide +kernel) (by decide +kernel)
set_option maxRecDepth 20000 in
theorem gX8_done_X8_takeOne : GoodIn wsX8_done (wsV RX8 160 RX8 yX8_takeOne wsX8_takeOne) := goodIn_app (goodIn_of _ (by decide +kernel)) ggX8_done_X8_takeOne
set_option maxRecDepth 20000 in
theorem ggX8_done_X8_figures : GoodIn wsX8_done wsX8_figures := goodIn_r _ [13] (by decide +kernel) (by decide +kernel)
set_option maxRecDepth 20000 in
theorem gX8_done_X8_figures : GoodIn wsX8_done (va_wsS RX8 255 yX8_figures wsX8_figures) := goodIn_app (goodIn_of _ (by decide +kernel)) ggX8_done_X8_figures
theorem dX8_done_0 : decode cX8_done 0 = .ok (.aload_n 0, 1) := by decide +kernel
theorem dX8_done_1 : decode cX8_done 1 = .ok (.iconst 0, 1) := by decide +kernel
theorem dX8_done_2 : decode cX8_done 2 = .ok (.putfield 120, 3) := by decide +kernel
theorem dX8_done_5 : decode cX8_done 5 = .ok (.aload_n 0, 1) := by decide +kernel
theorem dX8_done_6 : decode cX8_done 6 = .ok (.invokevirtual 264, 3) := by decide +kernel
theorem dX8_done_9 : decode cX8_done 9 = .ok (.bipush (-9), 2) := by decide +kernel
theorem dX8_done_11 : decode cX8_done 11 = .ok (.if_icmp .eq 6, 3) := by decide +kernel
theorem dX8_done_14 : decode cX8_done 14 = .ok (.bipush (-3), 2) := by decide +kernel
theorem dX8_done_16 : decode cX8_done 16 = .ok (.ireturn, 1) := by decide +kernel
theorem dX8_done_17 : decode cX8_done 17 = .ok (.iconst 0, 1) := by decide +kernel
theorem dX8_done_18 : decode cX8_done 18 = .ok (.istore_n 1, 1) := by decide +kernel
theorem dX8_done_19 : decode cX8_done 19 = .ok (.iconst 0, 1) := by decide +kernel
theorem dX8_done_20 : decode cX8_done 20 = .ok (.istore_n 2, 1) := by decide +kernel
theorem dX8_done_21 : decode cX8_done 21 = .ok (.iload_n 2, 1) := by decide +kernel
theorem dX8_done_22 : decode cX8_done 22 = .ok (.aload_n 0, 1) := by decide +kernel
theorem dX8_done_23 : decode cX8_done 23 = .ok (.getfield 252, 3) := by decide +kernel
theorem dX8_done_26 : decode cX8_done 26 = .ok (.if_icmp .ge 178, 3) := by decide +kernel
theorem dX8_done_29 : decode cX8_done 29 = .ok (.aload_n 0, 1) := by decide +kernel
theorem dX8_done_30 : decode cX8_done 30 = .ok (.getfield 93, 3) := by decide +kernel
theorem dX8_done_33 : decode cX8_done 33 = .ok (.iload_n 2, 1) := by decide +kernel
theorem dX8_done_34 : decode cX8_done 34 = .ok (.iaload, 1) := by decide +kernel
theorem dX8_done_35 : decode cX8_done 35 = .ok (.istore_n 3, 1) := by decide +kernel
theorem dX8_done_36 : decode cX8_done 36 = .ok (.iload_n 3, 1) := by decide +kernel
theorem dX8_done_37 : decode cX8_done 37 = .ok (.bipush 66, 2) := by decide +kernel
theorem dX8_done_39 : decode cX8_done 39 = .ok (.if_icmp .ne 82, 3) := by decide +kernel
theorem dX8_done_42 : decode cX8_done 42 = .ok (.aload_n 0, 1) := by decide +kernel
theorem dX8_done_43 : decode cX8_done 43 = .ok (.getfield 19, 3) := by decide +kernel
theorem dX8_done_46 : decode cX8_done 46 = .ok (.bipush 6, 2) := by decide +kernel
theorem dX8_done_48 : decode cX8_done 48 = .ok (.aload_n 0, 1) := by decide +kernel
theorem dX8_done_49 : decode cX8_done 49 = .ok (.iload_n 2, 1) := by decide +kernel
theorem dX8_done_50 : decode cX8_done 50 = .ok (.iconst 1, 1) := by decide +kernel
theorem dX8_done_51 : decode cX8_done 51 = .ok (.iadd, 1) := by decide +kernel
theorem dX8_done_52 : decode cX8_done 52 = .ok (.invokevirtual 267, 3) := by decide +kernel
theorem dX8_done_55 : decode cX8_done 55 = .ok (.imul, 1) := by decide +kernel
theorem dX8_done_56 : decode cX8_done 56 = .ok (.aload_n 0, 1) := by decide +kernel
theorem dX8_done_57 : decode cX8_done 57 = .ok (.iload_n 2, 1) := by decide +kernel
theorem dX8_done_58 : decode cX8_done 58 = .ok (.iconst 2, 1) := by decide +kernel
theorem dX8_done_59 : decode cX8_done 59 = .ok (.iadd, 1) := by decide +kernel
theorem dX8_done_60 : decode cX8_done 60 = .ok (.invokevirtual 267, 3) := by decide +kernel
theorem dX8_done_63 : decode cX8_done 63 = .ok (.iadd, 1) := by decide +kernel
theorem dX8_done_64 : decode cX8_done 64 = .ok (.iaload, 1) := by decide +kernel
theorem dX8_done_65 : decode cX8_done 65 = .ok (.ifCond .ne 12, 3) := by decide +kernel
theorem dX8_done_68 : decode cX8_done 68 = .ok (.aload_n 0, 1) := by decide +kernel
theorem dX8_done_69 : decode cX8_done 69 = .ok (.getfield 131, 3) := by decide +kernel
theorem dX8_done_72 : decode cX8_done 72 = .ok (.bipush 40, 2) := by decide +kernel
theorem dX8_done_74 : decode cX8_done 74 = .ok (.if_icmp .ne 5, 3) := by decide +kernel
theorem dX8_done_77 : decode cX8_done 77 = .ok (.iload_n 1, 1) := by decide +kernel
theorem dX8_done_78 : decode cX8_done 78 = .ok (.ireturn, 1) := by decide +kernel
theorem dX8_done_79 : decode cX8_done 79 = .ok (.aload_n 0, 1) := by decide +kernel
theorem dX8_done_80 : decode cX8_done 80 = .ok (.aload_n 0, 1) := by decide +kernel
theorem dX8_done_81 : decode cX8_done 81 = .ok (.iload_n 2, 1) := by decide +kernel
theorem dX8_done_82 : decode cX8_done 82 = .ok (.iconst 1, 1) := by decide +kernel
theorem dX8_done_83 : decode cX8_done 83 = .ok (.iadd, 1) := by decide +kernel
theorem dX8_done_84 : decode cX8_done 84 = .ok (.invokevirtual 267, 3) := by decide +kernel
theorem dX8_done_87 : decode cX8_done 87 = .ok (.aload_n 0, 1) := by decide +kernel
theorem dX8_done_88 : decode cX8_done 88 = .ok (.iload_n 2, 1) := by decide +kernel
theorem dX8_done_89 : decode cX8_done 89 = .ok (.iconst 2, 1) := by decide +kernel
theorem dX8_done_90 : decode cX8_done 90 = .ok (.iadd, 1) := by decide +kernel
theorem dX8_done_91 : decode cX8_done 91 = .ok (.invokevirtual 267, 3) := by decide +kernel
theorem dX8_done_94 : decode cX8_done 94 = .ok (.aload_n 0, 1) := by decide +kernel
theorem dX8_done_95 : decode cX8_done 95 = .ok (.iload_n 2, 1) := by decide +kernel
theorem dX8_done_96 : decode cX8_done 96 = .ok (.iconst 3, 1) := by decide +kernel
theorem dX8_done_97 : decode cX8_done 97 = .ok (.iadd, 1) := by decide +kernel
theorem dX8_done_98 : decode cX8_done 98 = .ok (.invokevirtual 267, 3) := by decide +kernel
theorem dX8_done_101 : decode cX8_done 101 = .ok (.aload_n 0, 1) := by decide +kernel
theorem dX8_done_102 : decode cX8_done 102 = .ok (.iload_n 2, 1) := by decide +kernel
theorem dX8_done_103 : decode cX8_done 103 = .ok (.iconst 4, 1) := by decide +kernel
theorem dX8_done_104 : decode cX8_done 104 = .ok (.iadd, 1) := by decide +kernel
theorem dX8_done_105 : decode cX8_done 105 = .ok (.invokevirtual 267, 3) := by decide +kernel
theorem dX8_done_108 : decode cX8_done 108 = .ok (.aload_n 0, 1) := by decide +kernel
theorem dX8_done_109 : decode cX8_done 109 = .ok (.iload_n 2, 1) := by decide +kernel
theorem dX8_done_110 : decode cX8_done 110 = .ok (.iconst 5, 1) := by decide +kernel
theorem dX8_done_111 : decode cX8_done 111 = .ok (.iadd, 1) := by decide +kernel
theorem dX8_done_112 : decode cX8_done 112 = .ok (.invokevirtual 267, 3) := by decide +kernel
theorem dX8_done_115 : decode cX8_done 115 = .ok (.invokevirtual 152, 3) := by decide +kernel
theorem dX8_done_118 : decode cX8_done 118 = .ok (.goto 71, 3) := by decide +kernel
theorem dX8_done_121 : decode cX8_done 121 = .ok (.iload_n 3, 1) := by decide +kernel
theorem dX8_done_122 : decode cX8_done 122 = .ok (.bipush 89, 2) := by decide +kernel
theorem dX8_done_124 : decode cX8_done 124 = .ok (.if_icmp .ne 32, 3) := by decide +kernel
theorem dX8_done_127 : decode cX8_done 127 = .ok (.iconst 0, 1) := by decide +kernel
theorem dX8_done_128 : decode cX8_done 128 = .ok (.istore 4, 2) := by decide +kernel
theorem dX8_done_130 : decode cX8_done 130 = .ok (.iload 4, 2) := by decide +kernel
theorem dX8_done_132 : decode cX8_done 132 = .ok (.aload_n 0, 1) := by decide +kernel
theorem dX8_done_133 : decode cX8_done 133 = .ok (.iload_n 2, 1) := by decide +kernel
theorem dX8_done_134 : decode cX8_done 134 = .ok (.iconst 1, 1) := by decide +kernel
theorem dX8_done_135 : decode cX8_done 135 = .ok (.iadd, 1) := by decide +kernel
theorem dX8_done_136 : decode cX8_done 136 = .ok (.invokevirtual 267, 3) := by decide +kernel
theorem dX8_done_139 : decode cX8_done 139 = .ok (.if_icmp .ge 14, 3) := by decide +kernel
theorem dX8_done_142 : decode cX8_done 142 = .ok (.aload_n 0, 1) := by decide +kernel
theorem dX8_done_143 : decode cX8_done 143 = .ok (.invokevirtual 190, 3) := by decide +kernel
theorem dX8_done_146 : decode cX8_done 146 = .ok (.pop, 1) := by decide +kernel
theorem dX8_done_147 : decode cX8_done 147 = .ok (.iinc 4 1, 3) := by decide +kernel
theorem dX8_done_150 : decode cX8_done 150 = .ok (.goto (-20), 3) := by decide +kernel
theorem dX8_done_153 : decode cX8_done 153 = .ok (.goto 36, 3) := by decide +kernel
theorem dX8_done_156 : decode cX8_done 156 = .ok (.iconst 0, 1) := by decide +kernel
theorem dX8_done_157 : decode cX8_done 157 = .ok (.istore 4, 2) := by decide +kernel
theorem dX8_done_159 : decode cX8_done 159 = .ok (.iload 4, 2) := by decide +kernel
theorem dX8_done_161 : decode cX8_done 161 = .ok (.aload_n 0, 1) := by decide +kernel
theorem dX8_done_162 : decode cX8_done 162 = .ok (.iload_n 2, 1) := by decide +kernel
theorem dX8_done_163 : decode cX8_done 163 = .ok (.iconst 2, 1) := by decide +kernel
theorem dX8_done_164 : decode cX8_done 164 = .ok (.iadd, 1) := by decide +kernel
theorem dX8_done_165 : decode cX8_done 165 = .ok (.invokevirtual 267, 3) := by decide +kernel
theorem dX8_done_168 : decode cX8_done 168 = .ok (.if_icmp .ge 21, 3) := by decide +kernel
theorem dX8_done_171 : decode cX8_done 171 = .ok (.aload_n 0, 1) := by decide +kernel
theorem dX8_done_172 : decode cX8_done 172 = .ok (.aload_n 0, 1) := by decide +kernel
theorem dX8_done_173 : decode cX8_done 173 = .ok (.iload_n 2, 1) := by decide +kernel
theorem dX8_done_174 : decode cX8_done 174 = .ok (.iconst 1, 1) := by decide +kernel
theorem dX8_done_175 : decode cX8_done 175 = .ok (.iadd, 1) := by decide +kernel
theorem dX8_done_176 : decode cX8_done 176 = .ok (.invokevirtual 267, 3) := by decide +kernel
theorem dX8_done_179 : decode cX8_done 179 = .ok (.invokevirtual 160, 3) := by decide +kernel
theorem dX8_done_182 : decode cX8_done 182 = .ok (.pop, 1) := by decide +kernel
theorem dX8_done_183 : decode cX8_done 183 = .ok (.iinc 4 1, 3) := by decide +kernel
theorem dX8_done_186 : decode cX8_done 186 = .ok (.goto (-27), 3) := by decide +kernel
theorem dX8_done_189 : decode cX8_done 189 = .ok (.iload_n 2, 1) := by decide +kernel
theorem dX8_done_190 : decode cX8_done 190 = .ok (.iconst 1, 1) := by decide +kernel
theorem dX8_done_191 : decode cX8_done 191 = .ok (.iload_n 3, 1) := by decide +kernel
theorem dX8_done_192 : decode cX8_done 192 = .ok (.invokestatic 255, 3) := by decide +kernel
theorem dX8_done_195 : decode cX8_done 195 = .ok (.iadd, 1) := by decide +kernel
theorem dX8_done_196 : decode cX8_done 196 = .ok (.iadd, 1) := by decide +kernel
theorem dX8_done_197 : decode cX8_done 197 = .ok (.istore_n 2, 1) := by decide +kernel
theorem dX8_done_198 : decode cX8_done 198 = .ok (.iinc 1 1, 3) := by decide +kernel
theorem dX8_done_201 : decode cX8_done 201 = .ok (.goto (-180), 3) := by decide +kernel
theorem dX8_done_204 : decode cX8_done 204 = .ok (.iload_n 1, 1) := by decide +kernel
theorem dX8_done_205 : decode cX8_done 205 = .ok (.ireturn, 1) := by decide +kernel
set_option maxRecDepth 20000 in
theorem ggX8_keep_X8_in : GoodIn wsX8_keep wsX8_in := goodIn_r _ [20] (by decide +kernel) (by decide +kernel)
set_option maxRecDepth 20000 in
theorem gX8_keep_X8_in : GoodIn wsX8_keep (va_wsS RX8 123 yX8_in wsX8_in) := goodIn_app (goodIn_of _ (by decide +kernel)) ggX8_keep_X8_in
theorem dX8_keep_0 : decode cX8_keep 0 = .ok (.aload_n 0, 1) := by decide +kernel
theorem dX8_keep_1 : decode cX8_keep 1 = .ok (.iconst 0, 1) := by decide +kernel
theorem dX8_keep_2 : decode cX8_keep 2 = .ok (.putfield 120, 3) := by decide +kernel
theorem dX8_keep_5 : decode cX8_keep 5 = .ok (.iload_n 1, 1) := by decide +kernel
theorem dX8_keep_6 : decode cX8_keep 6 = .ok (.i2l, 1) := by decide +kernel
theorem dX8_keep_7 : decode cX8_keep 7 = .ok (.lconst 0, 1) := by decide +kernel
theorem dX8_keep_8 : decode cX8_keep 8 = .ok (.lconst 1, 1) := by decide +kernel
theorem dX8_keep_9 : decode cX8_keep 9 = .ok (.invokestatic 123, 3) := by decide +kernel
theorem dX8_keep_12 : decode cX8_keep 12 = .ok (.ifCond .ne 5, 3) := by decide +kernel
theorem dX8_keep_15 : decode cX8_keep 15 = .ok (.iconst (-1), 1) := by decide +kernel
theorem dX8_keep_16 : decode cX8_keep 16 = .ok (.ireturn, 1) := by decide +kernel
theorem dX8_keep_17 : decode cX8_keep 17 = .ok (.aload_n 0, 1) := by decide +kernel
theorem dX8_keep_18 : decode cX8_keep 18 = .ok (.getfield 65, 3) := by decide +kernel
theorem dX8_keep_21 : decode cX8_keep 21 = .ok (.iload_n 1, 1) := by decide +kernel
theorem dX8_keep_22 : decode cX8_keep 22 = .ok (.iconst 1, 1) := by decide +kernel
theorem dX8_keep_23 : decode cX8_keep 23 = .ok (.bastore, 1) := by decide +kernel
theorem dX8_keep_24 : decode cX8_keep 24 = .ok (.aload_n 0, 1) := by decide +kernel
theorem dX8_keep_25 : decode cX8_keep 25 = .ok (.getfield 62, 3) := by decide +kernel
theorem dX8_keep_28 : decode cX8_keep 28 = .ok (.iload_n 1, 1) := by decide +kernel
theorem dX8_keep_29 : decode cX8_keep 29 = .ok (.aload_n 0, 1) := by decide +kernel
theorem dX8_keep_30 : decode cX8_keep 30 = .ok (.getfield 131, 3) := by decide +kernel
theorem dX8_keep_33 : decode cX8_keep 33 = .ok (.iastore, 1) := by decide +kernel
theorem dX8_keep_34 : decode cX8_keep 34 = .ok (.iconst 0, 1) := by decide +kernel
theorem dX8_keep_35 : decode cX8_keep 35 = .ok (.istore_n 2, 1) := by decide +kernel
theorem dX8_keep_36 : decode cX8_keep 36 = .ok (.iload_n 2, 1) := by decide +kernel
theorem dX8_keep_37 : decode cX8_keep 37 = .ok (.bipush 40, 2) := by decide +kernel
theorem dX8_keep_39 : decode cX8_keep 39 = .ok (.if_icmp .ge 94, 3) := by decide +kernel
theorem dX8_keep_42 : decode cX8_keep 42 = .ok (.aload_n 0, 1) := by decide +kernel
theorem dX8_keep_43 : decode cX8_keep 43 = .ok (.getfield 69, 3) := by decide +kernel
theorem dX8_keep_46 : decode cX8_keep 46 = .ok (.bipush 40, 2) := by decide +kernel
theorem dX8_keep_48 : decode cX8_keep 48 = .ok (.iload_n 1, 1) := by decide +kernel
theorem dX8_keep_49 : decode cX8_keep 49 = .ok (.imul, 1) := by decide +kernel
theorem dX8_keep_50 : decode cX8_keep 50 = .ok (.iload_n 2, 1) := by decide +kernel
theorem dX8_keep_51 : decode cX8_keep 51 = .ok (.iadd, 1) := by decide +kernel
theorem dX8_keep_52 : decode cX8_keep 52 = .ok (.aload_n 0, 1) := by decide +kernel
theorem dX8_keep_53 : decode cX8_keep 53 = .ok (.getfield 26, 3) := by decide +kernel
theorem dX8_keep_56 : decode cX8_keep 56 = .ok (.iload_n 2, 1) := by decide +kernel
theorem dX8_keep_57 : decode cX8_keep 57 = .ok (.iaload, 1) := by decide +kernel
theorem dX8_keep_58 : decode cX8_keep 58 = .ok (.iastore, 1) := by decide +kernel
theorem dX8_keep_59 : decode cX8_keep 59 = .ok (.aload_n 0, 1) := by decide +kernel
theorem dX8_keep_60 : decode cX8_keep 60 = .ok (.getfield 72, 3) := by decide +kernel
theorem dX8_keep_63 : decode cX8_keep 63 = .ok (.bipush 40, 2) := by decide +kernel
theorem dX8_keep_65 : decode cX8_keep 65 = .ok (.iload_n 1, 1) := by decide +kernel
theorem dX8_keep_66 : decode cX8_keep 66 = .ok (.imul, 1) := by decide +kernel
theorem dX8_keep_67 : decode cX8_keep 67 = .ok (.iload_n 2, 1) := by decide +kernel
theorem dX8_keep_68 : decode cX8_keep 68 = .ok (.iadd, 1) := by decide +kernel
theorem dX8_keep_69 : decode cX8_keep 69 = .ok (.aload_n 0, 1) := by decide +kernel
theorem dX8_keep_70 : decode cX8_keep 70 = .ok (.getfield 29, 3) := by decide +kernel
theorem dX8_keep_73 : decode cX8_keep 73 = .ok (.iload_n 2, 1) := by decide +kernel
theorem dX8_keep_74 : decode cX8_keep 74 = .ok (.iaload, 1) := by decide +kernel
theorem dX8_keep_75 : decode cX8_keep 75 = .ok (.iastore, 1) := by decide +kernel
theorem dX8_keep_76 : decode cX8_keep 76 = .ok (.aload_n 0, 1) := by decide +kernel
theorem dX8_keep_77 : decode cX8_keep 77 = .ok (.getfield 75, 3) := by decide +kernel
theorem dX8_keep_80 : decode cX8_keep 80 = .ok (.bipush 40, 2) := by decide +kernel
theorem dX8_keep_82 : decode cX8_keep 82 = .ok (.iload_n 1, 1) := by decide +kernel
theorem dX8_keep_83 : decode cX8_keep 83 = .ok (.imul, 1) := by decide +kernel
theorem dX8_keep_84 : decode cX8_keep 84 = .ok (.iload_n 2, 1) := by decide +kernel
theorem dX8_keep_85 : decode cX8_keep 85 = .ok (.iadd, 1) := by decide +kernel
theorem dX8_keep_86 : decode cX8_keep 86 = .ok (.aload_n 0, 1) := by decide +kernel
theorem dX8_keep_87 : decode cX8_keep 87 = .ok (.getfield 32, 3) := by decide +kernel
theorem dX8_keep_90 : decode cX8_keep 90 = .ok (.iload_n 2, 1) := by decide +kernel
theorem dX8_keep_91 : decode cX8_keep 91 = .ok (.iaload, 1) := by decide +kernel
theorem dX8_keep_92 : decode cX8_keep 92 = .ok (.iastore, 1) := by decide +kernel
theorem dX8_keep_93 : decode cX8_keep 93 = .ok (.aload_n 0, 1) := by decide +kernel
theorem dX8_keep_94 : decode cX8_keep 94 = .ok (.getfield 78, 3) := by decide +kernel
theorem dX8_keep_97 : decode cX8_keep 97 = .ok (.bipush 40, 2) := by decide +kernel
theorem dX8_keep_99 : decode cX8_keep 99 = .ok (.iload_n 1, 1) := by decide +kernel
theorem dX8_keep_100 : decode cX8_keep 100 = .ok (.imul, 1) := by decide +kernel
theorem dX8_keep_101 : decode cX8_keep 101 = .ok (.iload_n 2, 1) := by decide +kernel
theorem dX8_keep_102 : decode cX8_keep 102 = .ok (.iadd, 1) := by decide +kernel
theorem dX8_keep_103 : decode cX8_keep 103 = .ok (.aload_n 0, 1) := by decide +kernel
theorem dX8_keep_104 : decode cX8_keep 104 = .ok (.getfield 35, 3) := by decide +kernel
theorem dX8_keep_107 : decode cX8_keep 107 = .ok (.iload_n 2, 1) := by decide +kernel
theorem dX8_keep_108 : decode cX8_keep 108 = .ok (.iaload, 1) := by decide +kernel
theorem dX8_keep_109 : decode cX8_keep 109 = .ok (.iastore, 1) := by decide +kernel
theorem dX8_keep_110 : decode cX8_keep 110 = .ok (.aload_n 0, 1) := by decide +kernel
theorem dX8_keep_111 : decode cX8_keep 111 = .ok (.getfield 81, 3) := by decide +kernel
theorem dX8_keep_114 : decode cX8_keep 114 = .ok (.bipush 40, 2) := by decide +kernel
theorem dX8_keep_116 : decode cX8_keep 116 = .ok (.iload_n 1, 1) := by decide +kernel
theorem dX8_keep_117 : decode cX8_keep 117 = .ok (.imul, 1) := by decide +kernel
theorem dX8_keep_118 : decode cX8_keep 118 = .ok (.iload_n 2, 1) := by decide +kernel
theorem dX8_keep_119 : decode cX8_keep 119 = .ok (.iadd, 1) := by decide +kernel
theorem dX8_keep_120 : decode cX8_keep 120 = .ok (.aload_n 0, 1) := by decide +kernel
theorem dX8_keep_121 : decode cX8_keep 121 = .ok (.getfield 38, 3) := by decide +kernel
theorem dX8_keep_124 : decode cX8_keep 124 = .ok (.iload_n 2, 1) := by decide +kernel
theorem dX8_keep_125 : decode cX8_keep 125 = .ok (.iaload, 1) := by decide +kernel
theorem dX8_keep_126 : decode cX8_keep 126 = .ok (.iastore, 1) := by decide +kernel
theorem dX8_keep_127 : decode cX8_keep 127 = .ok (.iinc 2 1, 3) := by decide +kernel
theorem dX8_keep_130 : decode cX8_keep 130 = .ok (.goto (-94), 3) := by decide +kernel
theorem dX8_keep_133 : decode cX8_keep 133 = .ok (.iconst 0, 1) := by decide +kernel
theorem dX8_keep_134 : decode cX8_keep 134 = .ok (.istore_n 2, 1) := by decide +kernel
theorem dX8_keep_135 : decode cX8_keep 135 = .ok (.iload_n 2, 1) := by decide +kernel
theorem dX8_keep_136 : decode cX8_keep 136 = .ok (.sipush 240, 3) := by decide +kernel
theorem dX8_keep_139 : decode cX8_keep 139 = .ok (.if_icmp .ge 27, 3) := by decide +kernel
theorem dX8_keep_142 : decode cX8_keep 142 = .ok (.aload_n 0, 1) := by decide +kernel
theorem dX8_keep_143 : decode cX8_keep 143 = .ok (.getfield 84, 3) := by decide +kernel
theorem dX8_keep_146 : decode cX8_keep 146 = .ok (.sipush 240, 3) := by decide +kernel
theorem dX8_keep_149 : decode cX8_keep 149 = .ok (.iload_n 1, 1) := by decide +kernel
theorem dX8_keep_150 : decode cX8_keep 150 = .ok (.imul, 1) := by decide +kernel
theorem dX8_keep_151 : decode cX8_keep 151 = .ok (.iload_n 2, 1) := by decide +kernel
theorem dX8_keep_152 : decode cX8_keep 152 = .ok (.iadd, 1) := by decide +kernel
theorem dX8_keep_153 : decode cX8_keep 153 = .ok (.aload_n 0, 1) := by decide +kernel
theorem dX8_keep_154 : decode cX8_keep 154 = .ok (.getfield 41, 3) := by decide +kernel
theorem dX8_keep_157 : decode cX8_keep 157 = .ok (.iload_n 2, 1) := by decide +kernel
theorem dX8_keep_158 : decode cX8_keep 158 = .ok (.iaload, 1) := by decide +kernel
theorem dX8_keep_159 : decode cX8_keep 159 = .ok (.iastore, 1) := by decide +kernel
theorem dX8_keep_160 : decode cX8_keep 160 = .ok (.iinc 2 1, 3) := by decide +kernel
theorem dX8_keep_163 : decode cX8_keep 163 = .ok (.goto (-28), 3) := by decide +kernel
theorem dX8_keep_166 : decode cX8_keep 166 = .ok (.aload_n 0, 1) := by decide +kernel
theorem dX8_keep_167 : decode cX8_keep 167 = .ok (.getfield 131, 3) := by decide +kernel
theorem dX8_keep_170 : decode cX8_keep 170 = .ok (.ireturn, 1) := by decide +kernel
theorem dX8_isBarred_0 : decode cX8_isBarred 0 = .ok (.iconst 0, 1) := by decide +kernel
theorem dX8_isBarred_1 : decode cX8_isBarred 1 = .ok (.istore_n 2, 1) := by decide +kernel
theorem dX8_isBarred_2 : decode cX8_isBarred 2 = .ok (.iconst 0, 1) := by decide +kernel
theorem dX8_isBarred_3 : decode cX8_isBarred 3 = .ok (.istore_n 3, 1) := by decide +kernel
theorem dX8_isBarred_4 : decode cX8_isBarred 4 = .ok (.iload_n 3, 1) := by decide +kernel
theorem dX8_isBarred_5 : decode cX8_isBarred 5 = .ok (.aload_n 0, 1) := by decide +kernel
theorem dX8_isBarred_6 : decode cX8_isBarred 6 = .ok (.getfield 62, 3) := by decide +kernel
theorem dX8_isBarred_9 : decode cX8_isBarred 9 = .ok (.iload_n 1, 1) := by decide +kernel
theorem dX8_isBarred_10 : decode cX8_isBarred 10 = .ok (.iaload, 1) := by decide +kernel
theorem dX8_isBarred_11 : decode cX8_isBarred 11 = .ok (.if_icmp .ge 81, 3) := by decide +kernel
theorem dX8_isBarred_14 : decode cX8_isBarred 14 = .ok (.iconst 0, 1) := by decide +kernel
theorem dX8_isBarred_15 : decode cX8_isBarred 15 = .ok (.istore 4, 2) := by decide +kernel
theorem dX8_isBarred_17 : decode cX8_isBarred 17 = .ok (.iload 4, 2) := by decide +kernel
theorem dX8_isBarred_19 : decode cX8_isBarred 19 = .ok (.bipush 6, 2) := by decide +kernel
theorem dX8_isBarred_21 : decode cX8_isBarred 21 = .ok (.if_icmp .ge 65, 3) := by decide +kernel
theorem dX8_isBarred_24 : decode cX8_isBarred 24 = .ok (.iload_n 2, 1) := by decide +kernel
theorem dX8_isBarred_25 : decode cX8_isBarred 25 = .ok (.ifCond .ne 49, 3) := by decide +kernel
theorem dX8_isBarred_28 : decode cX8_isBarred 28 = .ok (.aload_n 0, 1) := by decide +kernel
theorem dX8_isBarred_29 : decode cX8_isBarred 29 = .ok (.getfield 84, 3) := by decide +kernel
theorem dX8_isBarred_32 : decode cX8_isBarred 32 = .ok (.sipush 240, 3) := by decide +kernel
theorem dX8_isBarred_35 : decode cX8_isBarred 35 = .ok (.iload_n 1, 1) := by decide +kernel
theorem dX8_isBarred_36 : decode cX8_isBarred 36 = .ok (.imul, 1) := by decide +kernel
theorem dX8_isBarred_37 : decode cX8_isBarred 37 = .ok (.bipush 6, 2) := by decide +kernel
theorem dX8_isBarred_39 : decode cX8_isBarred 39 = .ok (.iload_n 3, 1) := by decide +kernel
theorem dX8_isBarred_40 : decode cX8_isBarred 40 = .ok (.imul, 1) := by decide +kernel
theorem dX8_isBarred_41 : decode cX8_isBarred 41 = .ok (.iadd, 1) := by decide +kernel
theorem dX8_isBarred_42 : decode cX8_isBarred 42 = .ok (.iload 4, 2) := by decide +kernel
theorem dX8_isBarred_44 : decode cX8_isBarred 44 = .ok (.iadd, 1) := by decide +kernel
theorem dX8_isBarred_45 : decode cX8_isBarred 45 = .ok (.iaload, 1) := by decide +kernel
theorem dX8_isBarred_46 : decode cX8_isBarred 46 = .ok (.ifCond .le 32, 3) := by decide +kernel
theorem dX8_isBarred_49 : decode cX8_isBarred 49 = .ok (.aload_n 0, 1) := by decide +kernel
theorem dX8_isBarred_50 : decode cX8_isBarred 50 = .ok (.getfield 19, 3) := by decide +kernel
theorem dX8_isBarred_53 : decode cX8_isBarred 53 = .ok (.bipush 6, 2) := by decide +kernel
theorem dX8_isBarred_55 : decode cX8_isBarred 55 = .ok (.aload_n 0, 1) := by decide +kernel
theorem dX8_isBarred_56 : decode cX8_isBarred 56 = .ok (.getfield 69, 3) := by decide +kernel
theorem dX8_isBarred_59 : decode cX8_isBarred 59 = .ok (.bipush 40, 2) := by decide +kernel
theorem dX8_isBarred_61 : decode cX8_isBarred 61 = .ok (.iload_n 1, 1) := by decide +kernel
theorem dX8_isBarred_62 : decode cX8_isBarred 62 = .ok (.imul, 1) := by decide +kernel
theorem dX8_isBarred_63 : decode cX8_isBarred 63 = .ok (.iload_n 3, 1) := by decide +kernel
theorem dX8_isBarred_64 : decode cX8_isBarred 64 = .ok (.iadd, 1) := by decide +kernel
theorem dX8_isBarred_65 : decode cX8_isBarred 65 = .ok (.iaload, 1) := by decide +kernel
theorem dX8_isBarred_66 : decode cX8_isBarred 66 = .ok (.imul, 1) := by decide +kernel
theorem dX8_isBarred_67 : decode cX8_isBarred 67 = .ok (.iload 4, 2) := by decide +kernel
theorem dX8_isBarred_69 : decode cX8_isBarred 69 = .ok (.iadd, 1) := by decide +kernel
theorem dX8_isBarred_70 : decode cX8_isBarred 70 = .ok (.iaload, 1) := by decide +kernel
theorem dX8_isBarred_71 : decode cX8_isBarred 71 = .ok (.ifCond .eq 7, 3) := by decide +kernel
theorem dX8_isBarred_74 : decode cX8_isBarred 74 = .ok (.iconst 1, 1) := by decide +kernel
theorem dX8_isBarred_75 : decode cX8_isBarred 75 = .ok (.goto 4, 3) := by decide +kernel
theorem dX8_isBarred_78 : decode cX8_isBarred 78 = .ok (.iconst 0, 1) := by decide +kernel
theorem dX8_isBarred_79 : decode cX8_isBarred 79 = .ok (.istore_n 2, 1) := by decide +kernel
theorem dX8_isBarred_80 : decode cX8_isBarred 80 = .ok (.iinc 4 1, 3) := by decide +kernel
theorem dX8_isBarred_83 : decode cX8_isBarred 83 = .ok (.goto (-66), 3) := by decide +kernel
theorem dX8_isBarred_86 : decode cX8_isBarred 86 = .ok (.iinc 3 1, 3) := by decide +kernel
theorem dX8_isBarred_89 : decode cX8_isBarred 89 = .ok (.goto (-85), 3) := by decide +kernel
theorem dX8_isBarred_92 : decode cX8_isBarred 92 = .ok (.iload_n 2, 1) := by decide +kernel
theorem dX8_isBarred_93 : decode cX8_isBarred 93 = .ok (.ireturn, 1) := by decide +kernel
set_option maxRecDepth 20000 in
theorem ggX8_again_X8_in : GoodIn wsX8_again wsX8_in := goodIn_r _ [20] (by decide +kernel) (by decide +kernel)
set_option maxRecDepth 20000 in
theorem gX8_again_X8_in : GoodIn wsX8_again (va_wsS RX8 123 yX8_in wsX8_in) := goodIn_app (goodIn_of _ (by decide +kernel)) ggX8_again_X8_in
set_option maxRecDepth 20000 in
theorem ggX8_again_X8_isBarred : GoodIn wsX8_again wsX8_isBarred := goodIn_r _ [24, 3, 16, 25, 6, 26, 27, 28, 29, 30, 31, 32, 33, 34, 35, 36, 37, 38, 39, 40, 41, 42, 43, 44, 45, 46, 47, 48, 49, 50, 51, 52, 53, 54, 55, 56, 57, 58, 59, 60, 61, 62, 63, 64, 65, 66, 67] (by decide +kernel) (by decide +kernel)
set_option maxRecDepth 20000 in
theorem gX8_again_X8_isBarred : GoodIn wsX8_again (wsV RX8 270 RX8 yX8_isBarred wsX8_isBarred) := goodIn_app (goodIn_of _ (by decide +kernel)) ggX8_again_X8_isBarred
theorem dX8_again_0 : decode cX8_again 0 = .ok (.aload_n 0, 1) := by decide +kernel
theorem dX8_again_1 : decode cX8_again 1 = .ok (.iconst 0, 1) := by decide +kernel
theorem dX8_again_2 : decode cX8_again 2 = .ok (.putfield 120, 3) := by decide +kernel
theorem dX8_again_5 : decode cX8_again 5 = .ok (.iload_n 1, 1) := by decide +kernel
theorem dX8_again_6 : decode cX8_again 6 = .ok (.i2l, 1) := by decide +kernel
theorem dX8_again_7 : decode cX8_again 7 = .ok (.lconst 0, 1) := by decide +kernel
theorem dX8_again_8 : decode cX8_again 8 = .ok (.lconst 1, 1) := by decide +kernel
theorem dX8_again_9 : decode cX8_again 9 = .ok (.invokestatic 123, 3) := by decide +kernel
theorem dX8_again_12 : decode cX8_again 12 = .ok (.ifCond .ne 5, 3) := by decide +kernel
theorem dX8_again_15 : decode cX8_again 15 = .ok (.iconst (-1), 1) := by decide +kernel
theorem dX8_again_16 : decode cX8_again 16 = .ok (.ireturn, 1) := by decide +kernel
theorem dX8_again_17 : decode cX8_again 17 = .ok (.aload_n 0, 1) := by decide +kernel
theorem dX8_again_18 : decode cX8_again 18 = .ok (.getfield 65, 3) := by decide +kernel
theorem dX8_again_21 : decode cX8_again 21 = .ok (.iload_n 1, 1) := by decide +kernel
theorem dX8_again_22 : decode cX8_again 22 = .ok (.baload, 1) := by decide +kernel
theorem dX8_again_23 : decode cX8_again 23 = .ok (.ifCond .eq 11, 3) := by decide +kernel
theorem dX8_again_26 : decode cX8_again 26 = .ok (.aload_n 0, 1) := by decide +kernel
theorem dX8_again_27 : decode cX8_again 27 = .ok (.iload_n 1, 1) := by decide +kernel
theorem dX8_again_28 : decode cX8_again 28 = .ok (.invokevirtual 270, 3) := by decide +kernel
theorem dX8_again_31 : decode cX8_again 31 = .ok (.ifCond .eq 6, 3) := by decide +kernel
theorem dX8_again_34 : decode cX8_again 34 = .ok (.bipush (-3), 2) := by decide +kernel
theorem dX8_again_36 : decode cX8_again 36 = .ok (.ireturn, 1) := by decide +kernel
theorem dX8_again_37 : decode cX8_again 37 = .ok (.aload_n 0, 1) := by decide +kernel
theorem dX8_again_38 : decode cX8_again 38 = .ok (.aload_n 0, 1) := by decide +kernel
theorem dX8_again_39 : decode cX8_again 39 = .ok (.getfield 62, 3) := by decide +kernel
theorem dX8_again_42 : decode cX8_again 42 = .ok (.iload_n 1, 1) := by decide +kernel
theorem dX8_again_43 : decode cX8_again 43 = .ok (.iaload, 1) := by decide +kernel
theorem dX8_again_44 : decode cX8_again 44 = .ok (.putfield 131, 3) := by decide +kernel
theorem dX8_again_47 : decode cX8_again 47 = .ok (.iconst 0, 1) := by decide +kernel
theorem dX8_again_48 : decode cX8_again 48 = .ok (.istore_n 2, 1) := by decide +kernel
theorem dX8_again_49 : decode cX8_again 49 = .ok (.iload_n 2, 1) := by decide +kernel
theorem dX8_again_50 : decode cX8_again 50 = .ok (.bipush 40, 2) := by decide +kernel
theorem dX8_again_52 : decode cX8_again 52 = .ok (.if_icmp .ge 94, 3) := by decide +kernel
theorem dX8_again_55 : decode cX8_again 55 = .ok (.aload_n 0, 1) := by decide +kernel
theorem dX8_again_56 : decode cX8_again 56 = .ok (.getfield 26, 3) := by decide +kernel
theorem dX8_again_59 : decode cX8_again 59 = .ok (.iload_n 2, 1) := by decide +kernel
theorem dX8_again_60 : decode cX8_again 60 = .ok (.aload_n 0, 1) := by decide +kernel
theorem dX8_again_61 : decode cX8_again 61 = .ok (.getfield 69, 3) := by decide +kernel
theorem dX8_again_64 : decode cX8_again 64 = .ok (.bipush 40, 2) := by decide +kernel
theorem dX8_again_66 : decode cX8_again 66 = .ok (.iload_n 1, 1) := by decide +kernel
theorem dX8_again_67 : decode cX8_again 67 = .ok (.imul, 1) := by decide +kernel
theorem dX8_again_68 : decode cX8_again 68 = .ok (.iload_n 2, 1) := by decide +kernel
theorem dX8_again_69 : decode cX8_again 69 = .ok (.iadd, 1) := by decide +kernel
theorem dX8_again_70 : decode cX8_again 70 = .ok (.iaload, 1) := by decide +kernel
theorem dX8_again_71 : decode cX8_again 71 = .ok (.iastore, 1) := by decide +kernel
theorem dX8_again_72 : decode cX8_again 72 = .ok (.aload_n 0, 1) := by decide +kernel
theorem dX8_again_73 : decode cX8_again 73 = .ok (.getfield 29, 3) := by decide +kernel
theorem dX8_again_76 : decode cX8_again 76 = .ok (.iload_n 2, 1) := by decide +kernel
theorem dX8_again_77 : decode cX8_again 77 = .ok (.aload_n 0, 1) := by decide +kernel
theorem dX8_again_78 : decode cX8_again 78 = .ok (.getfield 72, 3) := by decide +kernel
theorem dX8_again_81 : decode cX8_again 81 = .ok (.bipush 40, 2) := by decide +kernel
theorem dX8_again_83 : decode cX8_again 83 = .ok (.iload_n 1, 1) := by decide +kernel
theorem dX8_again_84 : decode cX8_again 84 = .ok (.imul, 1) := by decide +kernel
theorem dX8_again_85 : decode cX8_again 85 = .ok (.iload_n 2, 1) := by decide +kernel
theorem dX8_again_86 : decode cX8_again 86 = .ok (.iadd, 1) := by decide +kernel
theorem dX8_again_87 : decode cX8_again 87 = .ok (.iaload, 1) := by decide +kernel
theorem dX8_again_88 : decode cX8_again 88 = .ok (.iastore, 1) := by decide +kernel
theorem dX8_again_89 : decode cX8_again 89 = .ok (.aload_n 0, 1) := by decide +kernel
theorem dX8_again_90 : decode cX8_again 90 = .ok (.getfield 32, 3) := by decide +kernel
theorem dX8_again_93 : decode cX8_again 93 = .ok (.iload_n 2, 1) := by decide +kernel
theorem dX8_again_94 : decode cX8_again 94 = .ok (.aload_n 0, 1) := by decide +kernel
theorem dX8_again_95 : decode cX8_again 95 = .ok (.getfield 75, 3) := by decide +kernel
theorem dX8_again_98 : decode cX8_again 98 = .ok (.bipush 40, 2) := by decide +kernel
theorem dX8_again_100 : decode cX8_again 100 = .ok (.iload_n 1, 1) := by decide +kernel
theorem dX8_again_101 : decode cX8_again 101 = .ok (.imul, 1) := by decide +kernel
theorem dX8_again_102 : decode cX8_again 102 = .ok (.iload_n 2, 1) := by decide +kernel
theorem dX8_again_103 : decode cX8_again 103 = .ok (.iadd, 1) := by decide +kernel
theorem dX8_again_104 : decode cX8_again 104 = .ok (.iaload, 1) := by decide +kernel
theorem dX8_again_105 : decode cX8_again 105 = .ok (.iastore, 1) := by decide +kernel
theorem dX8_again_106 : decode cX8_again 106 = .ok (.aload_n 0, 1) := by decide +kernel
theorem dX8_again_107 : decode cX8_again 107 = .ok (.getfield 35, 3) := by decide +kernel
theorem dX8_again_110 : decode cX8_again 110 = .ok (.iload_n 2, 1) := by decide +kernel
theorem dX8_again_111 : decode cX8_again 111 = .ok (.aload_n 0, 1) := by decide +kernel
theorem dX8_again_112 : decode cX8_again 112 = .ok (.getfield 78, 3) := by decide +kernel
theorem dX8_again_115 : decode cX8_again 115 = .ok (.bipush 40, 2) := by decide +kernel
theorem dX8_again_117 : decode cX8_again 117 = .ok (.iload_n 1, 1) := by decide +kernel
theorem dX8_again_118 : decode cX8_again 118 = .ok (.imul, 1) := by decide +kernel
theorem dX8_again_119 : decode cX8_again 119 = .ok (.iload_n 2, 1) := by decide +kernel
theorem dX8_again_120 : decode cX8_again 120 = .ok (.iadd, 1) := by decide +kernel
theorem dX8_again_121 : decode cX8_again 121 = .ok (.iaload, 1) := by decide +kernel
theorem dX8_again_122 : decode cX8_again 122 = .ok (.iastore, 1) := by decide +kernel
theorem dX8_again_123 : decode cX8_again 123 = .ok (.aload_n 0, 1) := by decide +kernel
theorem dX8_again_124 : decode cX8_again 124 = .ok (.getfield 38, 3) := by decide +kernel
theorem dX8_again_127 : decode cX8_again 127 = .ok (.iload_n 2, 1) := by decide +kernel
theorem dX8_again_128 : decode cX8_again 128 = .ok (.aload_n 0, 1) := by decide +kernel
theorem dX8_again_129 : decode cX8_again 129 = .ok (.getfield 81, 3) := by decide +kernel
theorem dX8_again_132 : decode cX8_again 132 = .ok (.bipush 40, 2) := by decide +kernel
theorem dX8_again_134 : decode cX8_again 134 = .ok (.iload_n 1, 1) := by decide +kernel
theorem dX8_again_135 : decode cX8_again 135 = .ok (.imul, 1) := by decide +kernel
theorem dX8_again_136 : decode cX8_again 136 = .ok (.iload_n 2, 1) := by decide +kernel
theorem dX8_again_137 : decode cX8_again 137 = .ok (.iadd, 1) := by decide +kernel
theorem dX8_again_138 : decode cX8_again 138 = .ok (.iaload, 1) := by decide +kernel
theorem dX8_again_139 : decode cX8_again 139 = .ok (.iastore, 1) := by decide +kernel
theorem dX8_again_140 : decode cX8_again 140 = .ok (.iinc 2 1, 3) := by decide +kernel
theorem dX8_again_143 : decode cX8_again 143 = .ok (.goto (-94), 3) := by decide +kernel
theorem dX8_again_146 : decode cX8_again 146 = .ok (.iconst 0, 1) := by decide +kernel
theorem dX8_again_147 : decode cX8_again 147 = .ok (.istore_n 2, 1) := by decide +kernel
theorem dX8_again_148 : decode cX8_again 148 = .ok (.iload_n 2, 1) := by decide +kernel
theorem dX8_again_149 : decode cX8_again 149 = .ok (.sipush 240, 3) := by decide +kernel
theorem dX8_again_152 : decode cX8_again 152 = .ok (.if_icmp .ge 27, 3) := by decide +kernel
theorem dX8_again_155 : decode cX8_again 155 = .ok (.aload_n 0, 1) := by decide +kernel
theorem dX8_again_156 : decode cX8_again 156 = .ok (.getfield 41, 3) := by decide +kernel
theorem dX8_again_159 : decode cX8_again 159 = .ok (.iload_n 2, 1) := by decide +kernel
theorem dX8_again_160 : decode cX8_again 160 = .ok (.aload_n 0, 1) := by decide +kernel
theorem dX8_again_161 : decode cX8_again 161 = .ok (.getfield 84, 3) := by decide +kernel
theorem dX8_again_164 : decode cX8_again 164 = .ok (.sipush 240, 3) := by decide +kernel
theorem dX8_again_167 : decode cX8_again 167 = .ok (.iload_n 1, 1) := by decide +kernel
theorem dX8_again_168 : decode cX8_again 168 = .ok (.imul, 1) := by decide +kernel
theorem dX8_again_169 : decode cX8_again 169 = .ok (.iload_n 2, 1) := by decide +kernel
theorem dX8_again_170 : decode cX8_again 170 = .ok (.iadd, 1) := by decide +kernel
theorem dX8_again_171 : decode cX8_again 171 = .ok (.iaload, 1) := by decide +kernel
theorem dX8_again_172 : decode cX8_again 172 = .ok (.iastore, 1) := by decide +kernel
theorem dX8_again_173 : decode cX8_again 173 = .ok (.iinc 2 1, 3) := by decide +kernel
theorem dX8_again_176 : decode cX8_again 176 = .ok (.goto (-28), 3) := by decide +kernel
theorem dX8_again_179 : decode cX8_again 179 = .ok (.aload_n 0, 1) := by decide +kernel
theorem dX8_again_180 : decode cX8_again 180 = .ok (.getfield 131, 3) := by decide +kernel
theorem dX8_again_183 : decode cX8_again 183 = .ok (.ireturn, 1) := by decide +kernel
set_option maxRecDepth 20000 in
theorem ggX8_count_X8_leftOf : GoodIn wsX8_count wsX8_leftOf := goodIn_r _ [11, 12, 13, 14, 15, 16, 17, 18, 19, 20, 21, 22, 23, 24, 25, 26, 27, 28, 29, 30, 31, 32, 33, 34, 35, 36, 37, 38, 39, 40, 41, 42, 43, 44, 45, 46, 47, 48, 49, 50, 51, 52, 53, 54] (by decide +kernel) (by decide +kernel)
set_option maxRecDepth 20000 in
theorem gX8_count_X8_leftOf : GoodIn wsX8_count (wsV RX8 156 RX8 yX8_leftOf wsX8_leftOf) := goodIn_app (goodIn_of _ (by decide +kernel)) ggX8_count_X8_leftOf
theorem dX8_count_0 : decode cX8_count 0 = .ok (.aload_n 0, 1) := by decide +kernel
theorem dX8_count_1 : decode cX8_count 1 = .ok (.iconst 0, 1) := by decide +kernel
theorem dX8_count_2 : decode cX8_count 2 = .ok (.putfield 120, 3) := by decide +kernel
theorem dX8_count_5 : decode cX8_count 5 = .ok (.iconst 0, 1) := by decide +kernel
theorem dX8_count_6 : decode cX8_count 6 = .ok (.istore_n 2, 1) := by decide +kernel
theorem dX8_count_7 : decode cX8_count 7 = .ok (.iconst 0, 1) := by decide +kernel
theorem dX8_count_8 : decode cX8_count 8 = .ok (.istore_n 3, 1) := by decide +kernel
theorem dX8_count_9 : decode cX8_count 9 = .ok (.iload_n 3, 1) := by decide +kernel
theorem dX8_count_10 : decode cX8_count 10 = .ok (.aload_n 0, 1) := by decide +kernel
theorem dX8_count_11 : decode cX8_count 11 = .ok (.getfield 131, 3) := by decide +kernel
theorem dX8_count_14 : decode cX8_count 14 = .ok (.if_icmp .ge 25, 3) := by decide +kernel
theorem dX8_count_17 : decode cX8_count 17 = .ok (.iload_n 2, 1) := by decide +kernel
theorem dX8_count_18 : decode cX8_count 18 = .ok (.aload_n 0, 1) := by decide +kernel
theorem dX8_count_19 : decode cX8_count 19 = .ok (.iload_n 3, 1) := by decide +kernel
theorem dX8_count_20 : decode cX8_count 20 = .ok (.invokevirtual 156, 3) := by decide +kernel
theorem dX8_count_23 : decode cX8_count 23 = .ok (.ifCond .le 7, 3) := by decide +kernel
theorem dX8_count_26 : decode cX8_count 26 = .ok (.iconst 1, 1) := by decide +kernel
theorem dX8_count_27 : decode cX8_count 27 = .ok (.goto 4, 3) := by decide +kernel
theorem dX8_count_30 : decode cX8_count 30 = .ok (.iconst 0, 1) := by decide +kernel
theorem dX8_count_31 : decode cX8_count 31 = .ok (.iadd, 1) := by decide +kernel
theorem dX8_count_32 : decode cX8_count 32 = .ok (.istore_n 2, 1) := by decide +kernel
theorem dX8_count_33 : decode cX8_count 33 = .ok (.iinc 3 1, 3) := by decide +kernel
theorem dX8_count_36 : decode cX8_count 36 = .ok (.goto (-27), 3) := by decide +kernel
theorem dX8_count_39 : decode cX8_count 39 = .ok (.iconst 0, 1) := by decide +kernel
theorem dX8_count_40 : decode cX8_count 40 = .ok (.istore_n 3, 1) := by decide +kernel
theorem dX8_count_41 : decode cX8_count 41 = .ok (.iconst 0, 1) := by decide +kernel
theorem dX8_count_42 : decode cX8_count 42 = .ok (.istore 4, 2) := by decide +kernel
theorem dX8_count_44 : decode cX8_count 44 = .ok (.iload 4, 2) := by decide +kernel
theorem dX8_count_46 : decode cX8_count 46 = .ok (.bipush 36, 2) := by decide +kernel
theorem dX8_count_48 : decode cX8_count 48 = .ok (.if_icmp .ge 27, 3) := by decide +kernel
theorem dX8_count_51 : decode cX8_count 51 = .ok (.iload_n 3, 1) := by decide +kernel
theorem dX8_count_52 : decode cX8_count 52 = .ok (.aload_n 0, 1) := by decide +kernel
theorem dX8_count_53 : decode cX8_count 53 = .ok (.getfield 19, 3) := by decide +kernel
theorem dX8_count_56 : decode cX8_count 56 = .ok (.iload 4, 2) := by decide +kernel
theorem dX8_count_58 : decode cX8_count 58 = .ok (.iaload, 1) := by decide +kernel
theorem dX8_count_59 : decode cX8_count 59 = .ok (.ifCond .ne 7, 3) := by decide +kernel
theorem dX8_count_62 : decode cX8_count 62 = .ok (.iconst 0, 1) := by decide +kernel
theorem dX8_count_63 : decode cX8_count 63 = .ok (.goto 4, 3) := by decide +kernel
theorem dX8_count_66 : decode cX8_count 66 = .ok (.iconst 1, 1) := by decide +kernel
theorem dX8_count_67 : decode cX8_count 67 = .ok (.iadd, 1) := by decide +kernel
theorem dX8_count_68 : decode cX8_count 68 = .ok (.istore_n 3, 1) := by decide +kernel
theorem dX8_count_69 : decode cX8_count 69 = .ok (.iinc 4 1, 3) := by decide +kernel
theorem dX8_count_72 : decode cX8_count 72 = .ok (.goto (-28), 3) := by decide +kernel
theorem dX8_count_75 : decode cX8_count 75 = .ok (.iload_n 1, 1) := by decide +kernel
theorem dX8_count_76 : decode cX8_count 76 = .ok (.tableswitch 64 0 5 #[40, 45, 50, 55, 57, 59], 40) := by decide +kernel
theorem dX8_count_116 : decode cX8_count 116 = .ok (.aload_n 0, 1) := by decide +kernel
theorem dX8_count_117 : decode cX8_count 117 = .ok (.getfield 7, 3) := by decide +kernel
theorem dX8_count_120 : decode cX8_count 120 = .ok (.ireturn, 1) := by decide +kernel
theorem dX8_count_121 : decode cX8_count 121 = .ok (.aload_n 0, 1) := by decide +kernel
theorem dX8_count_122 : decode cX8_count 122 = .ok (.getfield 13, 3) := by decide +kernel
theorem dX8_count_125 : decode cX8_count 125 = .ok (.ireturn, 1) := by decide +kernel
theorem dX8_count_126 : decode cX8_count 126 = .ok (.aload_n 0, 1) := by decide +kernel
theorem dX8_count_127 : decode cX8_count 127 = .ok (.getfield 131, 3) := by decide +kernel
theorem dX8_count_130 : decode cX8_count 130 = .ok (.ireturn, 1) := by decide +kernel
theorem dX8_count_131 : decode cX8_count 131 = .ok (.iload_n 2, 1) := by decide +kernel
theorem dX8_count_132 : decode cX8_count 132 = .ok (.ireturn, 1) := by decide +kernel
theorem dX8_count_133 : decode cX8_count 133 = .ok (.iload_n 3, 1) := by decide +kernel
theorem dX8_count_134 : decode cX8_count 134 = .ok (.ireturn, 1) := by decide +kernel
theorem dX8_count_135 : decode cX8_count 135 = .ok (.aload_n 0, 1) := by decide +kernel
theorem dX8_count_136 : decode cX8_count 136 = .ok (.getfield 252, 3) := by decide +kernel
theorem dX8_count_139 : decode cX8_count 139 = .ok (.ireturn, 1) := by decide +kernel
theorem dX8_count_140 : decode cX8_count 140 = .ok (.bipush (-2), 2) := by decide +kernel
theorem dX8_count_142 : decode cX8_count 142 = .ok (.ireturn, 1) := by decide +kernel
