theorem dX11_lays_41 : decode cX11_lays 41 = .ok (.iload_n 2, 1) := by decide +kernel
theorem dX11_lays_42 : decode cX11_lays 42 = .ok (.aload_n 0, 1) := by decide +kernel
theorem dX11_lays_43 : decode cX11_lays 43 = .ok (.getfield 22, 3) := by decide +kernel
theorem dX11_lays_46 : decode cX11_lays 46 = .ok (.iconst 1, 1) := by decide +kernel
theorem dX11_lays_47 : decode cX11_lays 47 = .ok (.iaload, 1) := by decide +kernel
theorem dX11_lays_48 : decode cX11_lays 48 = .ok (.irem, 1) := by decide +kernel
theorem dX11_lays_49 : decode cX11_lays 49 = .ok (.istore 4, 2) := by decide +kernel
theorem dX11_lays_51 : decode cX11_lays 51 = .ok (.aload_n 0, 1) := by decide +kernel
theorem dX11_lays_52 : decode cX11_lays 52 = .ok (.iload_n 3, 1) := by decide +kernel
theorem dX11_lays_53 : decode cX11_lays 53 = .ok (.iload 4, 2) := by decide +kernel
theorem dX11_lays_55 : decode cX11_lays 55 = .ok (.iload_n 1, 1) := by decide +kernel
theorem dX11_lays_56 : decode cX11_lays 56 = .ok (.invokevirtual 127, 3) := by decide +kernel
theorem dX11_lays_59 : decode cX11_lays 59 = .ok (.ifCond .eq 24, 3) := by decide +kernel
theorem dX11_lays_62 : decode cX11_lays 62 = .ok (.iload_n 1, 1) := by decide +kernel
theorem dX11_lays_63 : decode cX11_lays 63 = .ok (.ifCond .eq 16, 3) := by decide +kernel
theorem dX11_lays_66 : decode cX11_lays 66 = .ok (.aload_n 0, 1) := by decide +kernel
theorem dX11_lays_67 : decode cX11_lays 67 = .ok (.iload_n 3, 1) := by decide +kernel
theorem dX11_lays_68 : decode cX11_lays 68 = .ok (.iload 4, 2) := by decide +kernel
theorem dX11_lays_70 : decode cX11_lays 70 = .ok (.iload_n 1, 1) := by decide +kernel
theorem dX11_lays_71 : decode cX11_lays 71 = .ok (.iconst 1, 1) := by decide +kernel
theorem dX11_lays_72 : decode cX11_lays 72 = .ok (.isub, 1) := by decide +kernel
theorem dX11_lays_73 : decode cX11_lays 73 = .ok (.invokevirtual 127, 3) := by decide +kernel
theorem dX11_lays_76 : decode cX11_lays 76 = .ok (.ifCond .ne 7, 3) := by decide +kernel
theorem dX11_lays_79 : decode cX11_lays 79 = .ok (.iconst 1, 1) := by decide +kernel
theorem dX11_lays_80 : decode cX11_lays 80 = .ok (.goto 4, 3) := by decide +kernel
theorem dX11_lays_83 : decode cX11_lays 83 = .ok (.iconst 0, 1) := by decide +kernel
theorem dX11_lays_84 : decode cX11_lays 84 = .ok (.istore 5, 2) := by decide +kernel
theorem dX11_lays_86 : decode cX11_lays 86 = .ok (.iload 5, 2) := by decide +kernel
theorem dX11_lays_88 : decode cX11_lays 88 = .ok (.ifCond .eq 149, 3) := by decide +kernel
theorem dX11_lays_91 : decode cX11_lays 91 = .ok (.aload_n 0, 1) := by decide +kernel
theorem dX11_lays_92 : decode cX11_lays 92 = .ok (.getfield 124, 3) := by decide +kernel
theorem dX11_lays_95 : decode cX11_lays 95 = .ok (.bipush 24, 2) := by decide +kernel
theorem dX11_lays_97 : decode cX11_lays 97 = .ok (.if_icmp .ge 140, 3) := by decide +kernel
theorem dX11_lays_100 : decode cX11_lays 100 = .ok (.iload_n 1, 1) := by decide +kernel
theorem dX11_lays_101 : decode cX11_lays 101 = .ok (.istore 6, 2) := by decide +kernel
theorem dX11_lays_103 : decode cX11_lays 103 = .ok (.iload 6, 2) := by decide +kernel
theorem dX11_lays_105 : decode cX11_lays 105 = .ok (.iconst 1, 1) := by decide +kernel
theorem dX11_lays_106 : decode cX11_lays 106 = .ok (.iadd, 1) := by decide +kernel
theorem dX11_lays_107 : decode cX11_lays 107 = .ok (.bipush 60, 2) := by decide +kernel
theorem dX11_lays_109 : decode cX11_lays 109 = .ok (.if_icmp .ge 23, 3) := by decide +kernel
theorem dX11_lays_112 : decode cX11_lays 112 = .ok (.aload_n 0, 1) := by decide +kernel
theorem dX11_lays_113 : decode cX11_lays 113 = .ok (.iload_n 3, 1) := by decide +kernel
theorem dX11_lays_114 : decode cX11_lays 114 = .ok (.iload 4, 2) := by decide +kernel
theorem dX11_lays_116 : decode cX11_lays 116 = .ok (.iload 6, 2) := by decide +kernel
theorem dX11_lays_118 : decode cX11_lays 118 = .ok (.iconst 1, 1) := by decide +kernel
theorem dX11_lays_119 : decode cX11_lays 119 = .ok (.iadd, 1) := by decide +kernel
theorem dX11_lays_120 : decode cX11_lays 120 = .ok (.invokevirtual 127, 3) := by decide +kernel
theorem dX11_lays_123 : decode cX11_lays 123 = .ok (.ifCond .eq 9, 3) := by decide +kernel
theorem dX11_lays_126 : decode cX11_lays 126 = .ok (.iinc 6 1, 3) := by decide +kernel
theorem dX11_lays_129 : decode cX11_lays 129 = .ok (.goto (-26), 3) := by decide +kernel
theorem dX11_lays_132 : decode cX11_lays 132 = .ok (.aload_n 0, 1) := by decide +kernel
theorem dX11_lays_133 : decode cX11_lays 133 = .ok (.getfield 37, 3) := by decide +kernel
theorem dX11_lays_136 : decode cX11_lays 136 = .ok (.aload_n 0, 1) := by decide +kernel
theorem dX11_lays_137 : decode cX11_lays 137 = .ok (.getfield 124, 3) := by decide +kernel
theorem dX11_lays_140 : decode cX11_lays 140 = .ok (.iload_n 1, 1) := by decide +kernel
theorem dX11_lays_141 : decode cX11_lays 141 = .ok (.iastore, 1) := by decide +kernel
theorem dX11_lays_142 : decode cX11_lays 142 = .ok (.aload_n 0, 1) := by decide +kernel
theorem dX11_lays_143 : decode cX11_lays 143 = .ok (.getfield 40, 3) := by decide +kernel
theorem dX11_lays_146 : decode cX11_lays 146 = .ok (.aload_n 0, 1) := by decide +kernel
theorem dX11_lays_147 : decode cX11_lays 147 = .ok (.getfield 124, 3) := by decide +kernel
theorem dX11_lays_150 : decode cX11_lays 150 = .ok (.iload 6, 2) := by decide +kernel
theorem dX11_lays_152 : decode cX11_lays 152 = .ok (.iastore, 1) := by decide +kernel
theorem dX11_lays_153 : decode cX11_lays 153 = .ok (.aload_n 0, 1) := by decide +kernel
theorem dX11_lays_154 : decode cX11_lays 154 = .ok (.getfield 43, 3) := by decide +kernel
theorem dX11_lays_157 : decode cX11_lays 157 = .ok (.aload_n 0, 1) := by decide +kernel
theorem dX11_lays_158 : decode cX11_lays 158 = .ok (.getfield 124, 3) := by decide +kernel
theorem dX11_lays_161 : decode cX11_lays 161 = .ok (.iload_n 3, 1) := by decide +kernel
theorem dX11_lays_162 : decode cX11_lays 162 = .ok (.iastore, 1) := by decide +kernel
theorem dX11_lays_163 : decode cX11_lays 163 = .ok (.aload_n 0, 1) := by decide +kernel
theorem dX11_lays_164 : decode cX11_lays 164 = .ok (.getfield 46, 3) := by decide +kernel
theorem dX11_lays_167 : decode cX11_lays 167 = .ok (.aload_n 0, 1) := by decide +kernel
theorem dX11_lays_168 : decode cX11_lays 168 = .ok (.getfield 124, 3) := by decide +kernel
theorem dX11_lays_171 : decode cX11_lays 171 = .ok (.iload 4, 2) := by decide +kernel
theorem dX11_lays_173 : decode cX11_lays 173 = .ok (.iastore, 1) := by decide +kernel
theorem dX11_lays_174 : decode cX11_lays 174 = .ok (.aload_n 0, 1) := by decide +kernel
theorem dX11_lays_175 : decode cX11_lays 175 = .ok (.getfield 49, 3) := by decide +kernel
theorem dX11_lays_178 : decode cX11_lays 178 = .ok (.aload_n 0, 1) := by decide +kernel
theorem dX11_lays_179 : decode cX11_lays 179 = .ok (.getfield 124, 3) := by decide +kernel
theorem dX11_lays_182 : decode cX11_lays 182 = .ok (.iconst 0, 1) := by decide +kernel
theorem dX11_lays_183 : decode cX11_lays 183 = .ok (.iastore, 1) := by decide +kernel
theorem dX11_lays_184 : decode cX11_lays 184 = .ok (.iconst 0, 1) := by decide +kernel
theorem dX11_lays_185 : decode cX11_lays 185 = .ok (.istore 7, 2) := by decide +kernel
theorem dX11_lays_187 : decode cX11_lays 187 = .ok (.iload 7, 2) := by decide +kernel
theorem dX11_lays_189 : decode cX11_lays 189 = .ok (.iload 6, 2) := by decide +kernel
theorem dX11_lays_191 : decode cX11_lays 191 = .ok (.iload_n 1, 1) := by decide +kernel
theorem dX11_lays_192 : decode cX11_lays 192 = .ok (.isub, 1) := by decide +kernel
theorem dX11_lays_193 : decode cX11_lays 193 = .ok (.if_icmp .gt 34, 3) := by decide +kernel
theorem dX11_lays_196 : decode cX11_lays 196 = .ok (.aload_n 0, 1) := by decide +kernel
theorem dX11_lays_197 : decode cX11_lays 197 = .ok (.getfield 49, 3) := by decide +kernel
theorem dX11_lays_200 : decode cX11_lays 200 = .ok (.aload_n 0, 1) := by decide +kernel
theorem dX11_lays_201 : decode cX11_lays 201 = .ok (.getfield 124, 3) := by decide +kernel
theorem dX11_lays_204 : decode cX11_lays 204 = .ok (.dup2, 1) := by decide +kernel
theorem dX11_lays_205 : decode cX11_lays 205 = .ok (.iaload, 1) := by decide +kernel
theorem dX11_lays_206 : decode cX11_lays 206 = .ok (.aload_n 0, 1) := by decide +kernel
theorem dX11_lays_207 : decode cX11_lays 207 = .ok (.iload_n 3, 1) := by decide +kernel
theorem dX11_lays_208 : decode cX11_lays 208 = .ok (.iload 7, 2) := by decide +kernel
theorem dX11_lays_210 : decode cX11_lays 210 = .ok (.iload 6, 2) := by decide +kernel
theorem dX11_lays_212 : decode cX11_lays 212 = .ok (.iload_n 1, 1) := by decide +kernel
theorem dX11_lays_213 : decode cX11_lays 213 = .ok (.isub, 1) := by decide +kernel
theorem dX11_lays_214 : decode cX11_lays 214 = .ok (.iconst 1, 1) := by decide +kernel
theorem dX11_lays_215 : decode cX11_lays 215 = .ok (.iadd, 1) := by decide +kernel
theorem dX11_lays_216 : decode cX11_lays 216 = .ok (.invokevirtual 131, 3) := by decide +kernel
theorem dX11_lays_219 : decode cX11_lays 219 = .ok (.iadd, 1) := by decide +kernel
theorem dX11_lays_220 : decode cX11_lays 220 = .ok (.iastore, 1) := by decide +kernel
theorem dX11_lays_221 : decode cX11_lays 221 = .ok (.iinc 7 1, 3) := by decide +kernel
theorem dX11_lays_224 : decode cX11_lays 224 = .ok (.goto (-37), 3) := by decide +kernel
theorem dX11_lays_227 : decode cX11_lays 227 = .ok (.aload_n 0, 1) := by decide +kernel
theorem dX11_lays_228 : decode cX11_lays 228 = .ok (.dup, 1) := by decide +kernel
theorem dX11_lays_229 : decode cX11_lays 229 = .ok (.getfield 124, 3) := by decide +kernel
theorem dX11_lays_232 : decode cX11_lays 232 = .ok (.iconst 1, 1) := by decide +kernel
theorem dX11_lays_233 : decode cX11_lays 233 = .ok (.iadd, 1) := by decide +kernel
theorem dX11_lays_234 : decode cX11_lays 234 = .ok (.putfield 124, 3) := by decide +kernel
theorem dX11_lays_237 : decode cX11_lays 237 = .ok (.iinc 2 1, 3) := by decide +kernel
theorem dX11_lays_240 : decode cX11_lays 240 = .ok (.goto (-225), 3) := by decide +kernel
theorem dX11_lays_243 : decode cX11_lays 243 = .ok (.iinc 1 1, 3) := by decide +kernel
theorem dX11_lays_246 : decode cX11_lays 246 = .ok (.goto (-239), 3) := by decide +kernel
theorem dX11_lays_249 : decode cX11_lays 249 = .ok (.iconst 0, 1) := by decide +kernel
theorem dX11_lays_250 : decode cX11_lays 250 = .ok (.istore_n 1, 1) := by decide +kernel
theorem dX11_lays_251 : decode cX11_lays 251 = .ok (.iload_n 1, 1) := by decide +kernel
theorem dX11_lays_252 : decode cX11_lays 252 = .ok (.bipush 24, 2) := by decide +kernel
theorem dX11_lays_254 : decode cX11_lays 254 = .ok (.if_icmp .ge 17, 3) := by decide +kernel
theorem dX11_lays_257 : decode cX11_lays 257 = .ok (.aload_n 0, 1) := by decide +kernel
theorem dX11_lays_258 : decode cX11_lays 258 = .ok (.getfield 52, 3) := by decide +kernel
theorem dX11_lays_261 : decode cX11_lays 261 = .ok (.iload_n 1, 1) := by decide +kernel
theorem dX11_lays_262 : decode cX11_lays 262 = .ok (.bipush (-4), 2) := by decide +kernel
theorem dX11_lays_264 : decode cX11_lays 264 = .ok (.iastore, 1) := by decide +kernel
theorem dX11_lays_265 : decode cX11_lays 265 = .ok (.iinc 1 1, 3) := by decide +kernel
theorem dX11_lays_268 : decode cX11_lays 268 = .ok (.goto (-17), 3) := by decide +kernel
theorem dX11_lays_271 : decode cX11_lays 271 = .ok (.iconst 0, 1) := by decide +kernel
theorem dX11_lays_272 : decode cX11_lays 272 = .ok (.istore_n 1, 1) := by decide +kernel
theorem dX11_lays_273 : decode cX11_lays 273 = .ok (.iload_n 1, 1) := by decide +kernel
theorem dX11_lays_274 : decode cX11_lays 274 = .ok (.iconst 4, 1) := by decide +kernel
theorem dX11_lays_275 : decode cX11_lays 275 = .ok (.if_icmp .ge 35, 3) := by decide +kernel
theorem dX11_lays_278 : decode cX11_lays 278 = .ok (.aload_n 0, 1) := by decide +kernel
theorem dX11_lays_279 : decode cX11_lays 279 = .ok (.getfield 52, 3) := by decide +kernel
theorem dX11_lays_282 : decode cX11_lays 282 = .ok (.bipush 24, 2) := by decide +kernel
theorem dX11_lays_284 : decode cX11_lays 284 = .ok (.iconst 2, 1) := by decide +kernel
theorem dX11_lays_285 : decode cX11_lays 285 = .ok (.iload_n 1, 1) := by decide +kernel
theorem dX11_lays_286 : decode cX11_lays 286 = .ok (.imul, 1) := by decide +kernel
theorem dX11_lays_287 : decode cX11_lays 287 = .ok (.iadd, 1) := by decide +kernel
theorem dX11_lays_288 : decode cX11_lays 288 = .ok (.iconst 1, 1) := by decide +kernel
theorem dX11_lays_289 : decode cX11_lays 289 = .ok (.iastore, 1) := by decide +kernel
theorem dX11_lays_290 : decode cX11_lays 290 = .ok (.aload_n 0, 1) := by decide +kernel
theorem dX11_lays_291 : decode cX11_lays 291 = .ok (.getfield 52, 3) := by decide +kernel
theorem dX11_lays_294 : decode cX11_lays 294 = .ok (.bipush 24, 2) := by decide +kernel
theorem dX11_lays_296 : decode cX11_lays 296 = .ok (.iconst 2, 1) := by decide +kernel
theorem dX11_lays_297 : decode cX11_lays 297 = .ok (.iload_n 1, 1) := by decide +kernel
theorem dX11_lays_298 : decode cX11_lays 298 = .ok (.imul, 1) := by decide +kernel
theorem dX11_lays_299 : decode cX11_lays 299 = .ok (.iadd, 1) := by decide +kernel
theorem dX11_lays_300 : decode cX11_lays 300 = .ok (.iconst 1, 1) := by decide +kernel
theorem dX11_lays_301 : decode cX11_lays 301 = .ok (.iadd, 1) := by decide +kernel
theorem dX11_lays_302 : decode cX11_lays 302 = .ok (.iconst 0, 1) := by decide +kernel
theorem dX11_lays_303 : decode cX11_lays 303 = .ok (.iastore, 1) := by decide +kernel
theorem dX11_lays_304 : decode cX11_lays 304 = .ok (.iinc 1 1, 3) := by decide +kernel
theorem dX11_lays_307 : decode cX11_lays 307 = .ok (.goto (-34), 3) := by decide +kernel
theorem dX11_lays_310 : decode cX11_lays 310 = .ok (.aload_n 0, 1) := by decide +kernel
theorem dX11_lays_311 : decode cX11_lays 311 = .ok (.iconst 0, 1) := by decide +kernel
theorem dX11_lays_312 : decode cX11_lays 312 = .ok (.putfield 135, 3) := by decide +kernel
theorem dX11_lays_315 : decode cX11_lays 315 = .ok (.return_, 1) := by decide +kernel
theorem dX11_isPass_0 : decode cX11_isPass 0 = .ok (.iload_n 1, 1) := by decide +kernel
theorem dX11_isPass_1 : decode cX11_isPass 1 = .ok (.i2l, 1) := by decide +kernel
theorem dX11_isPass_2 : decode cX11_isPass 2 = .ok (.lconst 0, 1) := by decide +kernel
theorem dX11_isPass_3 : decode cX11_isPass 3 = .ok (.aload_n 0, 1) := by decide +kernel
theorem dX11_isPass_4 : decode cX11_isPass 4 = .ok (.getfield 124, 3) := by decide +kernel
theorem dX11_isPass_7 : decode cX11_isPass 7 = .ok (.iconst 1, 1) := by decide +kernel
theorem dX11_isPass_8 : decode cX11_isPass 8 = .ok (.isub, 1) := by decide +kernel
theorem dX11_isPass_9 : decode cX11_isPass 9 = .ok (.i2l, 1) := by decide +kernel
theorem dX11_isPass_10 : decode cX11_isPass 10 = .ok (.invokestatic 93, 3) := by decide +kernel
theorem dX11_isPass_13 : decode cX11_isPass 13 = .ok (.ireturn, 1) := by decide +kernel
theorem dX11_isAntenna_0 : decode cX11_isAntenna 0 = .ok (.iload_n 1, 1) := by decide +kernel
theorem dX11_isAntenna_1 : decode cX11_isAntenna 1 = .ok (.i2l, 1) := by decide +kernel
theorem dX11_isAntenna_2 : decode cX11_isAntenna 2 = .ok (.lconst 0, 1) := by decide +kernel
theorem dX11_isAntenna_3 : decode cX11_isAntenna 3 = .ok (.aload_n 0, 1) := by decide +kernel
theorem dX11_isAntenna_4 : decode cX11_isAntenna 4 = .ok (.getfield 22, 3) := by decide +kernel
theorem dX11_isAntenna_7 : decode cX11_isAntenna 7 = .ok (.iconst 2, 1) := by decide +kernel
theorem dX11_isAntenna_8 : decode cX11_isAntenna 8 = .ok (.iaload, 1) := by decide +kernel
theorem dX11_isAntenna_9 : decode cX11_isAntenna 9 = .ok (.iconst 1, 1) := by decide +kernel
theorem dX11_isAntenna_10 : decode cX11_isAntenna 10 = .ok (.isub, 1) := by decide +kernel
theorem dX11_isAntenna_11 : decode cX11_isAntenna 11 = .ok (.i2l, 1) := by decide +kernel
theorem dX11_isAntenna_12 : decode cX11_isAntenna 12 = .ok (.invokestatic 93, 3) := by decide +kernel
theorem dX11_isAntenna_15 : decode cX11_isAntenna 15 = .ok (.ireturn, 1) := by decide +kernel
theorem dX11_fits_0 : decode cX11_fits 0 = .ok (.aload_n 0, 1) := by decide +kernel
theorem dX11_fits_1 : decode cX11_fits 1 = .ok (.getfield 19, 3) := by decide +kernel
theorem dX11_fits_4 : decode cX11_fits 4 = .ok (.iconst 3, 1) := by decide +kernel
theorem dX11_fits_5 : decode cX11_fits 5 = .ok (.iload_n 2, 1) := by decide +kernel
theorem dX11_fits_6 : decode cX11_fits 6 = .ok (.imul, 1) := by decide +kernel
theorem dX11_fits_7 : decode cX11_fits 7 = .ok (.iconst 1, 1) := by decide +kernel
theorem dX11_fits_8 : decode cX11_fits 8 = .ok (.iadd, 1) := by decide +kernel
theorem dX11_fits_9 : decode cX11_fits 9 = .ok (.iaload, 1) := by decide +kernel
theorem dX11_fits_10 : decode cX11_fits 10 = .ok (.istore_n 3, 1) := by decide +kernel
theorem dX11_fits_11 : decode cX11_fits 11 = .ok (.aload_n 0, 1) := by decide +kernel
theorem dX11_fits_12 : decode cX11_fits 12 = .ok (.getfield 52, 3) := by decide +kernel
theorem dX11_fits_15 : decode cX11_fits 15 = .ok (.bipush 24, 2) := by decide +kernel
theorem dX11_fits_17 : decode cX11_fits 17 = .ok (.iconst 2, 1) := by decide +kernel
theorem dX11_fits_18 : decode cX11_fits 18 = .ok (.iload_n 2, 1) := by decide +kernel
theorem dX11_fits_19 : decode cX11_fits 19 = .ok (.imul, 1) := by decide +kernel
theorem dX11_fits_20 : decode cX11_fits 20 = .ok (.iadd, 1) := by decide +kernel
theorem dX11_fits_21 : decode cX11_fits 21 = .ok (.iaload, 1) := by decide +kernel
theorem dX11_fits_22 : decode cX11_fits 22 = .ok (.aload_n 0, 1) := by decide +kernel
theorem dX11_fits_23 : decode cX11_fits 23 = .ok (.getfield 52, 3) := by decide +kernel
theorem dX11_fits_26 : decode cX11_fits 26 = .ok (.bipush 24, 2) := by decide +kernel
theorem dX11_fits_28 : decode cX11_fits 28 = .ok (.iconst 2, 1) := by decide +kernel
theorem dX11_fits_29 : decode cX11_fits 29 = .ok (.iload_n 2, 1) := by decide +kernel
theorem dX11_fits_30 : decode cX11_fits 30 = .ok (.imul, 1) := by decide +kernel
theorem dX11_fits_31 : decode cX11_fits 31 = .ok (.iadd, 1) := by decide +kernel
theorem dX11_fits_32 : decode cX11_fits 32 = .ok (.iconst 1, 1) := by decide +kernel
theorem dX11_fits_33 : decode cX11_fits 33 = .ok (.iadd, 1) := by decide +kernel
theorem dX11_fits_34 : decode cX11_fits 34 = .ok (.iaload, 1) := by decide +kernel
theorem dX11_fits_35 : decode cX11_fits 35 = .ok (.if_icmp .gt 49, 3) := by decide +kernel
theorem dX11_fits_38 : decode cX11_fits 38 = .ok (.aload_n 0, 1) := by decide +kernel
theorem dX11_fits_39 : decode cX11_fits 39 = .ok (.getfield 37, 3) := by decide +kernel
theorem dX11_fits_42 : decode cX11_fits 42 = .ok (.iload_n 1, 1) := by decide +kernel
theorem dX11_fits_43 : decode cX11_fits 43 = .ok (.iaload, 1) := by decide +kernel
theorem dX11_fits_44 : decode cX11_fits 44 = .ok (.aload_n 0, 1) := by decide +kernel
theorem dX11_fits_45 : decode cX11_fits 45 = .ok (.getfield 52, 3) := by decide +kernel
theorem dX11_fits_48 : decode cX11_fits 48 = .ok (.bipush 24, 2) := by decide +kernel
theorem dX11_fits_50 : decode cX11_fits 50 = .ok (.iconst 2, 1) := by decide +kernel
theorem dX11_fits_51 : decode cX11_fits 51 = .ok (.iload_n 2, 1) := by decide +kernel
theorem dX11_fits_52 : decode cX11_fits 52 = .ok (.imul, 1) := by decide +kernel
theorem dX11_fits_53 : decode cX11_fits 53 = .ok (.iadd, 1) := by decide +kernel
theorem dX11_fits_54 : decode cX11_fits 54 = .ok (.iconst 1, 1) := by decide +kernel
theorem dX11_fits_55 : decode cX11_fits 55 = .ok (.iadd, 1) := by decide +kernel
theorem dX11_fits_56 : decode cX11_fits 56 = .ok (.iaload, 1) := by decide +kernel
theorem dX11_fits_57 : decode cX11_fits 57 = .ok (.if_icmp .gt 27, 3) := by decide +kernel
theorem dX11_fits_60 : decode cX11_fits 60 = .ok (.aload_n 0, 1) := by decide +kernel
theorem dX11_fits_61 : decode cX11_fits 61 = .ok (.getfield 40, 3) := by decide +kernel
theorem dX11_fits_64 : decode cX11_fits 64 = .ok (.iload_n 1, 1) := by decide +kernel
theorem dX11_fits_65 : decode cX11_fits 65 = .ok (.iaload, 1) := by decide +kernel
theorem dX11_fits_66 : decode cX11_fits 66 = .ok (.aload_n 0, 1) := by decide +kernel
theorem dX11_fits_67 : decode cX11_fits 67 = .ok (.getfield 52, 3) := by decide +kernel
theorem dX11_fits_70 : decode cX11_fits 70 = .ok (.bipush 24, 2) := by decide +kernel
theorem dX11_fits_72 : decode cX11_fits 72 = .ok (.iconst 2, 1) := by decide +kernel
theorem dX11_fits_73 : decode cX11_fits 73 = .ok (.iload_n 2, 1) := by decide +kernel
theorem dX11_fits_74 : decode cX11_fits 74 = .ok (.imul, 1) := by decide +kernel
theorem dX11_fits_75 : decode cX11_fits 75 = .ok (.iadd, 1) := by decide +kernel
theorem dX11_fits_76 : decode cX11_fits 76 = .ok (.iaload, 1) := by decide +kernel
theorem dX11_fits_77 : decode cX11_fits 77 = .ok (.if_icmp .lt 7, 3) := by decide +kernel
theorem dX11_fits_80 : decode cX11_fits 80 = .ok (.iconst 1, 1) := by decide +kernel
theorem dX11_fits_81 : decode cX11_fits 81 = .ok (.goto 4, 3) := by decide +kernel
theorem dX11_fits_84 : decode cX11_fits 84 = .ok (.iconst 0, 1) := by decide +kernel
theorem dX11_fits_85 : decode cX11_fits 85 = .ok (.istore 4, 2) := by decide +kernel
theorem dX11_fits_87 : decode cX11_fits 87 = .ok (.aload_n 0, 1) := by decide +kernel
theorem dX11_fits_88 : decode cX11_fits 88 = .ok (.getfield 19, 3) := by decide +kernel
theorem dX11_fits_91 : decode cX11_fits 91 = .ok (.iconst 3, 1) := by decide +kernel
theorem dX11_fits_92 : decode cX11_fits 92 = .ok (.iload_n 2, 1) := by decide +kernel
theorem dX11_fits_93 : decode cX11_fits 93 = .ok (.imul, 1) := by decide +kernel
theorem dX11_fits_94 : decode cX11_fits 94 = .ok (.iaload, 1) := by decide +kernel
theorem dX11_fits_95 : decode cX11_fits 95 = .ok (.aload_n 0, 1) := by decide +kernel
theorem dX11_fits_96 : decode cX11_fits 96 = .ok (.getfield 46, 3) := by decide +kernel
theorem dX11_fits_99 : decode cX11_fits 99 = .ok (.iload_n 1, 1) := by decide +kernel
theorem dX11_fits_100 : decode cX11_fits 100 = .ok (.iaload, 1) := by decide +kernel
theorem dX11_fits_101 : decode cX11_fits 101 = .ok (.if_icmp .ne 36, 3) := by decide +kernel
theorem dX11_fits_104 : decode cX11_fits 104 = .ok (.iload_n 3, 1) := by decide +kernel
theorem dX11_fits_105 : decode cX11_fits 105 = .ok (.iconst 2, 1) := by decide +kernel
theorem dX11_fits_106 : decode cX11_fits 106 = .ok (.if_icmp .eq 22, 3) := by decide +kernel
theorem dX11_fits_109 : decode cX11_fits 109 = .ok (.iload_n 3, 1) := by decide +kernel
theorem dX11_fits_110 : decode cX11_fits 110 = .ok (.aload_n 0, 1) := by decide +kernel
theorem dX11_fits_111 : decode cX11_fits 111 = .ok (.getfield 13, 3) := by decide +kernel
theorem dX11_fits_114 : decode cX11_fits 114 = .ok (.iconst 5, 1) := by decide +kernel
theorem dX11_fits_115 : decode cX11_fits 115 = .ok (.aload_n 0, 1) := by decide +kernel
theorem dX11_fits_116 : decode cX11_fits 116 = .ok (.getfield 43, 3) := by decide +kernel
theorem dX11_fits_119 : decode cX11_fits 119 = .ok (.iload_n 1, 1) := by decide +kernel
theorem dX11_fits_120 : decode cX11_fits 120 = .ok (.iaload, 1) := by decide +kernel
theorem dX11_fits_121 : decode cX11_fits 121 = .ok (.imul, 1) := by decide +kernel
theorem dX11_fits_122 : decode cX11_fits 122 = .ok (.iconst 2, 1) := by decide +kernel
theorem dX11_fits_123 : decode cX11_fits 123 = .ok (.iadd, 1) := by decide +kernel
theorem dX11_fits_124 : decode cX11_fits 124 = .ok (.iaload, 1) := by decide +kernel
theorem dX11_fits_125 : decode cX11_fits 125 = .ok (.if_icmp .ne 12, 3) := by decide +kernel
theorem dX11_fits_128 : decode cX11_fits 128 = .ok (.iload 4, 2) := by decide +kernel
theorem dX11_fits_130 : decode cX11_fits 130 = .ok (.ifCond .ne 7, 3) := by decide +kernel
theorem dX11_fits_133 : decode cX11_fits 133 = .ok (.iconst 1, 1) := by decide +kernel
theorem dX11_fits_134 : decode cX11_fits 134 = .ok (.goto 4, 3) := by decide +kernel
theorem dX11_fits_137 : decode cX11_fits 137 = .ok (.iconst 0, 1) := by decide +kernel
theorem dX11_fits_138 : decode cX11_fits 138 = .ok (.ireturn, 1) := by decide +kernel
theorem dX11_together_0 : decode cX11_together 0 = .ok (.aload_n 0, 1) := by decide +kernel
theorem dX11_together_1 : decode cX11_together 1 = .ok (.getfield 19, 3) := by decide +kernel
theorem dX11_together_4 : decode cX11_together 4 = .ok (.iconst 3, 1) := by decide +kernel
theorem dX11_together_5 : decode cX11_together 5 = .ok (.iload_n 3, 1) := by decide +kernel
theorem dX11_together_6 : decode cX11_together 6 = .ok (.imul, 1) := by decide +kernel
theorem dX11_together_7 : decode cX11_together 7 = .ok (.iconst 2, 1) := by decide +kernel
theorem dX11_together_8 : decode cX11_together 8 = .ok (.iadd, 1) := by decide +kernel
theorem dX11_together_9 : decode cX11_together 9 = .ok (.iaload, 1) := by decide +kernel
theorem dX11_together_10 : decode cX11_together 10 = .ok (.istore 4, 2) := by decide +kernel
theorem dX11_together_12 : decode cX11_together 12 = .ok (.aload_n 0, 1) := by decide +kernel
theorem dX11_together_13 : decode cX11_together 13 = .ok (.getfield 37, 3) := by decide +kernel
theorem dX11_together_16 : decode cX11_together 16 = .ok (.iload_n 2, 1) := by decide +kernel
theorem dX11_together_17 : decode cX11_together 17 = .ok (.iaload, 1) := by decide +kernel
theorem dX11_together_18 : decode cX11_together 18 = .ok (.aload_n 0, 1) := by decide +kernel
theorem dX11_together_19 : decode cX11_together 19 = .ok (.getfield 40, 3) := by decide +kernel
theorem dX11_together_22 : decode cX11_together 22 = .ok (.iload_n 1, 1) := by decide +kernel
theorem dX11_together_23 : decode cX11_together 23 = .ok (.iaload, 1) := by decide +kernel
theorem dX11_together_24 : decode cX11_together 24 = .ok (.isub, 1) := by decide +kernel
theorem dX11_together_25 : decode cX11_together 25 = .ok (.iload 4, 2) := by decide +kernel
theorem dX11_together_27 : decode cX11_together 27 = .ok (.if_icmp .gt 21, 3) := by decide +kernel
theorem dX11_together_30 : decode cX11_together 30 = .ok (.aload_n 0, 1) := by decide +kernel
theorem dX11_together_31 : decode cX11_together 31 = .ok (.getfield 37, 3) := by decide +kernel
theorem dX11_together_34 : decode cX11_together 34 = .ok (.iload_n 1, 1) := by decide +kernel
theorem dX11_together_35 : decode cX11_together 35 = .ok (.iaload, 1) := by decide +kernel
theorem dX11_together_36 : decode cX11_together 36 = .ok (.aload_n 0, 1) := by decide +kernel
theorem dX11_together_37 : decode cX11_together 37 = .ok (.getfield 40, 3) := by decide +kernel
theorem dX11_together_40 : decode cX11_together 40 = .ok (.iload_n 2, 1) := by decide +kernel
theorem dX11_together_41 : decode cX11_together 41 = .ok (.iaload, 1) := by decide +kernel
theorem dX11_together_42 : decode cX11_together 42 = .ok (.isub, 1) := by decide +kernel
theorem dX11_together_43 : decode cX11_together 43 = .ok (.iload 4, 2) := by decide +kernel
theorem dX11_together_45 : decode cX11_together 45 = .ok (.if_icmp .le 7, 3) := by decide +kernel
theorem dX11_together_48 : decode cX11_together 48 = .ok (.iconst 1, 1) := by decide +kernel
theorem dX11_together_49 : decode cX11_together 49 = .ok (.goto 4, 3) := by decide +kernel
theorem dX11_together_52 : decode cX11_together 52 = .ok (.iconst 0, 1) := by decide +kernel
theorem dX11_together_53 : decode cX11_together 53 = .ok (.ireturn, 1) := by decide +kernel
theorem dX11_overlap_0 : decode cX11_overlap 0 = .ok (.aload_n 0, 1) := by decide +kernel
theorem dX11_overlap_1 : decode cX11_overlap 1 = .ok (.getfield 37, 3) := by decide +kernel
theorem dX11_overlap_4 : decode cX11_overlap 4 = .ok (.iload_n 1, 1) := by decide +kernel
theorem dX11_overlap_5 : decode cX11_overlap 5 = .ok (.iaload, 1) := by decide +kernel
theorem dX11_overlap_6 : decode cX11_overlap 6 = .ok (.aload_n 0, 1) := by decide +kernel
theorem dX11_overlap_7 : decode cX11_overlap 7 = .ok (.getfield 40, 3) := by decide +kernel
theorem dX11_overlap_10 : decode cX11_overlap 10 = .ok (.iload_n 2, 1) := by decide +kernel
theorem dX11_overlap_11 : decode cX11_overlap 11 = .ok (.iaload, 1) := by decide +kernel
theorem dX11_overlap_12 : decode cX11_overlap 12 = .ok (.if_icmp .gt 22, 3) := by decide +kernel
theorem dX11_overlap_15 : decode cX11_overlap 15 = .ok (.aload_n 0, 1) := by decide +kernel
theorem dX11_overlap_16 : decode cX11_overlap 16 = .ok (.getfield 37, 3) := by decide +kernel
theorem dX11_overlap_19 : decode cX11_overlap 19 = .ok (.iload_n 2, 1) := by decide +kernel
theorem dX11_overlap_20 : decode cX11_overlap 20 = .ok (.iaload, 1) := by decide +kernel
theorem dX11_overlap_21 : decode cX11_overlap 21 = .ok (.aload_n 0, 1) := by decide +kernel
theorem dX11_overlap_22 : decode cX11_overlap 22 = .ok (.getfield 40, 3) := by decide +kernel
theorem dX11_overlap_25 : decode cX11_overlap 25 = .ok (.iload_n 1, 1) := by decide +kernel
theorem dX11_overlap_26 : decode cX11_overlap 26 = .ok (.iaload, 1) := by decide +kernel
theorem dX11_overlap_27 : decode cX11_overlap 27 = .ok (.if_icmp .gt 7, 3) := by decide +kernel
theorem dX11_overlap_30 : decode cX11_overlap 30 = .ok (.iconst 1, 1) := by decide +kernel
theorem dX11_overlap_31 : decode cX11_overlap 31 = .ok (.goto 4, 3) := by decide +kernel
theorem dX11_overlap_34 : decode cX11_overlap 34 = .ok (.iconst 0, 1) := by decide +kernel
theorem dX11_overlap_35 : decode cX11_overlap 35 = .ok (.ireturn, 1) := by decide +kernel
theorem dX11_sumOf_0 : decode cX11_sumOf 0 = .ok (.iconst 0, 1) := by decide +kernel
theorem dX11_sumOf_1 : decode cX11_sumOf 1 = .ok (.istore_n 3, 1) := by decide +kernel
theorem dX11_sumOf_2 : decode cX11_sumOf 2 = .ok (.iconst 0, 1) := by decide +kernel
theorem dX11_sumOf_3 : decode cX11_sumOf 3 = .ok (.istore 4, 2) := by decide +kernel
theorem dX11_sumOf_5 : decode cX11_sumOf 5 = .ok (.iload 4, 2) := by decide +kernel
theorem dX11_sumOf_7 : decode cX11_sumOf 7 = .ok (.aload_n 0, 1) := by decide +kernel
theorem dX11_sumOf_8 : decode cX11_sumOf 8 = .ok (.getfield 124, 3) := by decide +kernel
theorem dX11_sumOf_11 : decode cX11_sumOf 11 = .ok (.if_icmp .ge 124, 3) := by decide +kernel
theorem dX11_sumOf_14 : decode cX11_sumOf 14 = .ok (.iload_n 1, 1) := by decide +kernel
theorem dX11_sumOf_15 : decode cX11_sumOf 15 = .ok (.ifCond .ne 22, 3) := by decide +kernel
theorem dX11_sumOf_18 : decode cX11_sumOf 18 = .ok (.aload_n 0, 1) := by decide +kernel
theorem dX11_sumOf_19 : decode cX11_sumOf 19 = .ok (.getfield 43, 3) := by decide +kernel
theorem dX11_sumOf_22 : decode cX11_sumOf 22 = .ok (.iload 4, 2) := by decide +kernel
theorem dX11_sumOf_24 : decode cX11_sumOf 24 = .ok (.iaload, 1) := by decide +kernel
theorem dX11_sumOf_25 : decode cX11_sumOf 25 = .ok (.iload_n 2, 1) := by decide +kernel
theorem dX11_sumOf_26 : decode cX11_sumOf 26 = .ok (.if_icmp .ne 7, 3) := by decide +kernel
theorem dX11_sumOf_29 : decode cX11_sumOf 29 = .ok (.iconst 1, 1) := by decide +kernel
theorem dX11_sumOf_30 : decode cX11_sumOf 30 = .ok (.goto 59, 3) := by decide +kernel
theorem dX11_sumOf_33 : decode cX11_sumOf 33 = .ok (.iconst 0, 1) := by decide +kernel
theorem dX11_sumOf_34 : decode cX11_sumOf 34 = .ok (.goto 55, 3) := by decide +kernel
theorem dX11_sumOf_37 : decode cX11_sumOf 37 = .ok (.iload_n 1, 1) := by decide +kernel
theorem dX11_sumOf_38 : decode cX11_sumOf 38 = .ok (.iconst 1, 1) := by decide +kernel
theorem dX11_sumOf_39 : decode cX11_sumOf 39 = .ok (.if_icmp .ne 34, 3) := by decide +kernel
theorem dX11_sumOf_42 : decode cX11_sumOf 42 = .ok (.aload_n 0, 1) := by decide +kernel
theorem dX11_sumOf_43 : decode cX11_sumOf 43 = .ok (.getfield 43, 3) := by decide +kernel
theorem dX11_sumOf_46 : decode cX11_sumOf 46 = .ok (.iload 4, 2) := by decide +kernel
theorem dX11_sumOf_48 : decode cX11_sumOf 48 = .ok (.iaload, 1) := by decide +kernel
theorem dX11_sumOf_49 : decode cX11_sumOf 49 = .ok (.iload_n 2, 1) := by decide +kernel
theorem dX11_sumOf_50 : decode cX11_sumOf 50 = .ok (.if_icmp .ne 19, 3) := by decide +kernel
theorem dX11_sumOf_53 : decode cX11_sumOf 53 = .ok (.aload_n 0, 1) := by decide +kernel
theorem dX11_sumOf_54 : decode cX11_sumOf 54 = .ok (.getfield 52, 3) := by decide +kernel
theorem dX11_sumOf_57 : decode cX11_sumOf 57 = .ok (.iload 4, 2) := by decide +kernel
theorem dX11_sumOf_59 : decode cX11_sumOf 59 = .ok (.iaload, 1) := by decide +kernel
theorem dX11_sumOf_60 : decode cX11_sumOf 60 = .ok (.bipush (-4), 2) := by decide +kernel
theorem dX11_sumOf_62 : decode cX11_sumOf 62 = .ok (.if_icmp .eq 7, 3) := by decide +kernel
theorem dX11_sumOf_65 : decode cX11_sumOf 65 = .ok (.iconst 1, 1) := by decide +kernel
theorem dX11_sumOf_66 : decode cX11_sumOf 66 = .ok (.goto 23, 3) := by decide +kernel
theorem dX11_sumOf_69 : decode cX11_sumOf 69 = .ok (.iconst 0, 1) := by decide +kernel
theorem dX11_sumOf_70 : decode cX11_sumOf 70 = .ok (.goto 19, 3) := by decide +kernel
theorem dX11_sumOf_73 : decode cX11_sumOf 73 = .ok (.aload_n 0, 1) := by decide +kernel
theorem dX11_sumOf_74 : decode cX11_sumOf 74 = .ok (.getfield 52, 3) := by decide +kernel
theorem dX11_sumOf_77 : decode cX11_sumOf 77 = .ok (.iload 4, 2) := by decide +kernel
theorem dX11_sumOf_79 : decode cX11_sumOf 79 = .ok (.iaload, 1) := by decide +kernel
theorem dX11_sumOf_80 : decode cX11_sumOf 80 = .ok (.iload_n 2, 1) := by decide +kernel
theorem dX11_sumOf_81 : decode cX11_sumOf 81 = .ok (.if_icmp .ne 7, 3) := by decide +kernel
theorem dX11_sumOf_84 : decode cX11_sumOf 84 = .ok (.iconst 1, 1) := by decide +kernel
theorem dX11_sumOf_85 : decode cX11_sumOf 85 = .ok (.goto 4, 3) := by decide +kernel
theorem dX11_sumOf_88 : decode cX11_sumOf 88 = .ok (.iconst 0, 1) := by decide +kernel
theorem dX11_sumOf_89 : decode cX11_sumOf 89 = .ok (.istore 5, 2) := by decide +kernel
theorem dX11_sumOf_91 : decode cX11_sumOf 91 = .ok (.iload_n 3, 1) := by decide +kernel
theorem dX11_sumOf_92 : decode cX11_sumOf 92 = .ok (.iload 5, 2) := by decide +kernel
theorem dX11_sumOf_94 : decode cX11_sumOf 94 = .ok (.ifCond .ne 7, 3) := by decide +kernel
theorem dX11_sumOf_97 : decode cX11_sumOf 97 = .ok (.iconst 0, 1) := by decide +kernel
theorem dX11_sumOf_98 : decode cX11_sumOf 98 = .ok (.goto 29, 3) := by decide +kernel
theorem dX11_sumOf_101 : decode cX11_sumOf 101 = .ok (.iload_n 1, 1) := by decide +kernel
theorem dX11_sumOf_102 : decode cX11_sumOf 102 = .ok (.iconst 3, 1) := by decide +kernel
theorem dX11_sumOf_103 : decode cX11_sumOf 103 = .ok (.if_icmp .ne 23, 3) := by decide +kernel
theorem dX11_sumOf_106 : decode cX11_sumOf 106 = .ok (.aload_n 0, 1) := by decide +kernel
theorem dX11_sumOf_107 : decode cX11_sumOf 107 = .ok (.getfield 40, 3) := by decide +kernel
theorem dX11_sumOf_110 : decode cX11_sumOf 110 = .ok (.iload 4, 2) := by decide +kernel
theorem dX11_sumOf_112 : decode cX11_sumOf 112 = .ok (.iaload, 1) := by decide +kernel
theorem dX11_sumOf_113 : decode cX11_sumOf 113 = .ok (.aload_n 0, 1) := by decide +kernel
theorem dX11_sumOf_114 : decode cX11_sumOf 114 = .ok (.getfield 37, 3) := by decide +kernel
theorem dX11_sumOf_117 : decode cX11_sumOf 117 = .ok (.iload 4, 2) := by decide +kernel
theorem dX11_sumOf_119 : decode cX11_sumOf 119 = .ok (.iaload, 1) := by decide +kernel
theorem dX11_sumOf_120 : decode cX11_sumOf 120 = .ok (.isub, 1) := by decide +kernel
theorem dX11_sumOf_121 : decode cX11_sumOf 121 = .ok (.iconst 1, 1) := by decide +kernel
theorem dX11_sumOf_122 : decode cX11_sumOf 122 = .ok (.iadd, 1) := by decide +kernel
theorem dX11_sumOf_123 : decode cX11_sumOf 123 = .ok (.goto 4, 3) := by decide +kernel
theorem dX11_sumOf_126 : decode cX11_sumOf 126 = .ok (.iconst 1, 1) := by decide +kernel
theorem dX11_sumOf_127 : decode cX11_sumOf 127 = .ok (.iadd, 1) := by decide +kernel
theorem dX11_sumOf_128 : decode cX11_sumOf 128 = .ok (.istore_n 3, 1) := by decide +kernel
theorem dX11_sumOf_129 : decode cX11_sumOf 129 = .ok (.iinc 4 1, 3) := by decide +kernel
theorem dX11_sumOf_132 : decode cX11_sumOf 132 = .ok (.goto (-127), 3) := by decide +kernel
theorem dX11_sumOf_135 : decode cX11_sumOf 135 = .ok (.iload_n 3, 1) := by decide +kernel
theorem dX11_sumOf_136 : decode cX11_sumOf 136 = .ok (.ireturn, 1) := by decide +kernel
theorem dX11_sat_0 : decode cX11_sat 0 = .ok (.iload_n 1, 1) := by decide +kernel
theorem dX11_sat_1 : decode cX11_sat 1 = .ok (.i2l, 1) := by decide +kernel
theorem dX11_sat_2 : decode cX11_sat 2 = .ok (.lconst 0, 1) := by decide +kernel
theorem dX11_sat_3 : decode cX11_sat 3 = .ok (.aload_n 0, 1) := by decide +kernel
theorem dX11_sat_4 : decode cX11_sat 4 = .ok (.getfield 22, 3) := by decide +kernel
theorem dX11_sat_7 : decode cX11_sat 7 = .ok (.iconst 0, 1) := by decide +kernel
theorem dX11_sat_8 : decode cX11_sat 8 = .ok (.iaload, 1) := by decide +kernel
theorem dX11_sat_9 : decode cX11_sat 9 = .ok (.iconst 1, 1) := by decide +kernel
theorem dX11_sat_10 : decode cX11_sat 10 = .ok (.isub, 1) := by decide +kernel
theorem dX11_sat_11 : decode cX11_sat 11 = .ok (.i2l, 1) := by decide +kernel
theorem dX11_sat_12 : decode cX11_sat 12 = .ok (.invokestatic 93, 3) := by decide +kernel
theorem dX11_sat_15 : decode cX11_sat 15 = .ok (.ifCond .eq 15, 3) := by decide +kernel
theorem dX11_sat_18 : decode cX11_sat 18 = .ok (.iload_n 2, 1) := by decide +kernel
theorem dX11_sat_19 : decode cX11_sat 19 = .ok (.i2l, 1) := by decide +kernel
theorem dX11_sat_20 : decode cX11_sat 20 = .ok (.lconst 0, 1) := by decide +kernel
theorem dX11_sat_21 : decode cX11_sat 21 = .ok (.ldc2_w 138, 3) := by decide +kernel
theorem dX11_sat_24 : decode cX11_sat 24 = .ok (.invokestatic 93, 3) := by decide +kernel
theorem dX11_sat_27 : decode cX11_sat 27 = .ok (.ifCond .ne 5, 3) := by decide +kernel
theorem dX11_sat_30 : decode cX11_sat 30 = .ok (.iconst (-1), 1) := by decide +kernel
theorem dX11_sat_31 : decode cX11_sat 31 = .ok (.ireturn, 1) := by decide +kernel
theorem dX11_sat_32 : decode cX11_sat 32 = .ok (.iload_n 2, 1) := by decide +kernel
theorem dX11_sat_33 : decode cX11_sat 33 = .ok (.iconst 5, 1) := by decide +kernel
theorem dX11_sat_34 : decode cX11_sat 34 = .ok (.if_icmp .ge 16, 3) := by decide +kernel
theorem dX11_sat_37 : decode cX11_sat 37 = .ok (.aload_n 0, 1) := by decide +kernel
theorem dX11_sat_38 : decode cX11_sat 38 = .ok (.getfield 13, 3) := by decide +kernel
theorem dX11_sat_41 : decode cX11_sat 41 = .ok (.iconst 5, 1) := by decide +kernel
theorem dX11_sat_42 : decode cX11_sat 42 = .ok (.iload_n 1, 1) := by decide +kernel
theorem dX11_sat_43 : decode cX11_sat 43 = .ok (.imul, 1) := by decide +kernel
theorem dX11_sat_44 : decode cX11_sat 44 = .ok (.iload_n 2, 1) := by decide +kernel
theorem dX11_sat_45 : decode cX11_sat 45 = .ok (.iadd, 1) := by decide +kernel
theorem dX11_sat_46 : decode cX11_sat 46 = .ok (.iaload, 1) := by decide +kernel
theorem dX11_sat_47 : decode cX11_sat 47 = .ok (.goto 11, 3) := by decide +kernel
theorem dX11_sat_50 : decode cX11_sat 50 = .ok (.aload_n 0, 1) := by decide +kernel
theorem dX11_sat_51 : decode cX11_sat 51 = .ok (.iload_n 2, 1) := by decide +kernel
theorem dX11_sat_52 : decode cX11_sat 52 = .ok (.iconst 5, 1) := by decide +kernel
theorem dX11_sat_53 : decode cX11_sat 53 = .ok (.isub, 1) := by decide +kernel
theorem dX11_sat_54 : decode cX11_sat 54 = .ok (.iload_n 1, 1) := by decide +kernel
theorem dX11_sat_55 : decode cX11_sat 55 = .ok (.invokevirtual 140, 3) := by decide +kernel
theorem dX11_sat_58 : decode cX11_sat 58 = .ok (.ireturn, 1) := by decide +kernel
theorem dX11_antenna_0 : decode cX11_antenna 0 = .ok (.aload_n 0, 1) := by decide +kernel
theorem dX11_antenna_1 : decode cX11_antenna 1 = .ok (.iload_n 1, 1) := by decide +kernel
theorem dX11_antenna_2 : decode cX11_antenna 2 = .ok (.invokevirtual 144, 3) := by decide +kernel
theorem dX11_antenna_5 : decode cX11_antenna 5 = .ok (.ifCond .eq 15, 3) := by decide +kernel
theorem dX11_antenna_8 : decode cX11_antenna 8 = .ok (.iload_n 2, 1) := by decide +kernel
theorem dX11_antenna_9 : decode cX11_antenna 9 = .ok (.i2l, 1) := by decide +kernel
theorem dX11_antenna_10 : decode cX11_antenna 10 = .ok (.lconst 0, 1) := by decide +kernel
theorem dX11_antenna_11 : decode cX11_antenna 11 = .ok (.ldc2_w 138, 3) := by decide +kernel
theorem dX11_antenna_14 : decode cX11_antenna 14 = .ok (.invokestatic 93, 3) := by decide +kernel
theorem dX11_antenna_17 : decode cX11_antenna 17 = .ok (.ifCond .ne 5, 3) := by decide +kernel
theorem dX11_antenna_20 : decode cX11_antenna 20 = .ok (.iconst (-1), 1) := by decide +kernel
theorem dX11_antenna_21 : decode cX11_antenna 21 = .ok (.ireturn, 1) := by decide +kernel
theorem dX11_antenna_22 : decode cX11_antenna 22 = .ok (.aload_n 0, 1) := by decide +kernel
theorem dX11_antenna_23 : decode cX11_antenna 23 = .ok (.getfield 52, 3) := by decide +kernel
theorem dX11_antenna_26 : decode cX11_antenna 26 = .ok (.bipush 24, 2) := by decide +kernel
theorem dX11_antenna_28 : decode cX11_antenna 28 = .ok (.iconst 2, 1) := by decide +kernel
theorem dX11_antenna_29 : decode cX11_antenna 29 = .ok (.iload_n 1, 1) := by decide +kernel
theorem dX11_antenna_30 : decode cX11_antenna 30 = .ok (.imul, 1) := by decide +kernel
theorem dX11_antenna_31 : decode cX11_antenna 31 = .ok (.iadd, 1) := by decide +kernel
theorem dX11_antenna_32 : decode cX11_antenna 32 = .ok (.iaload, 1) := by decide +kernel
theorem dX11_antenna_33 : decode cX11_antenna 33 = .ok (.aload_n 0, 1) := by decide +kernel
theorem dX11_antenna_34 : decode cX11_antenna 34 = .ok (.getfield 52, 3) := by decide +kernel
theorem dX11_antenna_37 : decode cX11_antenna 37 = .ok (.bipush 24, 2) := by decide +kernel
theorem dX11_antenna_39 : decode cX11_antenna 39 = .ok (.iconst 2, 1) := by decide +kernel
theorem dX11_antenna_40 : decode cX11_antenna 40 = .ok (.iload_n 1, 1) := by decide +kernel
theorem dX11_antenna_41 : decode cX11_antenna 41 = .ok (.imul, 1) := by decide +kernel
theorem dX11_antenna_42 : decode cX11_antenna 42 = .ok (.iadd, 1) := by decide +kernel
theorem dX11_antenna_43 : decode cX11_antenna 43 = .ok (.iconst 1, 1) := by decide +kernel
theorem dX11_antenna_44 : decode cX11_antenna 44 = .ok (.iadd, 1) := by decide +kernel
theorem dX11_antenna_45 : decode cX11_antenna 45 = .ok (.iaload, 1) := by decide +kernel
theorem dX11_antenna_46 : decode cX11_antenna 46 = .ok (.if_icmp .gt 7, 3) := by decide +kernel
theorem dX11_antenna_49 : decode cX11_antenna 49 = .ok (.iconst 1, 1) := by decide +kernel
theorem dX11_antenna_50 : decode cX11_antenna 50 = .ok (.goto 4, 3) := by decide +kernel
theorem dX11_antenna_53 : decode cX11_antenna 53 = .ok (.iconst 0, 1) := by decide +kernel
theorem dX11_antenna_54 : decode cX11_antenna 54 = .ok (.istore_n 3, 1) := by decide +kernel
theorem dX11_antenna_55 : decode cX11_antenna 55 = .ok (.iload_n 2, 1) := by decide +kernel
theorem dX11_antenna_56 : decode cX11_antenna 56 = .ok (.iconst 3, 1) := by decide +kernel
theorem dX11_antenna_57 : decode cX11_antenna 57 = .ok (.if_icmp .ge 16, 3) := by decide +kernel
theorem dX11_antenna_60 : decode cX11_antenna 60 = .ok (.aload_n 0, 1) := by decide +kernel
theorem dX11_antenna_61 : decode cX11_antenna 61 = .ok (.getfield 19, 3) := by decide +kernel
theorem dX11_antenna_64 : decode cX11_antenna 64 = .ok (.iconst 3, 1) := by decide +kernel
theorem dX11_antenna_65 : decode cX11_antenna 65 = .ok (.iload_n 1, 1) := by decide +kernel
theorem dX11_antenna_66 : decode cX11_antenna 66 = .ok (.imul, 1) := by decide +kernel
theorem dX11_antenna_67 : decode cX11_antenna 67 = .ok (.iload_n 2, 1) := by decide +kernel
theorem dX11_antenna_68 : decode cX11_antenna 68 = .ok (.iadd, 1) := by decide +kernel
theorem dX11_antenna_69 : decode cX11_antenna 69 = .ok (.iaload, 1) := by decide +kernel
theorem dX11_antenna_70 : decode cX11_antenna 70 = .ok (.goto 43, 3) := by decide +kernel
theorem dX11_antenna_73 : decode cX11_antenna 73 = .ok (.iload_n 2, 1) := by decide +kernel
theorem dX11_antenna_74 : decode cX11_antenna 74 = .ok (.iconst 5, 1) := by decide +kernel
theorem dX11_antenna_75 : decode cX11_antenna 75 = .ok (.if_icmp .ge 30, 3) := by decide +kernel
theorem dX11_antenna_78 : decode cX11_antenna 78 = .ok (.iload_n 3, 1) := by decide +kernel
theorem dX11_antenna_79 : decode cX11_antenna 79 = .ok (.ifCond .eq 21, 3) := by decide +kernel
theorem dX11_antenna_82 : decode cX11_antenna 82 = .ok (.aload_n 0, 1) := by decide +kernel
theorem dX11_antenna_83 : decode cX11_antenna 83 = .ok (.getfield 52, 3) := by decide +kernel
theorem dX11_antenna_86 : decode cX11_antenna 86 = .ok (.bipush 24, 2) := by decide +kernel
theorem dX11_antenna_88 : decode cX11_antenna 88 = .ok (.iconst 2, 1) := by decide +kernel
theorem dX11_antenna_89 : decode cX11_antenna 89 = .ok (.iload_n 1, 1) := by decide +kernel
theorem dX11_antenna_90 : decode cX11_antenna 90 = .ok (.imul, 1) := by decide +kernel
theorem dX11_antenna_91 : decode cX11_antenna 91 = .ok (.iadd, 1) := by decide +kernel
theorem dX11_antenna_92 : decode cX11_antenna 92 = .ok (.iload_n 2, 1) := by decide +kernel
theorem dX11_antenna_93 : decode cX11_antenna 93 = .ok (.iadd, 1) := by decide +kernel
theorem dX11_antenna_94 : decode cX11_antenna 94 = .ok (.iconst 3, 1) := by decide +kernel
theorem dX11_antenna_95 : decode cX11_antenna 95 = .ok (.isub, 1) := by decide +kernel
theorem dX11_antenna_96 : decode cX11_antenna 96 = .ok (.iaload, 1) := by decide +kernel
theorem dX11_antenna_97 : decode cX11_antenna 97 = .ok (.goto 16, 3) := by decide +kernel
theorem dX11_antenna_100 : decode cX11_antenna 100 = .ok (.bipush (-4), 2) := by decide +kernel
theorem dX11_antenna_102 : decode cX11_antenna 102 = .ok (.goto 11, 3) := by decide +kernel
theorem dX11_antenna_105 : decode cX11_antenna 105 = .ok (.aload_n 0, 1) := by decide +kernel
theorem dX11_antenna_106 : decode cX11_antenna 106 = .ok (.iload_n 2, 1) := by decide +kernel
theorem dX11_antenna_107 : decode cX11_antenna 107 = .ok (.iconst 3, 1) := by decide +kernel
theorem dX11_antenna_108 : decode cX11_antenna 108 = .ok (.isub, 1) := by decide +kernel
theorem dX11_antenna_109 : decode cX11_antenna 109 = .ok (.iload_n 1, 1) := by decide +kernel
theorem dX11_antenna_110 : decode cX11_antenna 110 = .ok (.invokevirtual 140, 3) := by decide +kernel
theorem dX11_antenna_113 : decode cX11_antenna 113 = .ok (.ireturn, 1) := by decide +kernel
theorem dX11_seen_0 : decode cX11_seen 0 = .ok (.iload_n 1, 1) := by decide +kernel
theorem dX11_seen_1 : decode cX11_seen 1 = .ok (.i2l, 1) := by decide +kernel
theorem dX11_seen_2 : decode cX11_seen 2 = .ok (.lconst 0, 1) := by decide +kernel
theorem dX11_seen_3 : decode cX11_seen 3 = .ok (.aload_n 0, 1) := by decide +kernel
theorem dX11_seen_4 : decode cX11_seen 4 = .ok (.getfield 22, 3) := by decide +kernel
theorem dX11_seen_7 : decode cX11_seen 7 = .ok (.iconst 0, 1) := by decide +kernel
theorem dX11_seen_8 : decode cX11_seen 8 = .ok (.iaload, 1) := by decide +kernel
theorem dX11_seen_9 : decode cX11_seen 9 = .ok (.iconst 1, 1) := by decide +kernel
theorem dX11_seen_10 : decode cX11_seen 10 = .ok (.isub, 1) := by decide +kernel
theorem dX11_seen_11 : decode cX11_seen 11 = .ok (.i2l, 1) := by decide +kernel
theorem dX11_seen_12 : decode cX11_seen 12 = .ok (.invokestatic 93, 3) := by decide +kernel
theorem dX11_seen_15 : decode cX11_seen 15 = .ok (.ifCond .eq 33, 3) := by decide +kernel
theorem dX11_seen_18 : decode cX11_seen 18 = .ok (.iload_n 2, 1) := by decide +kernel
theorem dX11_seen_19 : decode cX11_seen 19 = .ok (.i2l, 1) := by decide +kernel
theorem dX11_seen_20 : decode cX11_seen 20 = .ok (.lconst 0, 1) := by decide +kernel
theorem dX11_seen_21 : decode cX11_seen 21 = .ok (.aload_n 0, 1) := by decide +kernel
theorem dX11_seen_22 : decode cX11_seen 22 = .ok (.getfield 22, 3) := by decide +kernel
theorem dX11_seen_25 : decode cX11_seen 25 = .ok (.iconst 1, 1) := by decide +kernel
theorem dX11_seen_26 : decode cX11_seen 26 = .ok (.iaload, 1) := by decide +kernel
theorem dX11_seen_27 : decode cX11_seen 27 = .ok (.iconst 1, 1) := by decide +kernel
theorem dX11_seen_28 : decode cX11_seen 28 = .ok (.isub, 1) := by decide +kernel
theorem dX11_seen_29 : decode cX11_seen 29 = .ok (.i2l, 1) := by decide +kernel
theorem dX11_seen_30 : decode cX11_seen 30 = .ok (.invokestatic 93, 3) := by decide +kernel
theorem dX11_seen_33 : decode cX11_seen 33 = .ok (.ifCond .eq 15, 3) := by decide +kernel
theorem dX11_seen_36 : decode cX11_seen 36 = .ok (.iload_n 3, 1) := by decide +kernel
theorem dX11_seen_37 : decode cX11_seen 37 = .ok (.i2l, 1) := by decide +kernel
theorem dX11_seen_38 : decode cX11_seen 38 = .ok (.lconst 0, 1) := by decide +kernel
theorem dX11_seen_39 : decode cX11_seen 39 = .ok (.ldc2_w 147, 3) := by decide +kernel
theorem dX11_seen_42 : decode cX11_seen 42 = .ok (.invokestatic 93, 3) := by decide +kernel
theorem dX11_seen_45 : decode cX11_seen 45 = .ok (.ifCond .ne 5, 3) := by decide +kernel
theorem dX11_seen_48 : decode cX11_seen 48 = .ok (.iconst (-1), 1) := by decide +kernel
theorem dX11_seen_49 : decode cX11_seen 49 = .ok (.ireturn, 1) := by decide +kernel
theorem dX11_seen_50 : decode cX11_seen 50 = .ok (.aload_n 0, 1) := by decide +kernel
theorem dX11_seen_51 : decode cX11_seen 51 = .ok (.iload_n 1, 1) := by decide +kernel
theorem dX11_seen_52 : decode cX11_seen 52 = .ok (.iload_n 2, 1) := by decide +kernel
theorem dX11_seen_53 : decode cX11_seen 53 = .ok (.iload_n 3, 1) := by decide +kernel
theorem dX11_seen_54 : decode cX11_seen 54 = .ok (.invokevirtual 127, 3) := by decide +kernel
theorem dX11_seen_57 : decode cX11_seen 57 = .ok (.ifCond .eq 7, 3) := by decide +kernel
theorem dX11_seen_60 : decode cX11_seen 60 = .ok (.iconst 1, 1) := by decide +kernel
theorem dX11_seen_61 : decode cX11_seen 61 = .ok (.goto 4, 3) := by decide +kernel
theorem dX11_seen_64 : decode cX11_seen 64 = .ok (.iconst 0, 1) := by decide +kernel
theorem dX11_seen_65 : decode cX11_seen 65 = .ok (.ireturn, 1) := by decide +kernel
theorem dX11_pass_0 : decode cX11_pass 0 = .ok (.aload_n 0, 1) := by decide +kernel
theorem dX11_pass_1 : decode cX11_pass 1 = .ok (.iload_n 1, 1) := by decide +kernel
theorem dX11_pass_2 : decode cX11_pass 2 = .ok (.invokevirtual 149, 3) := by decide +kernel
theorem dX11_pass_5 : decode cX11_pass 5 = .ok (.ifCond .eq 15, 3) := by decide +kernel
theorem dX11_pass_8 : decode cX11_pass 8 = .ok (.iload_n 2, 1) := by decide +kernel
theorem dX11_pass_9 : decode cX11_pass 9 = .ok (.i2l, 1) := by decide +kernel
theorem dX11_pass_10 : decode cX11_pass 10 = .ok (.lconst 0, 1) := by decide +kernel
theorem dX11_pass_11 : decode cX11_pass 11 = .ok (.ldc2_w 138, 3) := by decide +kernel
theorem dX11_pass_14 : decode cX11_pass 14 = .ok (.invokestatic 93, 3) := by decide +kernel
theorem dX11_pass_17 : decode cX11_pass 17 = .ok (.ifCond .ne 5, 3) := by decide +kernel
theorem dX11_pass_20 : decode cX11_pass 20 = .ok (.iconst (-1), 1) := by decide +kernel
theorem dX11_pass_21 : decode cX11_pass 21 = .ok (.ireturn, 1) := by decide +kernel
theorem dX11_pass_22 : decode cX11_pass 22 = .ok (.iconst 0, 1) := by decide +kernel
theorem dX11_pass_23 : decode cX11_pass 23 = .ok (.istore_n 3, 1) := by decide +kernel
theorem dX11_pass_24 : decode cX11_pass 24 = .ok (.iconst 0, 1) := by decide +kernel
theorem dX11_pass_25 : decode cX11_pass 25 = .ok (.istore 4, 2) := by decide +kernel
theorem dX11_pass_27 : decode cX11_pass 27 = .ok (.iload 4, 2) := by decide +kernel
theorem dX11_pass_29 : decode cX11_pass 29 = .ok (.aload_n 0, 1) := by decide +kernel
theorem dX11_pass_30 : decode cX11_pass 30 = .ok (.getfield 22, 3) := by decide +kernel
theorem dX11_pass_33 : decode cX11_pass 33 = .ok (.iconst 2, 1) := by decide +kernel
theorem dX11_pass_34 : decode cX11_pass 34 = .ok (.iaload, 1) := by decide +kernel
theorem dX11_pass_35 : decode cX11_pass 35 = .ok (.if_icmp .ge 30, 3) := by decide +kernel
theorem dX11_pass_38 : decode cX11_pass 38 = .ok (.iload_n 3, 1) := by decide +kernel
theorem dX11_pass_39 : decode cX11_pass 39 = .ok (.aload_n 0, 1) := by decide +kernel
theorem dX11_pass_40 : decode cX11_pass 40 = .ok (.iload_n 1, 1) := by decide +kernel
theorem dX11_pass_41 : decode cX11_pass 41 = .ok (.iload 4, 2) := by decide +kernel
theorem dX11_pass_43 : decode cX11_pass 43 = .ok (.invokevirtual 152, 3) := by decide +kernel
theorem dX11_pass_46 : decode cX11_pass 46 = .ok (.ifCond .eq 10, 3) := by decide +kernel
theorem dX11_pass_49 : decode cX11_pass 49 = .ok (.iconst 1, 1) := by decide +kernel
theorem dX11_pass_50 : decode cX11_pass 50 = .ok (.iload 4, 2) := by decide +kernel
theorem dX11_pass_52 : decode cX11_pass 52 = .ok (.ishl, 1) := by decide +kernel
theorem dX11_pass_53 : decode cX11_pass 53 = .ok (.goto 4, 3) := by decide +kernel
theorem dX11_pass_56 : decode cX11_pass 56 = .ok (.iconst 0, 1) := by decide +kernel
theorem dX11_pass_57 : decode cX11_pass 57 = .ok (.ior, 1) := by decide +kernel
theorem dX11_pass_58 : decode cX11_pass 58 = .ok (.istore_n 3, 1) := by decide +kernel
theorem dX11_pass_59 : decode cX11_pass 59 = .ok (.iinc 4 1, 3) := by decide +kernel
theorem dX11_pass_62 : decode cX11_pass 62 = .ok (.goto (-35), 3) := by decide +kernel
theorem dX11_pass_65 : decode cX11_pass 65 = .ok (.iload_n 2, 1) := by decide +kernel
theorem dX11_pass_66 : decode cX11_pass 66 = .ok (.tableswitch 80 0 5 #[38, 45, 52, 59, 66, 73], 38) := by decide +kernel
theorem dX11_pass_104 : decode cX11_pass 104 = .ok (.aload_n 0, 1) := by decide +kernel
theorem dX11_pass_105 : decode cX11_pass 105 = .ok (.getfield 37, 3) := by decide +kernel
theorem dX11_pass_108 : decode cX11_pass 108 = .ok (.iload_n 1, 1) := by decide +kernel
theorem dX11_pass_109 : decode cX11_pass 109 = .ok (.iaload, 1) := by decide +kernel
theorem dX11_pass_110 : decode cX11_pass 110 = .ok (.ireturn, 1) := by decide +kernel
theorem dX11_pass_111 : decode cX11_pass 111 = .ok (.aload_n 0, 1) := by decide +kernel
theorem dX11_pass_112 : decode cX11_pass 112 = .ok (.getfield 40, 3) := by decide +kernel
theorem dX11_pass_115 : decode cX11_pass 115 = .ok (.iload_n 1, 1) := by decide +kernel
theorem dX11_pass_116 : decode cX11_pass 116 = .ok (.iaload, 1) := by decide +kernel
theorem dX11_pass_117 : decode cX11_pass 117 = .ok (.ireturn, 1) := by decide +kernel
theorem dX11_pass_118 : decode cX11_pass 118 = .ok (.aload_n 0, 1) := by decide +kernel
theorem dX11_pass_119 : decode cX11_pass 119 = .ok (.getfield 43, 3) := by decide +kernel
theorem dX11_pass_122 : decode cX11_pass 122 = .ok (.iload_n 1, 1) := by decide +kernel
theorem dX11_pass_123 : decode cX11_pass 123 = .ok (.iaload, 1) := by decide +kernel
theorem dX11_pass_124 : decode cX11_pass 124 = .ok (.ireturn, 1) := by decide +kernel
theorem dX11_pass_125 : decode cX11_pass 125 = .ok (.aload_n 0, 1) := by decide +kernel
theorem dX11_pass_126 : decode cX11_pass 126 = .ok (.getfield 46, 3) := by decide +kernel
theorem dX11_pass_129 : decode cX11_pass 129 = .ok (.iload_n 1, 1) := by decide +kernel
theorem dX11_pass_130 : decode cX11_pass 130 = .ok (.iaload, 1) := by decide +kernel
theorem dX11_pass_131 : decode cX11_pass 131 = .ok (.ireturn, 1) := by decide +kernel
theorem dX11_pass_132 : decode cX11_pass 132 = .ok (.aload_n 0, 1) := by decide +kernel
theorem dX11_pass_133 : decode cX11_pass 133 = .ok (.getfield 49, 3) := by decide +kernel
theorem dX11_pass_136 : decode cX11_pass 136 = .ok (.iload_n 1, 1) := by decide +kernel
theorem dX11_pass_137 : decode cX11_pass 137 = .ok (.iaload, 1) := by decide +kernel
theorem dX11_pass_138 : decode cX11_pass 138 = .ok (.ireturn, 1) := by decide +kernel
theorem dX11_pass_139 : decode cX11_pass 139 = .ok (.aload_n 0, 1) := by decide +kernel
theorem dX11_pass_140 : decode cX11_pass 140 = .ok (.getfield 52, 3) := by decide +kernel
theorem dX11_pass_143 : decode cX11_pass 143 = .ok (.iload_n 1, 1) := by decide +kernel
theorem dX11_pass_144 : decode cX11_pass 144 = .ok (.iaload, 1) := by decide +kernel
theorem dX11_pass_145 : decode cX11_pass 145 = .ok (.ireturn, 1) := by decide +kernel
theorem dX11_pass_146 : decode cX11_pass 146 = .ok (.iload_n 3, 1) := by decide +kernel
theorem dX11_pass_147 : decode cX11_pass 147 = .ok (.ireturn, 1) := by decide +kernel
theorem dX11_rateAt_0 : decode cX11_rateAt 0 = .ok (.aload_n 0, 1) := by decide +kernel
theorem dX11_rateAt_1 : decode cX11_rateAt 1 = .ok (.aload_n 0, 1) := by decide +kernel
theorem dX11_rateAt_2 : decode cX11_rateAt 2 = .ok (.getfield 43, 3) := by decide +kernel
theorem dX11_rateAt_5 : decode cX11_rateAt 5 = .ok (.iload_n 1, 1) := by decide +kernel
theorem dX11_rateAt_6 : decode cX11_rateAt 6 = .ok (.iaload, 1) := by decide +kernel
theorem dX11_rateAt_7 : decode cX11_rateAt 7 = .ok (.iload_n 2, 1) := by decide +kernel
theorem dX11_rateAt_8 : decode cX11_rateAt 8 = .ok (.aload_n 0, 1) := by decide +kernel
theorem dX11_rateAt_9 : decode cX11_rateAt 9 = .ok (.getfield 37, 3) := by decide +kernel
theorem dX11_rateAt_12 : decode cX11_rateAt 12 = .ok (.iload_n 1, 1) := by decide +kernel
theorem dX11_rateAt_13 : decode cX11_rateAt 13 = .ok (.iaload, 1) := by decide +kernel
theorem dX11_rateAt_14 : decode cX11_rateAt 14 = .ok (.isub, 1) := by decide +kernel
theorem dX11_rateAt_15 : decode cX11_rateAt 15 = .ok (.aload_n 0, 1) := by decide +kernel
theorem dX11_rateAt_16 : decode cX11_rateAt 16 = .ok (.getfield 40, 3) := by decide +kernel
theorem dX11_rateAt_19 : decode cX11_rateAt 19 = .ok (.iload_n 1, 1) := by decide +kernel
theorem dX11_rateAt_20 : decode cX11_rateAt 20 = .ok (.iaload, 1) := by decide +kernel
theorem dX11_rateAt_21 : decode cX11_rateAt 21 = .ok (.aload_n 0, 1) := by decide +kernel
theorem dX11_rateAt_22 : decode cX11_rateAt 22 = .ok (.getfield 37, 3) := by decide +kernel
theorem dX11_rateAt_25 : decode cX11_rateAt 25 = .ok (.iload_n 1, 1) := by decide +kernel
theorem dX11_rateAt_26 : decode cX11_rateAt 26 = .ok (.iaload, 1) := by decide +kernel
theorem dX11_rateAt_27 : decode cX11_rateAt 27 = .ok (.isub, 1) := by decide +kernel
theorem dX11_rateAt_28 : decode cX11_rateAt 28 = .ok (.iconst 1, 1) := by decide +kernel
theorem dX11_rateAt_29 : decode cX11_rateAt 29 = .ok (.iadd, 1) := by decide +kernel
theorem dX11_rateAt_30 : decode cX11_rateAt 30 = .ok (.invokevirtual 131, 3) := by decide +kernel
theorem dX11_rateAt_33 : decode cX11_rateAt 33 = .ok (.ireturn, 1) := by decide +kernel
theorem dX11_rate_0 : decode cX11_rate 0 = .ok (.aload_n 0, 1) := by decide +kernel
theorem dX11_rate_1 : decode cX11_rate 1 = .ok (.iload_n 1, 1) := by decide +kernel
theorem dX11_rate_2 : decode cX11_rate 2 = .ok (.invokevirtual 149, 3) := by decide +kernel
theorem dX11_rate_5 : decode cX11_rate 5 = .ok (.ifCond .eq 15, 3) := by decide +kernel
theorem dX11_rate_8 : decode cX11_rate 8 = .ok (.iload_n 2, 1) := by decide +kernel
theorem dX11_rate_9 : decode cX11_rate 9 = .ok (.i2l, 1) := by decide +kernel
theorem dX11_rate_10 : decode cX11_rate 10 = .ok (.lconst 0, 1) := by decide +kernel
theorem dX11_rate_11 : decode cX11_rate 11 = .ok (.ldc2_w 147, 3) := by decide +kernel
theorem dX11_rate_14 : decode cX11_rate 14 = .ok (.invokestatic 93, 3) := by decide +kernel
theorem dX11_rate_17 : decode cX11_rate 17 = .ok (.ifCond .ne 5, 3) := by decide +kernel
theorem dX11_rate_20 : decode cX11_rate 20 = .ok (.iconst (-1), 1) := by decide +kernel
theorem dX11_rate_21 : decode cX11_rate 21 = .ok (.ireturn, 1) := by decide +kernel
theorem dX11_rate_22 : decode cX11_rate 22 = .ok (.iload_n 2, 1) := by decide +kernel
theorem dX11_rate_23 : decode cX11_rate 23 = .ok (.i2l, 1) := by decide +kernel
theorem dX11_rate_24 : decode cX11_rate 24 = .ok (.aload_n 0, 1) := by decide +kernel
theorem dX11_rate_25 : decode cX11_rate 25 = .ok (.getfield 37, 3) := by decide +kernel
theorem dX11_rate_28 : decode cX11_rate 28 = .ok (.iload_n 1, 1) := by decide +kernel
theorem dX11_rate_29 : decode cX11_rate 29 = .ok (.iaload, 1) := by decide +kernel
theorem dX11_rate_30 : decode cX11_rate 30 = .ok (.i2l, 1) := by decide +kernel
theorem dX11_rate_31 : decode cX11_rate 31 = .ok (.aload_n 0, 1) := by decide +kernel
theorem dX11_rate_32 : decode cX11_rate 32 = .ok (.getfield 40, 3) := by decide +kernel
theorem dX11_rate_35 : decode cX11_rate 35 = .ok (.iload_n 1, 1) := by decide +kernel
theorem dX11_rate_36 : decode cX11_rate 36 = .ok (.iaload, 1) := by decide +kernel
theorem dX11_rate_37 : decode cX11_rate 37 = .ok (.i2l, 1) := by decide +kernel
theorem dX11_rate_38 : decode cX11_rate 38 = .ok (.invokestatic 93, 3) := by decide +kernel
theorem dX11_rate_41 : decode cX11_rate 41 = .ok (.ifCond .eq 12, 3) := by decide +kernel
theorem dX11_rate_44 : decode cX11_rate 44 = .ok (.aload_n 0, 1) := by decide +kernel
theorem dX11_rate_45 : decode cX11_rate 45 = .ok (.iload_n 1, 1) := by decide +kernel
theorem dX11_rate_46 : decode cX11_rate 46 = .ok (.iload_n 2, 1) := by decide +kernel
theorem dX11_rate_47 : decode cX11_rate 47 = .ok (.invokevirtual 156, 3) := by decide +kernel
theorem dX11_rate_50 : decode cX11_rate 50 = .ok (.goto 5, 3) := by decide +kernel
theorem dX11_rate_53 : decode cX11_rate 53 = .ok (.bipush (-4), 2) := by decide +kernel
theorem dX11_rate_55 : decode cX11_rate 55 = .ok (.ireturn, 1) := by decide +kernel
theorem dX11_whyNot_0 : decode cX11_whyNot 0 = .ok (.aload_n 0, 1) := by decide +kernel
theorem dX11_whyNot_1 : decode cX11_whyNot 1 = .ok (.getfield 52, 3) := by decide +kernel
theorem dX11_whyNot_4 : decode cX11_whyNot 4 = .ok (.iload_n 1, 1) := by decide +kernel
theorem dX11_whyNot_5 : decode cX11_whyNot 5 = .ok (.iaload, 1) := by decide +kernel
theorem dX11_whyNot_6 : decode cX11_whyNot 6 = .ok (.bipush (-4), 2) := by decide +kernel
theorem dX11_whyNot_8 : decode cX11_whyNot 8 = .ok (.if_icmp .ne 12, 3) := by decide +kernel
theorem dX11_whyNot_11 : decode cX11_whyNot 11 = .ok (.aload_n 0, 1) := by decide +kernel
theorem dX11_whyNot_12 : decode cX11_whyNot 12 = .ok (.iload_n 1, 1) := by decide +kernel
theorem dX11_whyNot_13 : decode cX11_whyNot 13 = .ok (.iload_n 2, 1) := by decide +kernel
theorem dX11_whyNot_14 : decode cX11_whyNot 14 = .ok (.invokevirtual 152, 3) := by decide +kernel
theorem dX11_whyNot_17 : decode cX11_whyNot 17 = .ok (.ifCond .ne 20, 3) := by decide +kernel
theorem dX11_whyNot_20 : decode cX11_whyNot 20 = .ok (.aload_n 0, 1) := by decide +kernel
theorem dX11_whyNot_21 : decode cX11_whyNot 21 = .ok (.getfield 52, 3) := by decide +kernel
theorem dX11_whyNot_24 : decode cX11_whyNot 24 = .ok (.iload_n 1, 1) := by decide +kernel
theorem dX11_whyNot_25 : decode cX11_whyNot 25 = .ok (.iaload, 1) := by decide +kernel
theorem dX11_whyNot_26 : decode cX11_whyNot 26 = .ok (.bipush (-4), 2) := by decide +kernel
theorem dX11_whyNot_28 : decode cX11_whyNot 28 = .ok (.if_icmp .eq 7, 3) := by decide +kernel
theorem dX11_whyNot_31 : decode cX11_whyNot 31 = .ok (.iconst 1, 1) := by decide +kernel
theorem dX11_whyNot_32 : decode cX11_whyNot 32 = .ok (.goto 4, 3) := by decide +kernel
theorem dX11_whyNot_35 : decode cX11_whyNot 35 = .ok (.iconst 2, 1) := by decide +kernel
theorem dX11_whyNot_36 : decode cX11_whyNot 36 = .ok (.ireturn, 1) := by decide +kernel
theorem dX11_whyNot_37 : decode cX11_whyNot 37 = .ok (.iconst 0, 1) := by decide +kernel
theorem dX11_whyNot_38 : decode cX11_whyNot 38 = .ok (.istore_n 3, 1) := by decide +kernel
theorem dX11_whyNot_39 : decode cX11_whyNot 39 = .ok (.iconst 0, 1) := by decide +kernel
theorem dX11_whyNot_40 : decode cX11_whyNot 40 = .ok (.istore 4, 2) := by decide +kernel
theorem dX11_whyNot_42 : decode cX11_whyNot 42 = .ok (.iconst 0, 1) := by decide +kernel
theorem dX11_whyNot_43 : decode cX11_whyNot 43 = .ok (.istore 5, 2) := by decide +kernel
theorem dX11_whyNot_45 : decode cX11_whyNot 45 = .ok (.iload 5, 2) := by decide +kernel
theorem dX11_whyNot_47 : decode cX11_whyNot 47 = .ok (.aload_n 0, 1) := by decide +kernel
theorem dX11_whyNot_48 : decode cX11_whyNot 48 = .ok (.getfield 124, 3) := by decide +kernel
theorem dX11_whyNot_51 : decode cX11_whyNot 51 = .ok (.if_icmp .ge 103, 3) := by decide +kernel
theorem dX11_whyNot_54 : decode cX11_whyNot 54 = .ok (.iload_n 3, 1) := by decide +kernel
theorem dX11_whyNot_55 : decode cX11_whyNot 55 = .ok (.ifCond .ne 31, 3) := by decide +kernel
theorem dX11_whyNot_58 : decode cX11_whyNot 58 = .ok (.iload 5, 2) := by decide +kernel
theorem dX11_whyNot_60 : decode cX11_whyNot 60 = .ok (.iload_n 1, 1) := by decide +kernel
theorem dX11_whyNot_61 : decode cX11_whyNot 61 = .ok (.if_icmp .eq 29, 3) := by decide +kernel
theorem dX11_whyNot_64 : decode cX11_whyNot 64 = .ok (.aload_n 0, 1) := by decide +kernel
theorem dX11_whyNot_65 : decode cX11_whyNot 65 = .ok (.getfield 52, 3) := by decide +kernel
theorem dX11_whyNot_68 : decode cX11_whyNot 68 = .ok (.iload 5, 2) := by decide +kernel
theorem dX11_whyNot_70 : decode cX11_whyNot 70 = .ok (.iaload, 1) := by decide +kernel
theorem dX11_whyNot_71 : decode cX11_whyNot 71 = .ok (.iload_n 2, 1) := by decide +kernel
theorem dX11_whyNot_72 : decode cX11_whyNot 72 = .ok (.if_icmp .ne 18, 3) := by decide +kernel
theorem dX11_whyNot_75 : decode cX11_whyNot 75 = .ok (.aload_n 0, 1) := by decide +kernel
theorem dX11_whyNot_76 : decode cX11_whyNot 76 = .ok (.iload_n 1, 1) := by decide +kernel
theorem dX11_whyNot_77 : decode cX11_whyNot 77 = .ok (.iload 5, 2) := by decide +kernel
theorem dX11_whyNot_79 : decode cX11_whyNot 79 = .ok (.iload_n 2, 1) := by decide +kernel
theorem dX11_whyNot_80 : decode cX11_whyNot 80 = .ok (.invokevirtual 159, 3) := by decide +kernel
theorem dX11_whyNot_83 : decode cX11_whyNot 83 = .ok (.ifCond .ne 7, 3) := by decide +kernel
theorem dX11_whyNot_86 : decode cX11_whyNot 86 = .ok (.iconst 1, 1) := by decide +kernel
theorem dX11_whyNot_87 : decode cX11_whyNot 87 = .ok (.goto 4, 3) := by decide +kernel
theorem dX11_whyNot_90 : decode cX11_whyNot 90 = .ok (.iconst 0, 1) := by decide +kernel
theorem dX11_whyNot_91 : decode cX11_whyNot 91 = .ok (.istore_n 3, 1) := by decide +kernel
theorem dX11_whyNot_92 : decode cX11_whyNot 92 = .ok (.iload 4, 2) := by decide +kernel
theorem dX11_whyNot_94 : decode cX11_whyNot 94 = .ok (.ifCond .ne 47, 3) := by decide +kernel
theorem dX11_whyNot_97 : decode cX11_whyNot 97 = .ok (.iload 5, 2) := by decide +kernel
theorem dX11_whyNot_99 : decode cX11_whyNot 99 = .ok (.iload_n 1, 1) := by decide +kernel
theorem dX11_whyNot_100 : decode cX11_whyNot 100 = .ok (.if_icmp .eq 45, 3) := by decide +kernel
theorem dX11_whyNot_103 : decode cX11_whyNot 103 = .ok (.aload_n 0, 1) := by decide +kernel
theorem dX11_whyNot_104 : decode cX11_whyNot 104 = .ok (.getfield 52, 3) := by decide +kernel
theorem dX11_whyNot_107 : decode cX11_whyNot 107 = .ok (.iload 5, 2) := by decide +kernel
theorem dX11_whyNot_109 : decode cX11_whyNot 109 = .ok (.iaload, 1) := by decide +kernel
theorem dX11_whyNot_110 : decode cX11_whyNot 110 = .ok (.bipush (-4), 2) := by decide +kernel
theorem dX11_whyNot_112 : decode cX11_whyNot 112 = .ok (.if_icmp .eq 33, 3) := by decide +kernel
theorem dX11_whyNot_115 : decode cX11_whyNot 115 = .ok (.aload_n 0, 1) := by decide +kernel
theorem dX11_whyNot_116 : decode cX11_whyNot 116 = .ok (.getfield 43, 3) := by decide +kernel
theorem dX11_whyNot_119 : decode cX11_whyNot 119 = .ok (.iload 5, 2) := by decide +kernel
theorem dX11_whyNot_121 : decode cX11_whyNot 121 = .ok (.iaload, 1) := by decide +kernel
theorem dX11_whyNot_122 : decode cX11_whyNot 122 = .ok (.aload_n 0, 1) := by decide +kernel
theorem dX11_whyNot_123 : decode cX11_whyNot 123 = .ok (.getfield 43, 3) := by decide +kernel
theorem dX11_whyNot_126 : decode cX11_whyNot 126 = .ok (.iload_n 1, 1) := by decide +kernel
theorem dX11_whyNot_127 : decode cX11_whyNot 127 = .ok (.iaload, 1) := by decide +kernel
theorem dX11_whyNot_128 : decode cX11_whyNot 128 = .ok (.if_icmp .ne 17, 3) := by decide +kernel
theorem dX11_whyNot_131 : decode cX11_whyNot 131 = .ok (.aload_n 0, 1) := by decide +kernel
theorem dX11_whyNot_132 : decode cX11_whyNot 132 = .ok (.iload_n 1, 1) := by decide +kernel
theorem dX11_whyNot_133 : decode cX11_whyNot 133 = .ok (.iload 5, 2) := by decide +kernel
theorem dX11_whyNot_135 : decode cX11_whyNot 135 = .ok (.invokevirtual 162, 3) := by decide +kernel
theorem dX11_whyNot_138 : decode cX11_whyNot 138 = .ok (.ifCond .eq 7, 3) := by decide +kernel
theorem dX11_whyNot_141 : decode cX11_whyNot 141 = .ok (.iconst 1, 1) := by decide +kernel
theorem dX11_whyNot_142 : decode cX11_whyNot 142 = .ok (.goto 4, 3) := by decide +kernel
theorem dX11_whyNot_145 : decode cX11_whyNot 145 = .ok (.iconst 0, 1) := by decide +kernel
theorem dX11_whyNot_146 : decode cX11_whyNot 146 = .ok (.istore 4, 2) := by decide +kernel
theorem dX11_whyNot_148 : decode cX11_whyNot 148 = .ok (.iinc 5 1, 3) := by decide +kernel
theorem dX11_whyNot_151 : decode cX11_whyNot 151 = .ok (.goto (-106), 3) := by decide +kernel
theorem dX11_whyNot_154 : decode cX11_whyNot 154 = .ok (.iload_n 3, 1) := by decide +kernel
theorem dX11_whyNot_155 : decode cX11_whyNot 155 = .ok (.ifCond .eq 7, 3) := by decide +kernel
theorem dX11_whyNot_158 : decode cX11_whyNot 158 = .ok (.iconst 3, 1) := by decide +kernel
theorem dX11_whyNot_159 : decode cX11_whyNot 159 = .ok (.goto 13, 3) := by decide +kernel
theorem dX11_whyNot_162 : decode cX11_whyNot 162 = .ok (.iload 4, 2) := by decide +kernel
theorem dX11_whyNot_164 : decode cX11_whyNot 164 = .ok (.ifCond .eq 7, 3) := by decide +kernel
theorem dX11_whyNot_167 : decode cX11_whyNot 167 = .ok (.iconst 4, 1) := by decide +kernel
theorem dX11_whyNot_168 : decode cX11_whyNot 168 = .ok (.goto 4, 3) := by decide +kernel
theorem dX11_whyNot_171 : decode cX11_whyNot 171 = .ok (.iconst 0, 1) := by decide +kernel
theorem dX11_whyNot_172 : decode cX11_whyNot 172 = .ok (.ireturn, 1) := by decide +kernel
theorem dX11_why_0 : decode cX11_why 0 = .ok (.aload_n 0, 1) := by decide +kernel
theorem dX11_why_1 : decode cX11_why 1 = .ok (.iload_n 1, 1) := by decide +kernel
theorem dX11_why_2 : decode cX11_why 2 = .ok (.invokevirtual 149, 3) := by decide +kernel
theorem dX11_why_5 : decode cX11_why 5 = .ok (.ifCond .eq 20, 3) := by decide +kernel
theorem dX11_why_8 : decode cX11_why 8 = .ok (.aload_n 0, 1) := by decide +kernel
theorem dX11_why_9 : decode cX11_why 9 = .ok (.iload_n 2, 1) := by decide +kernel
theorem dX11_why_10 : decode cX11_why 10 = .ok (.invokevirtual 144, 3) := by decide +kernel
theorem dX11_why_13 : decode cX11_why 13 = .ok (.ifCond .eq 12, 3) := by decide +kernel
theorem dX11_why_16 : decode cX11_why 16 = .ok (.aload_n 0, 1) := by decide +kernel
theorem dX11_why_17 : decode cX11_why 17 = .ok (.iload_n 1, 1) := by decide +kernel
theorem dX11_why_18 : decode cX11_why 18 = .ok (.iload_n 2, 1) := by decide +kernel
theorem dX11_why_19 : decode cX11_why 19 = .ok (.invokevirtual 165, 3) := by decide +kernel
theorem dX11_why_22 : decode cX11_why 22 = .ok (.goto 4, 3) := by decide +kernel
theorem dX11_why_25 : decode cX11_why 25 = .ok (.iconst (-1), 1) := by decide +kernel
theorem dX11_why_26 : decode cX11_why 26 = .ok (.ireturn, 1) := by decide +kernel
theorem dX11_note_0 : decode cX11_note 0 = .ok (.aload_n 0, 1) := by decide +kernel
theorem dX11_note_1 : decode cX11_note 1 = .ok (.getfield 135, 3) := by decide +kernel
theorem dX11_note_4 : decode cX11_note 4 = .ok (.bipush 6, 2) := by decide +kernel
theorem dX11_note_6 : decode cX11_note 6 = .ok (.if_icmp .ne 43, 3) := by decide +kernel
theorem dX11_note_9 : decode cX11_note 9 = .ok (.iconst 0, 1) := by decide +kernel
theorem dX11_note_10 : decode cX11_note 10 = .ok (.istore_n 1, 1) := by decide +kernel
theorem dX11_note_11 : decode cX11_note 11 = .ok (.iload_n 1, 1) := by decide +kernel
theorem dX11_note_12 : decode cX11_note 12 = .ok (.sipush 160, 3) := by decide +kernel
theorem dX11_note_15 : decode cX11_note 15 = .ok (.if_icmp .ge 24, 3) := by decide +kernel
theorem dX11_note_18 : decode cX11_note 18 = .ok (.aload_n 0, 1) := by decide +kernel
theorem dX11_note_19 : decode cX11_note 19 = .ok (.getfield 55, 3) := by decide +kernel
theorem dX11_note_22 : decode cX11_note 22 = .ok (.iload_n 1, 1) := by decide +kernel
theorem dX11_note_23 : decode cX11_note 23 = .ok (.aload_n 0, 1) := by decide +kernel
theorem dX11_note_24 : decode cX11_note 24 = .ok (.getfield 55, 3) := by decide +kernel
theorem dX11_note_27 : decode cX11_note 27 = .ok (.bipush 32, 2) := by decide +kernel
theorem dX11_note_29 : decode cX11_note 29 = .ok (.iload_n 1, 1) := by decide +kernel
theorem dX11_note_30 : decode cX11_note 30 = .ok (.iadd, 1) := by decide +kernel
theorem dX11_note_31 : decode cX11_note 31 = .ok (.iaload, 1) := by decide +kernel
theorem dX11_note_32 : decode cX11_note 32 = .ok (.iastore, 1) := by decide +kernel
theorem dX11_note_33 : decode cX11_note 33 = .ok (.iinc 1 1, 3) := by decide +kernel
theorem dX11_note_36 : decode cX11_note 36 = .ok (.goto (-25), 3) := by decide +kernel
theorem dX11_note_39 : decode cX11_note 39 = .ok (.aload_n 0, 1) := by decide +kernel
theorem dX11_note_40 : decode cX11_note 40 = .ok (.dup, 1) := by decide +kernel
theorem dX11_note_41 : decode cX11_note 41 = .ok (.getfield 135, 3) := by decide +kernel
theorem dX11_note_44 : decode cX11_note 44 = .ok (.iconst 1, 1) := by decide +kernel
theorem dX11_note_45 : decode cX11_note 45 = .ok (.isub, 1) := by decide +kernel
theorem dX11_note_46 : decode cX11_note 46 = .ok (.putfield 135, 3) := by decide +kernel
theorem dX11_note_49 : decode cX11_note 49 = .ok (.iconst 0, 1) := by decide +kernel
theorem dX11_note_50 : decode cX11_note 50 = .ok (.istore_n 1, 1) := by decide +kernel
theorem dX11_note_51 : decode cX11_note 51 = .ok (.iload_n 1, 1) := by decide +kernel
theorem dX11_note_52 : decode cX11_note 52 = .ok (.bipush 32, 2) := by decide +kernel
theorem dX11_note_54 : decode cX11_note 54 = .ok (.if_icmp .ge 29, 3) := by decide +kernel
theorem dX11_note_57 : decode cX11_note 57 = .ok (.aload_n 0, 1) := by decide +kernel
theorem dX11_note_58 : decode cX11_note 58 = .ok (.getfield 55, 3) := by decide +kernel
theorem dX11_note_61 : decode cX11_note 61 = .ok (.bipush 32, 2) := by decide +kernel
theorem dX11_note_63 : decode cX11_note 63 = .ok (.aload_n 0, 1) := by decide +kernel
theorem dX11_note_64 : decode cX11_note 64 = .ok (.getfield 135, 3) := by decide +kernel
theorem dX11_note_67 : decode cX11_note 67 = .ok (.imul, 1) := by decide +kernel
theorem dX11_note_68 : decode cX11_note 68 = .ok (.iload_n 1, 1) := by decide +kernel
theorem dX11_note_69 : decode cX11_note 69 = .ok (.iadd, 1) := by decide +kernel
theorem dX11_note_70 : decode cX11_note 70 = .ok (.aload_n 0, 1) := by decide +kernel
theorem dX11_note_71 : decode cX11_note 71 = .ok (.getfield 52, 3) := by decide +kernel
theorem dX11_note_74 : decode cX11_note 74 = .ok (.iload_n 1, 1) := by decide +kernel
theorem dX11_note_75 : decode cX11_note 75 = .ok (.iaload, 1) := by decide +kernel
theorem dX11_note_76 : decode cX11_note 76 = .ok (.iastore, 1) := by decide +kernel
theorem dX11_note_77 : decode cX11_note 77 = .ok (.iinc 1 1, 3) := by decide +kernel
theorem dX11_note_80 : decode cX11_note 80 = .ok (.goto (-29), 3) := by decide +kernel
theorem dX11_note_83 : decode cX11_note 83 = .ok (.aload_n 0, 1) := by decide +kernel
theorem dX11_note_84 : decode cX11_note 84 = .ok (.dup, 1) := by decide +kernel
theorem dX11_note_85 : decode cX11_note 85 = .ok (.getfield 135, 3) := by decide +kernel
theorem dX11_note_88 : decode cX11_note 88 = .ok (.iconst 1, 1) := by decide +kernel
theorem dX11_note_89 : decode cX11_note 89 = .ok (.iadd, 1) := by decide +kernel
theorem dX11_note_90 : decode cX11_note 90 = .ok (.putfield 135, 3) := by decide +kernel
theorem dX11_note_93 : decode cX11_note 93 = .ok (.return_, 1) := by decide +kernel
theorem dX11_undo_0 : decode cX11_undo 0 = .ok (.aload_n 0, 1) := by decide +kernel
theorem dX11_undo_1 : decode cX11_undo 1 = .ok (.getfield 135, 3) := by decide +kernel
theorem dX11_undo_4 : decode cX11_undo 4 = .ok (.ifCond .ne 6, 3) := by decide +kernel
theorem dX11_undo_7 : decode cX11_undo 7 = .ok (.bipush (-2), 2) := by decide +kernel
theorem dX11_undo_9 : decode cX11_undo 9 = .ok (.ireturn, 1) := by decide +kernel
theorem dX11_undo_10 : decode cX11_undo 10 = .ok (.aload_n 0, 1) := by decide +kernel
theorem dX11_undo_11 : decode cX11_undo 11 = .ok (.dup, 1) := by decide +kernel
theorem dX11_undo_12 : decode cX11_undo 12 = .ok (.getfield 135, 3) := by decide +kernel
theorem dX11_undo_15 : decode cX11_undo 15 = .ok (.iconst 1, 1) := by decide +kernel
theorem dX11_undo_16 : decode cX11_undo 16 = .ok (.isub, 1) := by decide +kernel
theorem dX11_undo_17 : decode cX11_undo 17 = .ok (.putfield 135, 3) := by decide +kernel
theorem dX11_undo_20 : decode cX11_undo 20 = .ok (.iconst 0, 1) := by decide +kernel
theorem dX11_undo_21 : decode cX11_undo 21 = .ok (.istore_n 1, 1) := by decide +kernel
theorem dX11_undo_22 : decode cX11_undo 22 = .ok (.iload_n 1, 1) := by decide +kernel
theorem dX11_undo_23 : decode cX11_undo 23 = .ok (.bipush 32, 2) := by decide +kernel
theorem dX11_undo_25 : decode cX11_undo 25 = .ok (.if_icmp .ge 29, 3) := by decide +kernel
theorem dX11_undo_28 : decode cX11_undo 28 = .ok (.aload_n 0, 1) := by decide +kernel
theorem dX11_undo_29 : decode cX11_undo 29 = .ok (.getfield 52, 3) := by decide +kernel
theorem dX11_undo_32 : decode cX11_undo 32 = .ok (.iload_n 1, 1) := by decide +kernel
theorem dX11_undo_33 : decode cX11_undo 33 = .ok (.aload_n 0, 1) := by decide +kernel
theorem dX11_undo_34 : decode cX11_undo 34 = .ok (.getfield 55, 3) := by decide +kernel
theorem dX11_undo_37 : decode cX11_undo 37 = .ok (.bipush 32, 2) := by decide +kernel
theorem dX11_undo_39 : decode cX11_undo 39 = .ok (.aload_n 0, 1) := by decide +kernel
theorem dX11_undo_40 : decode cX11_undo 40 = .ok (.getfield 135, 3) := by decide +kernel
theorem dX11_undo_43 : decode cX11_undo 43 = .ok (.imul, 1) := by decide +kernel
theorem dX11_undo_44 : decode cX11_undo 44 = .ok (.iload_n 1, 1) := by decide +kernel
theorem dX11_undo_45 : decode cX11_undo 45 = .ok (.iadd, 1) := by decide +kernel
theorem dX11_undo_46 : decode cX11_undo 46 = .ok (.iaload, 1) := by decide +kernel
theorem dX11_undo_47 : decode cX11_undo 47 = .ok (.iastore, 1) := by decide +kernel
theorem dX11_undo_48 : decode cX11_undo 48 = .ok (.iinc 1 1, 3) := by decide +kernel
theorem dX11_undo_51 : decode cX11_undo 51 = .ok (.goto (-29), 3) := by decide +kernel
theorem dX11_undo_54 : decode cX11_undo 54 = .ok (.aload_n 0, 1) := by decide +kernel
theorem dX11_undo_55 : decode cX11_undo 55 = .ok (.getfield 135, 3) := by decide +kernel
theorem dX11_undo_58 : decode cX11_undo 58 = .ok (.ireturn, 1) := by decide +kernel
theorem dX11_contacts_0 : decode cX11_contacts 0 = .ok (.iconst 0, 1) := by decide +kernel
theorem dX11_contacts_1 : decode cX11_contacts 1 = .ok (.istore_n 1, 1) := by decide +kernel
theorem dX11_contacts_2 : decode cX11_contacts 2 = .ok (.iconst 0, 1) := by decide +kernel
theorem dX11_contacts_3 : decode cX11_contacts 3 = .ok (.istore_n 2, 1) := by decide +kernel
theorem dX11_contacts_4 : decode cX11_contacts 4 = .ok (.iload_n 2, 1) := by decide +kernel
theorem dX11_contacts_5 : decode cX11_contacts 5 = .ok (.aload_n 0, 1) := by decide +kernel
theorem dX11_contacts_6 : decode cX11_contacts 6 = .ok (.getfield 124, 3) := by decide +kernel
theorem dX11_contacts_9 : decode cX11_contacts 9 = .ok (.if_icmp .ge 28, 3) := by decide +kernel
theorem dX11_contacts_12 : decode cX11_contacts 12 = .ok (.iload_n 1, 1) := by decide +kernel
theorem dX11_contacts_13 : decode cX11_contacts 13 = .ok (.aload_n 0, 1) := by decide +kernel
theorem dX11_contacts_14 : decode cX11_contacts 14 = .ok (.getfield 52, 3) := by decide +kernel
theorem dX11_contacts_17 : decode cX11_contacts 17 = .ok (.iload_n 2, 1) := by decide +kernel
theorem dX11_contacts_18 : decode cX11_contacts 18 = .ok (.iaload, 1) := by decide +kernel
theorem dX11_contacts_19 : decode cX11_contacts 19 = .ok (.bipush (-4), 2) := by decide +kernel
theorem dX11_contacts_21 : decode cX11_contacts 21 = .ok (.if_icmp .eq 7, 3) := by decide +kernel
theorem dX11_contacts_24 : decode cX11_contacts 24 = .ok (.iconst 1, 1) := by decide +kernel
theorem dX11_contacts_25 : decode cX11_contacts 25 = .ok (.goto 4, 3) := by decide +kernel
theorem dX11_contacts_28 : decode cX11_contacts 28 = .ok (.iconst 0, 1) := by decide +kernel
theorem dX11_contacts_29 : decode cX11_contacts 29 = .ok (.iadd, 1) := by decide +kernel
theorem dX11_contacts_30 : decode cX11_contacts 30 = .ok (.istore_n 1, 1) := by decide +kernel
theorem dX11_contacts_31 : decode cX11_contacts 31 = .ok (.iinc 2 1, 3) := by decide +kernel
theorem dX11_contacts_34 : decode cX11_contacts 34 = .ok (.goto (-30), 3) := by decide +kernel
theorem dX11_contacts_37 : decode cX11_contacts 37 = .ok (.iload_n 1, 1) := by decide +kernel
theorem dX11_contacts_38 : decode cX11_contacts 38 = .ok (.ireturn, 1) := by decide +kernel
theorem dX11_give_0 : decode cX11_give 0 = .ok (.aload_n 0, 1) := by decide +kernel
theorem dX11_give_1 : decode cX11_give 1 = .ok (.iload_n 1, 1) := by decide +kernel
theorem dX11_give_2 : decode cX11_give 2 = .ok (.invokevirtual 149, 3) := by decide +kernel
theorem dX11_give_5 : decode cX11_give 5 = .ok (.ifCond .eq 11, 3) := by decide +kernel
theorem dX11_give_8 : decode cX11_give 8 = .ok (.aload_n 0, 1) := by decide +kernel
theorem dX11_give_9 : decode cX11_give 9 = .ok (.iload_n 2, 1) := by decide +kernel
theorem dX11_give_10 : decode cX11_give 10 = .ok (.invokevirtual 144, 3) := by decide +kernel
theorem dX11_give_13 : decode cX11_give 13 = .ok (.ifCond .ne 5, 3) := by decide +kernel
theorem dX11_give_16 : decode cX11_give 16 = .ok (.iconst (-1), 1) := by decide +kernel
theorem dX11_give_17 : decode cX11_give 17 = .ok (.ireturn, 1) := by decide +kernel
theorem dX11_give_18 : decode cX11_give 18 = .ok (.aload_n 0, 1) := by decide +kernel
theorem dX11_give_19 : decode cX11_give 19 = .ok (.iload_n 1, 1) := by decide +kernel
theorem dX11_give_20 : decode cX11_give 20 = .ok (.iload_n 2, 1) := by decide +kernel
theorem dX11_give_21 : decode cX11_give 21 = .ok (.invokevirtual 165, 3) := by decide +kernel
theorem dX11_give_24 : decode cX11_give 24 = .ok (.ifCond .le 6, 3) := by decide +kernel
theorem dX11_give_27 : decode cX11_give 27 = .ok (.bipush (-2), 2) := by decide +kernel
theorem dX11_give_29 : decode cX11_give 29 = .ok (.ireturn, 1) := by decide +kernel
theorem dX11_give_30 : decode cX11_give 30 = .ok (.aload_n 0, 1) := by decide +kernel
theorem dX11_give_31 : decode cX11_give 31 = .ok (.invokevirtual 168, 3) := by decide +kernel
theorem dX11_give_34 : decode cX11_give 34 = .ok (.aload_n 0, 1) := by decide +kernel
theorem dX11_give_35 : decode cX11_give 35 = .ok (.getfield 52, 3) := by decide +kernel
theorem dX11_give_38 : decode cX11_give 38 = .ok (.iload_n 1, 1) := by decide +kernel
theorem dX11_give_39 : decode cX11_give 39 = .ok (.iload_n 2, 1) := by decide +kernel
theorem dX11_give_40 : decode cX11_give 40 = .ok (.iastore, 1) := by decide +kernel
theorem dX11_give_41 : decode cX11_give 41 = .ok (.aload_n 0, 1) := by decide +kernel
theorem dX11_give_42 : decode cX11_give 42 = .ok (.invokevirtual 171, 3) := by decide +kernel
theorem dX11_give_45 : decode cX11_give 45 = .ok (.ireturn, 1) := by decide +kernel
theorem dX11_take_0 : decode cX11_take 0 = .ok (.aload_n 0, 1) := by decide +kernel
theorem dX11_take_1 : decode cX11_take 1 = .ok (.iload_n 1, 1) := by decide +kernel
theorem dX11_take_2 : decode cX11_take 2 = .ok (.invokevirtual 149, 3) := by decide +kernel
theorem dX11_take_5 : decode cX11_take 5 = .ok (.ifCond .ne 5, 3) := by decide +kernel
theorem dX11_take_8 : decode cX11_take 8 = .ok (.iconst (-1), 1) := by decide +kernel
theorem dX11_take_9 : decode cX11_take 9 = .ok (.ireturn, 1) := by decide +kernel
theorem dX11_take_10 : decode cX11_take 10 = .ok (.aload_n 0, 1) := by decide +kernel
theorem dX11_take_11 : decode cX11_take 11 = .ok (.getfield 52, 3) := by decide +kernel
theorem dX11_take_14 : decode cX11_take 14 = .ok (.iload_n 1, 1) := by decide +kernel
theorem dX11_take_15 : decode cX11_take 15 = .ok (.iaload, 1) := by decide +kernel
theorem dX11_take_16 : decode cX11_take 16 = .ok (.istore_n 2, 1) := by decide +kernel
theorem dX11_take_17 : decode cX11_take 17 = .ok (.iload_n 2, 1) := by decide +kernel
theorem dX11_take_18 : decode cX11_take 18 = .ok (.bipush (-4), 2) := by decide +kernel
theorem dX11_take_20 : decode cX11_take 20 = .ok (.if_icmp .ne 6, 3) := by decide +kernel
theorem dX11_take_23 : decode cX11_take 23 = .ok (.bipush (-2), 2) := by decide +kernel
theorem dX11_take_25 : decode cX11_take 25 = .ok (.ireturn, 1) := by decide +kernel
theorem dX11_take_26 : decode cX11_take 26 = .ok (.aload_n 0, 1) := by decide +kernel
theorem dX11_take_27 : decode cX11_take 27 = .ok (.invokevirtual 168, 3) := by decide +kernel
theorem dX11_take_30 : decode cX11_take 30 = .ok (.aload_n 0, 1) := by decide +kernel
theorem dX11_take_31 : decode cX11_take 31 = .ok (.getfield 52, 3) := by decide +kernel
theorem dX11_take_34 : decode cX11_take 34 = .ok (.iload_n 1, 1) := by decide +kernel
theorem dX11_take_35 : decode cX11_take 35 = .ok (.bipush (-4), 2) := by decide +kernel
theorem dX11_take_37 : decode cX11_take 37 = .ok (.iastore, 1) := by decide +kernel
theorem dX11_take_38 : decode cX11_take 38 = .ok (.iload_n 2, 1) := by decide +kernel
theorem dX11_take_39 : decode cX11_take 39 = .ok (.ireturn, 1) := by decide +kernel
theorem dX11_out_0 : decode cX11_out 0 = .ok (.aload_n 0, 1) := by decide +kernel
theorem dX11_out_1 : decode cX11_out 1 = .ok (.iload_n 1, 1) := by decide +kernel
theorem dX11_out_2 : decode cX11_out 2 = .ok (.invokevirtual 144, 3) := by decide +kernel
theorem dX11_out_5 : decode cX11_out 5 = .ok (.ifCond .eq 27, 3) := by decide +kernel
theorem dX11_out_8 : decode cX11_out 8 = .ok (.iload_n 2, 1) := by decide +kernel
theorem dX11_out_9 : decode cX11_out 9 = .ok (.i2l, 1) := by decide +kernel
theorem dX11_out_10 : decode cX11_out 10 = .ok (.lconst 0, 1) := by decide +kernel
theorem dX11_out_11 : decode cX11_out 11 = .ok (.ldc2_w 147, 3) := by decide +kernel
theorem dX11_out_14 : decode cX11_out 14 = .ok (.invokestatic 93, 3) := by decide +kernel
theorem dX11_out_17 : decode cX11_out 17 = .ok (.ifCond .eq 15, 3) := by decide +kernel
theorem dX11_out_20 : decode cX11_out 20 = .ok (.iload_n 3, 1) := by decide +kernel
theorem dX11_out_21 : decode cX11_out 21 = .ok (.i2l, 1) := by decide +kernel
theorem dX11_out_22 : decode cX11_out 22 = .ok (.lconst 0, 1) := by decide +kernel
theorem dX11_out_23 : decode cX11_out 23 = .ok (.ldc2_w 147, 3) := by decide +kernel
theorem dX11_out_26 : decode cX11_out 26 = .ok (.invokestatic 93, 3) := by decide +kernel
theorem dX11_out_29 : decode cX11_out 29 = .ok (.ifCond .ne 5, 3) := by decide +kernel
theorem dX11_out_32 : decode cX11_out 32 = .ok (.iconst (-1), 1) := by decide +kernel
theorem dX11_out_33 : decode cX11_out 33 = .ok (.ireturn, 1) := by decide +kernel
theorem dX11_out_34 : decode cX11_out 34 = .ok (.aload_n 0, 1) := by decide +kernel
theorem dX11_out_35 : decode cX11_out 35 = .ok (.invokevirtual 168, 3) := by decide +kernel
theorem dX11_out_38 : decode cX11_out 38 = .ok (.aload_n 0, 1) := by decide +kernel
theorem dX11_out_39 : decode cX11_out 39 = .ok (.getfield 52, 3) := by decide +kernel
theorem dX11_out_42 : decode cX11_out 42 = .ok (.bipush 24, 2) := by decide +kernel
theorem dX11_out_44 : decode cX11_out 44 = .ok (.iconst 2, 1) := by decide +kernel
theorem dX11_out_45 : decode cX11_out 45 = .ok (.iload_n 1, 1) := by decide +kernel
theorem dX11_out_46 : decode cX11_out 46 = .ok (.imul, 1) := by decide +kernel
theorem dX11_out_47 : decode cX11_out 47 = .ok (.iadd, 1) := by decide +kernel
theorem dX11_out_48 : decode cX11_out 48 = .ok (.iload_n 2, 1) := by decide +kernel
theorem dX11_out_49 : decode cX11_out 49 = .ok (.iload_n 3, 1) := by decide +kernel
theorem dX11_out_50 : decode cX11_out 50 = .ok (.if_icmp .le 7, 3) := by decide +kernel
theorem dX11_out_53 : decode cX11_out 53 = .ok (.iconst 1, 1) := by decide +kernel
theorem dX11_out_54 : decode cX11_out 54 = .ok (.goto 4, 3) := by decide +kernel
theorem dX11_out_57 : decode cX11_out 57 = .ok (.iload_n 2, 1) := by decide +kernel
theorem dX11_out_58 : decode cX11_out 58 = .ok (.iastore, 1) := by decide +kernel
theorem dX11_out_59 : decode cX11_out 59 = .ok (.aload_n 0, 1) := by decide +kernel
theorem dX11_out_60 : decode cX11_out 60 = .ok (.getfield 52, 3) := by decide +kernel
theorem dX11_out_63 : decode cX11_out 63 = .ok (.bipush 24, 2) := by decide +kernel
theorem dX11_out_65 : decode cX11_out 65 = .ok (.iconst 2, 1) := by decide +kernel
