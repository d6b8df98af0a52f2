theorem dX10_rhythm_235 : decode cX10_rhythm 235 = .ok (.iconst 3, 1) := by decide +kernel
theorem dX10_rhythm_236 : decode cX10_rhythm 236 = .ok (.iadd, 1) := by decide +kernel
theorem dX10_rhythm_237 : decode cX10_rhythm 237 = .ok (.istore 10, 2) := by decide +kernel
theorem dX10_rhythm_239 : decode cX10_rhythm 239 = .ok (.lload 17, 2) := by decide +kernel
theorem dX10_rhythm_241 : decode cX10_rhythm 241 = .ok (.lstore 11, 2) := by decide +kernel
theorem dX10_rhythm_243 : decode cX10_rhythm 243 = .ok (.iinc 15 1, 3) := by decide +kernel
theorem dX10_rhythm_246 : decode cX10_rhythm 246 = .ok (.goto (-119), 3) := by decide +kernel
theorem dX10_rhythm_249 : decode cX10_rhythm 249 = .ok (.iinc 14 1, 3) := by decide +kernel
theorem dX10_rhythm_252 : decode cX10_rhythm 252 = .ok (.goto (-135), 3) := by decide +kernel
theorem dX10_rhythm_255 : decode cX10_rhythm 255 = .ok (.iinc 13 1, 3) := by decide +kernel
theorem dX10_rhythm_258 : decode cX10_rhythm 258 = .ok (.goto (-151), 3) := by decide +kernel
theorem dX10_rhythm_261 : decode cX10_rhythm 261 = .ok (.iload 10, 2) := by decide +kernel
theorem dX10_rhythm_263 : decode cX10_rhythm 263 = .ok (.ireturn, 1) := by decide +kernel
theorem dX10_apart_0 : decode cX10_apart 0 = .ok (.iload_n 3, 1) := by decide +kernel
theorem dX10_apart_1 : decode cX10_apart 1 = .ok (.i2l, 1) := by decide +kernel
theorem dX10_apart_2 : decode cX10_apart 2 = .ok (.lconst 0, 1) := by decide +kernel
theorem dX10_apart_3 : decode cX10_apart 3 = .ok (.ldc2_w 114, 3) := by decide +kernel
theorem dX10_apart_6 : decode cX10_apart 6 = .ok (.invokestatic 116, 3) := by decide +kernel
theorem dX10_apart_9 : decode cX10_apart 9 = .ok (.ifCond .ne 10, 3) := by decide +kernel
theorem dX10_apart_12 : decode cX10_apart 12 = .ok (.aload_n 0, 1) := by decide +kernel
theorem dX10_apart_13 : decode cX10_apart 13 = .ok (.bipush (-2), 2) := by decide +kernel
theorem dX10_apart_15 : decode cX10_apart 15 = .ok (.invokevirtual 161, 3) := by decide +kernel
theorem dX10_apart_18 : decode cX10_apart 18 = .ok (.lreturn, 1) := by decide +kernel
theorem dX10_apart_19 : decode cX10_apart 19 = .ok (.iload_n 3, 1) := by decide +kernel
theorem dX10_apart_20 : decode cX10_apart 20 = .ok (.iconst 2, 1) := by decide +kernel
theorem dX10_apart_21 : decode cX10_apart 21 = .ok (.if_icmp .ge 7, 3) := by decide +kernel
theorem dX10_apart_24 : decode cX10_apart 24 = .ok (.iconst 1, 1) := by decide +kernel
theorem dX10_apart_25 : decode cX10_apart 25 = .ok (.goto 4, 3) := by decide +kernel
theorem dX10_apart_28 : decode cX10_apart 28 = .ok (.iconst 0, 1) := by decide +kernel
theorem dX10_apart_29 : decode cX10_apart 29 = .ok (.istore 4, 2) := by decide +kernel
theorem dX10_apart_31 : decode cX10_apart 31 = .ok (.iload_n 1, 1) := by decide +kernel
theorem dX10_apart_32 : decode cX10_apart 32 = .ok (.i2l, 1) := by decide +kernel
theorem dX10_apart_33 : decode cX10_apart 33 = .ok (.lconst 0, 1) := by decide +kernel
theorem dX10_apart_34 : decode cX10_apart 34 = .ok (.iload 4, 2) := by decide +kernel
theorem dX10_apart_36 : decode cX10_apart 36 = .ok (.ifCond .eq 9, 3) := by decide +kernel
theorem dX10_apart_39 : decode cX10_apart 39 = .ok (.ldc2_w 114, 3) := by decide +kernel
theorem dX10_apart_42 : decode cX10_apart 42 = .ok (.goto 6, 3) := by decide +kernel
theorem dX10_apart_45 : decode cX10_apart 45 = .ok (.ldc2_w 171, 3) := by decide +kernel
theorem dX10_apart_48 : decode cX10_apart 48 = .ok (.invokestatic 116, 3) := by decide +kernel
theorem dX10_apart_51 : decode cX10_apart 51 = .ok (.ifCond .eq 31, 3) := by decide +kernel
theorem dX10_apart_54 : decode cX10_apart 54 = .ok (.iload_n 2, 1) := by decide +kernel
theorem dX10_apart_55 : decode cX10_apart 55 = .ok (.i2l, 1) := by decide +kernel
theorem dX10_apart_56 : decode cX10_apart 56 = .ok (.lconst 0, 1) := by decide +kernel
theorem dX10_apart_57 : decode cX10_apart 57 = .ok (.iload 4, 2) := by decide +kernel
theorem dX10_apart_59 : decode cX10_apart 59 = .ok (.ifCond .eq 9, 3) := by decide +kernel
theorem dX10_apart_62 : decode cX10_apart 62 = .ok (.ldc2_w 114, 3) := by decide +kernel
theorem dX10_apart_65 : decode cX10_apart 65 = .ok (.goto 6, 3) := by decide +kernel
theorem dX10_apart_68 : decode cX10_apart 68 = .ok (.ldc2_w 171, 3) := by decide +kernel
theorem dX10_apart_71 : decode cX10_apart 71 = .ok (.invokestatic 116, 3) := by decide +kernel
theorem dX10_apart_74 : decode cX10_apart 74 = .ok (.ifCond .eq 8, 3) := by decide +kernel
theorem dX10_apart_77 : decode cX10_apart 77 = .ok (.iload_n 1, 1) := by decide +kernel
theorem dX10_apart_78 : decode cX10_apart 78 = .ok (.iload_n 2, 1) := by decide +kernel
theorem dX10_apart_79 : decode cX10_apart 79 = .ok (.if_icmp .ne 9, 3) := by decide +kernel
theorem dX10_apart_82 : decode cX10_apart 82 = .ok (.aload_n 0, 1) := by decide +kernel
theorem dX10_apart_83 : decode cX10_apart 83 = .ok (.iconst (-1), 1) := by decide +kernel
theorem dX10_apart_84 : decode cX10_apart 84 = .ok (.invokevirtual 161, 3) := by decide +kernel
theorem dX10_apart_87 : decode cX10_apart 87 = .ok (.lreturn, 1) := by decide +kernel
theorem dX10_apart_88 : decode cX10_apart 88 = .ok (.iconst 0, 1) := by decide +kernel
theorem dX10_apart_89 : decode cX10_apart 89 = .ok (.istore 5, 2) := by decide +kernel
theorem dX10_apart_91 : decode cX10_apart 91 = .ok (.lconst 0, 1) := by decide +kernel
theorem dX10_apart_92 : decode cX10_apart 92 = .ok (.lstore 6, 2) := by decide +kernel
theorem dX10_apart_94 : decode cX10_apart 94 = .ok (.lconst 0, 1) := by decide +kernel
theorem dX10_apart_95 : decode cX10_apart 95 = .ok (.lstore 8, 2) := by decide +kernel
theorem dX10_apart_97 : decode cX10_apart 97 = .ok (.iconst 0, 1) := by decide +kernel
theorem dX10_apart_98 : decode cX10_apart 98 = .ok (.istore 10, 2) := by decide +kernel
theorem dX10_apart_100 : decode cX10_apart 100 = .ok (.iload 10, 2) := by decide +kernel
theorem dX10_apart_102 : decode cX10_apart 102 = .ok (.aload_n 0, 1) := by decide +kernel
theorem dX10_apart_103 : decode cX10_apart 103 = .ok (.getfield 181, 3) := by decide +kernel
theorem dX10_apart_106 : decode cX10_apart 106 = .ok (.if_icmp .ge 241, 3) := by decide +kernel
theorem dX10_apart_109 : decode cX10_apart 109 = .ok (.iconst 0, 1) := by decide +kernel
theorem dX10_apart_110 : decode cX10_apart 110 = .ok (.istore 11, 2) := by decide +kernel
theorem dX10_apart_112 : decode cX10_apart 112 = .ok (.iload 11, 2) := by decide +kernel
theorem dX10_apart_114 : decode cX10_apart 114 = .ok (.aload_n 0, 1) := by decide +kernel
theorem dX10_apart_115 : decode cX10_apart 115 = .ok (.getfield 181, 3) := by decide +kernel
theorem dX10_apart_118 : decode cX10_apart 118 = .ok (.if_icmp .ge 223, 3) := by decide +kernel
theorem dX10_apart_121 : decode cX10_apart 121 = .ok (.iload 4, 2) := by decide +kernel
theorem dX10_apart_123 : decode cX10_apart 123 = .ok (.ifCond .eq 33, 3) := by decide +kernel
theorem dX10_apart_126 : decode cX10_apart 126 = .ok (.aload_n 0, 1) := by decide +kernel
theorem dX10_apart_127 : decode cX10_apart 127 = .ok (.getfield 65, 3) := by decide +kernel
theorem dX10_apart_130 : decode cX10_apart 130 = .ok (.iload 10, 2) := by decide +kernel
theorem dX10_apart_132 : decode cX10_apart 132 = .ok (.iaload, 1) := by decide +kernel
theorem dX10_apart_133 : decode cX10_apart 133 = .ok (.iload_n 1, 1) := by decide +kernel
theorem dX10_apart_134 : decode cX10_apart 134 = .ok (.if_icmp .ne 18, 3) := by decide +kernel
theorem dX10_apart_137 : decode cX10_apart 137 = .ok (.aload_n 0, 1) := by decide +kernel
theorem dX10_apart_138 : decode cX10_apart 138 = .ok (.getfield 65, 3) := by decide +kernel
theorem dX10_apart_141 : decode cX10_apart 141 = .ok (.iload 11, 2) := by decide +kernel
theorem dX10_apart_143 : decode cX10_apart 143 = .ok (.iaload, 1) := by decide +kernel
theorem dX10_apart_144 : decode cX10_apart 144 = .ok (.iload_n 2, 1) := by decide +kernel
theorem dX10_apart_145 : decode cX10_apart 145 = .ok (.if_icmp .ne 7, 3) := by decide +kernel
theorem dX10_apart_148 : decode cX10_apart 148 = .ok (.iconst 1, 1) := by decide +kernel
theorem dX10_apart_149 : decode cX10_apart 149 = .ok (.goto 34, 3) := by decide +kernel
theorem dX10_apart_152 : decode cX10_apart 152 = .ok (.iconst 0, 1) := by decide +kernel
theorem dX10_apart_153 : decode cX10_apart 153 = .ok (.goto 30, 3) := by decide +kernel
theorem dX10_apart_156 : decode cX10_apart 156 = .ok (.aload_n 0, 1) := by decide +kernel
theorem dX10_apart_157 : decode cX10_apart 157 = .ok (.getfield 59, 3) := by decide +kernel
theorem dX10_apart_160 : decode cX10_apart 160 = .ok (.iload 10, 2) := by decide +kernel
theorem dX10_apart_162 : decode cX10_apart 162 = .ok (.iaload, 1) := by decide +kernel
theorem dX10_apart_163 : decode cX10_apart 163 = .ok (.iload_n 1, 1) := by decide +kernel
theorem dX10_apart_164 : decode cX10_apart 164 = .ok (.if_icmp .ne 18, 3) := by decide +kernel
theorem dX10_apart_167 : decode cX10_apart 167 = .ok (.aload_n 0, 1) := by decide +kernel
theorem dX10_apart_168 : decode cX10_apart 168 = .ok (.getfield 59, 3) := by decide +kernel
theorem dX10_apart_171 : decode cX10_apart 171 = .ok (.iload 11, 2) := by decide +kernel
theorem dX10_apart_173 : decode cX10_apart 173 = .ok (.iaload, 1) := by decide +kernel
theorem dX10_apart_174 : decode cX10_apart 174 = .ok (.iload_n 2, 1) := by decide +kernel
theorem dX10_apart_175 : decode cX10_apart 175 = .ok (.if_icmp .ne 7, 3) := by decide +kernel
theorem dX10_apart_178 : decode cX10_apart 178 = .ok (.iconst 1, 1) := by decide +kernel
theorem dX10_apart_179 : decode cX10_apart 179 = .ok (.goto 4, 3) := by decide +kernel
theorem dX10_apart_182 : decode cX10_apart 182 = .ok (.iconst 0, 1) := by decide +kernel
theorem dX10_apart_183 : decode cX10_apart 183 = .ok (.istore 12, 2) := by decide +kernel
theorem dX10_apart_185 : decode cX10_apart 185 = .ok (.iload 12, 2) := by decide +kernel
theorem dX10_apart_187 : decode cX10_apart 187 = .ok (.ifCond .eq 148, 3) := by decide +kernel
theorem dX10_apart_190 : decode cX10_apart 190 = .ok (.aload_n 0, 1) := by decide +kernel
theorem dX10_apart_191 : decode cX10_apart 191 = .ok (.getfield 56, 3) := by decide +kernel
theorem dX10_apart_194 : decode cX10_apart 194 = .ok (.iload 10, 2) := by decide +kernel
theorem dX10_apart_196 : decode cX10_apart 196 = .ok (.iaload, 1) := by decide +kernel
theorem dX10_apart_197 : decode cX10_apart 197 = .ok (.iconst 5, 1) := by decide +kernel
theorem dX10_apart_198 : decode cX10_apart 198 = .ok (.if_icmp .eq 137, 3) := by decide +kernel
theorem dX10_apart_201 : decode cX10_apart 201 = .ok (.aload_n 0, 1) := by decide +kernel
theorem dX10_apart_202 : decode cX10_apart 202 = .ok (.getfield 56, 3) := by decide +kernel
theorem dX10_apart_205 : decode cX10_apart 205 = .ok (.iload 11, 2) := by decide +kernel
theorem dX10_apart_207 : decode cX10_apart 207 = .ok (.iaload, 1) := by decide +kernel
theorem dX10_apart_208 : decode cX10_apart 208 = .ok (.iconst 5, 1) := by decide +kernel
theorem dX10_apart_209 : decode cX10_apart 209 = .ok (.if_icmp .eq 126, 3) := by decide +kernel
theorem dX10_apart_212 : decode cX10_apart 212 = .ok (.aload_n 0, 1) := by decide +kernel
theorem dX10_apart_213 : decode cX10_apart 213 = .ok (.getfield 50, 3) := by decide +kernel
theorem dX10_apart_216 : decode cX10_apart 216 = .ok (.iload 10, 2) := by decide +kernel
theorem dX10_apart_218 : decode cX10_apart 218 = .ok (.iaload, 1) := by decide +kernel
theorem dX10_apart_219 : decode cX10_apart 219 = .ok (.aload_n 0, 1) := by decide +kernel
theorem dX10_apart_220 : decode cX10_apart 220 = .ok (.getfield 50, 3) := by decide +kernel
theorem dX10_apart_223 : decode cX10_apart 223 = .ok (.iload 11, 2) := by decide +kernel
theorem dX10_apart_225 : decode cX10_apart 225 = .ok (.iaload, 1) := by decide +kernel
theorem dX10_apart_226 : decode cX10_apart 226 = .ok (.if_icmp .ne 109, 3) := by decide +kernel
theorem dX10_apart_229 : decode cX10_apart 229 = .ok (.aload_n 0, 1) := by decide +kernel
theorem dX10_apart_230 : decode cX10_apart 230 = .ok (.getfield 53, 3) := by decide +kernel
theorem dX10_apart_233 : decode cX10_apart 233 = .ok (.iload 10, 2) := by decide +kernel
theorem dX10_apart_235 : decode cX10_apart 235 = .ok (.iaload, 1) := by decide +kernel
theorem dX10_apart_236 : decode cX10_apart 236 = .ok (.aload_n 0, 1) := by decide +kernel
theorem dX10_apart_237 : decode cX10_apart 237 = .ok (.getfield 53, 3) := by decide +kernel
theorem dX10_apart_240 : decode cX10_apart 240 = .ok (.iload 11, 2) := by decide +kernel
theorem dX10_apart_242 : decode cX10_apart 242 = .ok (.iaload, 1) := by decide +kernel
theorem dX10_apart_243 : decode cX10_apart 243 = .ok (.if_icmp .eq 6, 3) := by decide +kernel
theorem dX10_apart_246 : decode cX10_apart 246 = .ok (.goto 89, 3) := by decide +kernel
theorem dX10_apart_249 : decode cX10_apart 249 = .ok (.aload_n 0, 1) := by decide +kernel
theorem dX10_apart_250 : decode cX10_apart 250 = .ok (.iload 10, 2) := by decide +kernel
theorem dX10_apart_252 : decode cX10_apart 252 = .ok (.iload 4, 2) := by decide +kernel
theorem dX10_apart_254 : decode cX10_apart 254 = .ok (.iload 4, 2) := by decide +kernel
theorem dX10_apart_256 : decode cX10_apart 256 = .ok (.ifCond .ne 7, 3) := by decide +kernel
theorem dX10_apart_259 : decode cX10_apart 259 = .ok (.iconst 1, 1) := by decide +kernel
theorem dX10_apart_260 : decode cX10_apart 260 = .ok (.goto 4, 3) := by decide +kernel
theorem dX10_apart_263 : decode cX10_apart 263 = .ok (.iconst 0, 1) := by decide +kernel
theorem dX10_apart_264 : decode cX10_apart 264 = .ok (.invokevirtual 199, 3) := by decide +kernel
theorem dX10_apart_267 : decode cX10_apart 267 = .ok (.aload_n 0, 1) := by decide +kernel
theorem dX10_apart_268 : decode cX10_apart 268 = .ok (.iload 11, 2) := by decide +kernel
theorem dX10_apart_270 : decode cX10_apart 270 = .ok (.iload 4, 2) := by decide +kernel
theorem dX10_apart_272 : decode cX10_apart 272 = .ok (.iload 4, 2) := by decide +kernel
theorem dX10_apart_274 : decode cX10_apart 274 = .ok (.ifCond .ne 7, 3) := by decide +kernel
theorem dX10_apart_277 : decode cX10_apart 277 = .ok (.iconst 1, 1) := by decide +kernel
theorem dX10_apart_278 : decode cX10_apart 278 = .ok (.goto 4, 3) := by decide +kernel
theorem dX10_apart_281 : decode cX10_apart 281 = .ok (.iconst 0, 1) := by decide +kernel
theorem dX10_apart_282 : decode cX10_apart 282 = .ok (.invokevirtual 199, 3) := by decide +kernel
theorem dX10_apart_285 : decode cX10_apart 285 = .ok (.lsub, 1) := by decide +kernel
theorem dX10_apart_286 : decode cX10_apart 286 = .ok (.lstore 13, 2) := by decide +kernel
theorem dX10_apart_288 : decode cX10_apart 288 = .ok (.iload 5, 2) := by decide +kernel
theorem dX10_apart_290 : decode cX10_apart 290 = .ok (.ifCond .eq 11, 3) := by decide +kernel
theorem dX10_apart_293 : decode cX10_apart 293 = .ok (.lload 13, 2) := by decide +kernel
theorem dX10_apart_295 : decode cX10_apart 295 = .ok (.lload 6, 2) := by decide +kernel
theorem dX10_apart_297 : decode cX10_apart 297 = .ok (.lcmp, 1) := by decide +kernel
theorem dX10_apart_298 : decode cX10_apart 298 = .ok (.ifCond .ge 8, 3) := by decide +kernel
theorem dX10_apart_301 : decode cX10_apart 301 = .ok (.lload 13, 2) := by decide +kernel
theorem dX10_apart_303 : decode cX10_apart 303 = .ok (.goto 5, 3) := by decide +kernel
theorem dX10_apart_306 : decode cX10_apart 306 = .ok (.lload 6, 2) := by decide +kernel
theorem dX10_apart_308 : decode cX10_apart 308 = .ok (.lstore 6, 2) := by decide +kernel
theorem dX10_apart_310 : decode cX10_apart 310 = .ok (.iload 5, 2) := by decide +kernel
theorem dX10_apart_312 : decode cX10_apart 312 = .ok (.ifCond .eq 11, 3) := by decide +kernel
theorem dX10_apart_315 : decode cX10_apart 315 = .ok (.lload 13, 2) := by decide +kernel
theorem dX10_apart_317 : decode cX10_apart 317 = .ok (.lload 8, 2) := by decide +kernel
theorem dX10_apart_319 : decode cX10_apart 319 = .ok (.lcmp, 1) := by decide +kernel
theorem dX10_apart_320 : decode cX10_apart 320 = .ok (.ifCond .le 8, 3) := by decide +kernel
theorem dX10_apart_323 : decode cX10_apart 323 = .ok (.lload 13, 2) := by decide +kernel
theorem dX10_apart_325 : decode cX10_apart 325 = .ok (.goto 5, 3) := by decide +kernel
theorem dX10_apart_328 : decode cX10_apart 328 = .ok (.lload 8, 2) := by decide +kernel
theorem dX10_apart_330 : decode cX10_apart 330 = .ok (.lstore 8, 2) := by decide +kernel
theorem dX10_apart_332 : decode cX10_apart 332 = .ok (.iconst 1, 1) := by decide +kernel
theorem dX10_apart_333 : decode cX10_apart 333 = .ok (.istore 5, 2) := by decide +kernel
theorem dX10_apart_335 : decode cX10_apart 335 = .ok (.iinc 11 1, 3) := by decide +kernel
theorem dX10_apart_338 : decode cX10_apart 338 = .ok (.goto (-226), 3) := by decide +kernel
theorem dX10_apart_341 : decode cX10_apart 341 = .ok (.iinc 10 1, 3) := by decide +kernel
theorem dX10_apart_344 : decode cX10_apart 344 = .ok (.goto (-244), 3) := by decide +kernel
theorem dX10_apart_347 : decode cX10_apart 347 = .ok (.iload 5, 2) := by decide +kernel
theorem dX10_apart_349 : decode cX10_apart 349 = .ok (.ifCond .ne 12, 3) := by decide +kernel
theorem dX10_apart_352 : decode cX10_apart 352 = .ok (.aload_n 0, 1) := by decide +kernel
theorem dX10_apart_353 : decode cX10_apart 353 = .ok (.bipush (-3), 2) := by decide +kernel
theorem dX10_apart_355 : decode cX10_apart 355 = .ok (.invokevirtual 161, 3) := by decide +kernel
theorem dX10_apart_358 : decode cX10_apart 358 = .ok (.goto 16, 3) := by decide +kernel
theorem dX10_apart_361 : decode cX10_apart 361 = .ok (.iload_n 3, 1) := by decide +kernel
theorem dX10_apart_362 : decode cX10_apart 362 = .ok (.iconst 2, 1) := by decide +kernel
theorem dX10_apart_363 : decode cX10_apart 363 = .ok (.irem, 1) := by decide +kernel
theorem dX10_apart_364 : decode cX10_apart 364 = .ok (.ifCond .ne 8, 3) := by decide +kernel
theorem dX10_apart_367 : decode cX10_apart 367 = .ok (.lload 6, 2) := by decide +kernel
theorem dX10_apart_369 : decode cX10_apart 369 = .ok (.goto 5, 3) := by decide +kernel
theorem dX10_apart_372 : decode cX10_apart 372 = .ok (.lload 8, 2) := by decide +kernel
theorem dX10_apart_374 : decode cX10_apart 374 = .ok (.lreturn, 1) := by decide +kernel
theorem dX10_isHolder_0 : decode cX10_isHolder 0 = .ok (.iload_n 0, 1) := by decide +kernel
theorem dX10_isHolder_1 : decode cX10_isHolder 1 = .ok (.ifCond .lt 12, 3) := by decide +kernel
theorem dX10_isHolder_4 : decode cX10_isHolder 4 = .ok (.iload_n 0, 1) := by decide +kernel
theorem dX10_isHolder_5 : decode cX10_isHolder 5 = .ok (.iconst 4, 1) := by decide +kernel
theorem dX10_isHolder_6 : decode cX10_isHolder 6 = .ok (.if_icmp .ge 7, 3) := by decide +kernel
theorem dX10_isHolder_9 : decode cX10_isHolder 9 = .ok (.iconst 1, 1) := by decide +kernel
theorem dX10_isHolder_10 : decode cX10_isHolder 10 = .ok (.goto 4, 3) := by decide +kernel
theorem dX10_isHolder_13 : decode cX10_isHolder 13 = .ok (.iconst 0, 1) := by decide +kernel
theorem dX10_isHolder_14 : decode cX10_isHolder 14 = .ok (.ireturn, 1) := by decide +kernel
theorem dX10_send_0 : decode cX10_send 0 = .ok (.aload_n 0, 1) := by decide +kernel
theorem dX10_send_1 : decode cX10_send 1 = .ok (.iload_n 1, 1) := by decide +kernel
theorem dX10_send_2 : decode cX10_send 2 = .ok (.invokevirtual 196, 3) := by decide +kernel
theorem dX10_send_5 : decode cX10_send 5 = .ok (.ifCond .eq 10, 3) := by decide +kernel
theorem dX10_send_8 : decode cX10_send 8 = .ok (.iload_n 2, 1) := by decide +kernel
theorem dX10_send_9 : decode cX10_send 9 = .ok (.invokestatic 331, 3) := by decide +kernel
theorem dX10_send_12 : decode cX10_send 12 = .ok (.ifCond .ne 9, 3) := by decide +kernel
theorem dX10_send_15 : decode cX10_send 15 = .ok (.aload_n 0, 1) := by decide +kernel
theorem dX10_send_16 : decode cX10_send 16 = .ok (.iconst (-1), 1) := by decide +kernel
theorem dX10_send_17 : decode cX10_send 17 = .ok (.invokevirtual 120, 3) := by decide +kernel
theorem dX10_send_20 : decode cX10_send 20 = .ok (.ireturn, 1) := by decide +kernel
theorem dX10_send_21 : decode cX10_send 21 = .ok (.iload_n 3, 1) := by decide +kernel
theorem dX10_send_22 : decode cX10_send 22 = .ok (.i2l, 1) := by decide +kernel
theorem dX10_send_23 : decode cX10_send 23 = .ok (.ldc2_w 278, 3) := by decide +kernel
theorem dX10_send_26 : decode cX10_send 26 = .ok (.ldc2_w 152, 3) := by decide +kernel
theorem dX10_send_29 : decode cX10_send 29 = .ok (.invokestatic 126, 3) := by decide +kernel
theorem dX10_send_32 : decode cX10_send 32 = .ok (.istore 4, 2) := by decide +kernel
theorem dX10_send_34 : decode cX10_send 34 = .ok (.iload 4, 2) := by decide +kernel
theorem dX10_send_36 : decode cX10_send 36 = .ok (.ifCond .eq 10, 3) := by decide +kernel
theorem dX10_send_39 : decode cX10_send 39 = .ok (.aload_n 0, 1) := by decide +kernel
theorem dX10_send_40 : decode cX10_send 40 = .ok (.iload 4, 2) := by decide +kernel
theorem dX10_send_42 : decode cX10_send 42 = .ok (.invokevirtual 120, 3) := by decide +kernel
theorem dX10_send_45 : decode cX10_send 45 = .ok (.ireturn, 1) := by decide +kernel
theorem dX10_send_46 : decode cX10_send 46 = .ok (.aload_n 0, 1) := by decide +kernel
theorem dX10_send_47 : decode cX10_send 47 = .ok (.getfield 105, 3) := by decide +kernel
theorem dX10_send_50 : decode cX10_send 50 = .ok (.bipush 40, 2) := by decide +kernel
theorem dX10_send_52 : decode cX10_send 52 = .ok (.iload_n 2, 1) := by decide +kernel
theorem dX10_send_53 : decode cX10_send 53 = .ok (.imul, 1) := by decide +kernel
theorem dX10_send_54 : decode cX10_send 54 = .ok (.iload_n 1, 1) := by decide +kernel
theorem dX10_send_55 : decode cX10_send 55 = .ok (.iadd, 1) := by decide +kernel
theorem dX10_send_56 : decode cX10_send 56 = .ok (.iaload, 1) := by decide +kernel
theorem dX10_send_57 : decode cX10_send 57 = .ok (.istore 5, 2) := by decide +kernel
theorem dX10_send_59 : decode cX10_send 59 = .ok (.aload_n 0, 1) := by decide +kernel
theorem dX10_send_60 : decode cX10_send 60 = .ok (.getfield 105, 3) := by decide +kernel
theorem dX10_send_63 : decode cX10_send 63 = .ok (.bipush 40, 2) := by decide +kernel
theorem dX10_send_65 : decode cX10_send 65 = .ok (.iload_n 2, 1) := by decide +kernel
theorem dX10_send_66 : decode cX10_send 66 = .ok (.imul, 1) := by decide +kernel
theorem dX10_send_67 : decode cX10_send 67 = .ok (.iload_n 1, 1) := by decide +kernel
theorem dX10_send_68 : decode cX10_send 68 = .ok (.iadd, 1) := by decide +kernel
theorem dX10_send_69 : decode cX10_send 69 = .ok (.iload_n 3, 1) := by decide +kernel
theorem dX10_send_70 : decode cX10_send 70 = .ok (.iconst 1, 1) := by decide +kernel
theorem dX10_send_71 : decode cX10_send 71 = .ok (.iadd, 1) := by decide +kernel
theorem dX10_send_72 : decode cX10_send 72 = .ok (.iastore, 1) := by decide +kernel
theorem dX10_send_73 : decode cX10_send 73 = .ok (.iload 5, 2) := by decide +kernel
theorem dX10_send_75 : decode cX10_send 75 = .ok (.ifCond .ne 8, 3) := by decide +kernel
theorem dX10_send_78 : decode cX10_send 78 = .ok (.bipush (-9), 2) := by decide +kernel
theorem dX10_send_80 : decode cX10_send 80 = .ok (.goto 7, 3) := by decide +kernel
theorem dX10_send_83 : decode cX10_send 83 = .ok (.iload 5, 2) := by decide +kernel
theorem dX10_send_85 : decode cX10_send 85 = .ok (.iconst 1, 1) := by decide +kernel
theorem dX10_send_86 : decode cX10_send 86 = .ok (.isub, 1) := by decide +kernel
theorem dX10_send_87 : decode cX10_send 87 = .ok (.ireturn, 1) := by decide +kernel
theorem dX10_hasOf_0 : decode cX10_hasOf 0 = .ok (.lconst 0, 1) := by decide +kernel
theorem dX10_hasOf_1 : decode cX10_hasOf 1 = .ok (.lstore_n 3, 1) := by decide +kernel
theorem dX10_hasOf_2 : decode cX10_hasOf 2 = .ok (.iconst 0, 1) := by decide +kernel
theorem dX10_hasOf_3 : decode cX10_hasOf 3 = .ok (.istore 5, 2) := by decide +kernel
theorem dX10_hasOf_5 : decode cX10_hasOf 5 = .ok (.iload 5, 2) := by decide +kernel
theorem dX10_hasOf_7 : decode cX10_hasOf 7 = .ok (.aload_n 0, 1) := by decide +kernel
theorem dX10_hasOf_8 : decode cX10_hasOf 8 = .ok (.getfield 181, 3) := by decide +kernel
theorem dX10_hasOf_11 : decode cX10_hasOf 11 = .ok (.if_icmp .ge 53, 3) := by decide +kernel
theorem dX10_hasOf_14 : decode cX10_hasOf 14 = .ok (.lload_n 3, 1) := by decide +kernel
theorem dX10_hasOf_15 : decode cX10_hasOf 15 = .ok (.aload_n 0, 1) := by decide +kernel
theorem dX10_hasOf_16 : decode cX10_hasOf 16 = .ok (.getfield 105, 3) := by decide +kernel
theorem dX10_hasOf_19 : decode cX10_hasOf 19 = .ok (.bipush 40, 2) := by decide +kernel
theorem dX10_hasOf_21 : decode cX10_hasOf 21 = .ok (.iload_n 1, 1) := by decide +kernel
theorem dX10_hasOf_22 : decode cX10_hasOf 22 = .ok (.imul, 1) := by decide +kernel
theorem dX10_hasOf_23 : decode cX10_hasOf 23 = .ok (.iload 5, 2) := by decide +kernel
theorem dX10_hasOf_25 : decode cX10_hasOf 25 = .ok (.iadd, 1) := by decide +kernel
theorem dX10_hasOf_26 : decode cX10_hasOf 26 = .ok (.iaload, 1) := by decide +kernel
theorem dX10_hasOf_27 : decode cX10_hasOf 27 = .ok (.ifCond .le 28, 3) := by decide +kernel
theorem dX10_hasOf_30 : decode cX10_hasOf 30 = .ok (.aload_n 0, 1) := by decide +kernel
theorem dX10_hasOf_31 : decode cX10_hasOf 31 = .ok (.getfield 105, 3) := by decide +kernel
theorem dX10_hasOf_34 : decode cX10_hasOf 34 = .ok (.bipush 40, 2) := by decide +kernel
theorem dX10_hasOf_36 : decode cX10_hasOf 36 = .ok (.iload_n 1, 1) := by decide +kernel
theorem dX10_hasOf_37 : decode cX10_hasOf 37 = .ok (.imul, 1) := by decide +kernel
theorem dX10_hasOf_38 : decode cX10_hasOf 38 = .ok (.iload 5, 2) := by decide +kernel
theorem dX10_hasOf_40 : decode cX10_hasOf 40 = .ok (.iadd, 1) := by decide +kernel
theorem dX10_hasOf_41 : decode cX10_hasOf 41 = .ok (.iaload, 1) := by decide +kernel
theorem dX10_hasOf_42 : decode cX10_hasOf 42 = .ok (.iload_n 2, 1) := by decide +kernel
theorem dX10_hasOf_43 : decode cX10_hasOf 43 = .ok (.iconst 1, 1) := by decide +kernel
theorem dX10_hasOf_44 : decode cX10_hasOf 44 = .ok (.iadd, 1) := by decide +kernel
theorem dX10_hasOf_45 : decode cX10_hasOf 45 = .ok (.if_icmp .gt 10, 3) := by decide +kernel
theorem dX10_hasOf_48 : decode cX10_hasOf 48 = .ok (.lconst 1, 1) := by decide +kernel
theorem dX10_hasOf_49 : decode cX10_hasOf 49 = .ok (.iload 5, 2) := by decide +kernel
theorem dX10_hasOf_51 : decode cX10_hasOf 51 = .ok (.lshl, 1) := by decide +kernel
theorem dX10_hasOf_52 : decode cX10_hasOf 52 = .ok (.goto 4, 3) := by decide +kernel
theorem dX10_hasOf_55 : decode cX10_hasOf 55 = .ok (.lconst 0, 1) := by decide +kernel
theorem dX10_hasOf_56 : decode cX10_hasOf 56 = .ok (.lor, 1) := by decide +kernel
theorem dX10_hasOf_57 : decode cX10_hasOf 57 = .ok (.lstore_n 3, 1) := by decide +kernel
theorem dX10_hasOf_58 : decode cX10_hasOf 58 = .ok (.iinc 5 1, 3) := by decide +kernel
theorem dX10_hasOf_61 : decode cX10_hasOf 61 = .ok (.goto (-56), 3) := by decide +kernel
theorem dX10_hasOf_64 : decode cX10_hasOf 64 = .ok (.lload_n 3, 1) := by decide +kernel
theorem dX10_hasOf_65 : decode cX10_hasOf 65 = .ok (.lreturn, 1) := by decide +kernel
theorem dX10_has_0 : decode cX10_has 0 = .ok (.iload_n 1, 1) := by decide +kernel
theorem dX10_has_1 : decode cX10_has 1 = .ok (.invokestatic 331, 3) := by decide +kernel
theorem dX10_has_4 : decode cX10_has 4 = .ok (.ifCond .ne 9, 3) := by decide +kernel
theorem dX10_has_7 : decode cX10_has 7 = .ok (.aload_n 0, 1) := by decide +kernel
theorem dX10_has_8 : decode cX10_has 8 = .ok (.iconst (-1), 1) := by decide +kernel
theorem dX10_has_9 : decode cX10_has 9 = .ok (.invokevirtual 161, 3) := by decide +kernel
theorem dX10_has_12 : decode cX10_has 12 = .ok (.lreturn, 1) := by decide +kernel
theorem dX10_has_13 : decode cX10_has 13 = .ok (.iload_n 2, 1) := by decide +kernel
theorem dX10_has_14 : decode cX10_has 14 = .ok (.i2l, 1) := by decide +kernel
theorem dX10_has_15 : decode cX10_has 15 = .ok (.lconst 0, 1) := by decide +kernel
theorem dX10_has_16 : decode cX10_has 16 = .ok (.ldc2_w 152, 3) := by decide +kernel
theorem dX10_has_19 : decode cX10_has 19 = .ok (.invokestatic 126, 3) := by decide +kernel
theorem dX10_has_22 : decode cX10_has 22 = .ok (.istore_n 3, 1) := by decide +kernel
theorem dX10_has_23 : decode cX10_has 23 = .ok (.iload_n 3, 1) := by decide +kernel
theorem dX10_has_24 : decode cX10_has 24 = .ok (.ifCond .eq 11, 3) := by decide +kernel
theorem dX10_has_27 : decode cX10_has 27 = .ok (.aload_n 0, 1) := by decide +kernel
theorem dX10_has_28 : decode cX10_has 28 = .ok (.iload_n 3, 1) := by decide +kernel
theorem dX10_has_29 : decode cX10_has 29 = .ok (.invokevirtual 161, 3) := by decide +kernel
theorem dX10_has_32 : decode cX10_has 32 = .ok (.goto 9, 3) := by decide +kernel
theorem dX10_has_35 : decode cX10_has 35 = .ok (.aload_n 0, 1) := by decide +kernel
theorem dX10_has_36 : decode cX10_has 36 = .ok (.iload_n 1, 1) := by decide +kernel
theorem dX10_has_37 : decode cX10_has 37 = .ok (.iload_n 2, 1) := by decide +kernel
theorem dX10_has_38 : decode cX10_has 38 = .ok (.invokevirtual 334, 3) := by decide +kernel
theorem dX10_has_41 : decode cX10_has 41 = .ok (.lreturn, 1) := by decide +kernel
theorem dX10_believes_0 : decode cX10_believes 0 = .ok (.iload_n 1, 1) := by decide +kernel
theorem dX10_believes_1 : decode cX10_believes 1 = .ok (.invokestatic 331, 3) := by decide +kernel
theorem dX10_believes_4 : decode cX10_believes 4 = .ok (.ifCond .eq 11, 3) := by decide +kernel
theorem dX10_believes_7 : decode cX10_believes 7 = .ok (.aload_n 0, 1) := by decide +kernel
theorem dX10_believes_8 : decode cX10_believes 8 = .ok (.iload_n 3, 1) := by decide +kernel
theorem dX10_believes_9 : decode cX10_believes 9 = .ok (.invokevirtual 136, 3) := by decide +kernel
theorem dX10_believes_12 : decode cX10_believes 12 = .ok (.ifCond .ne 9, 3) := by decide +kernel
theorem dX10_believes_15 : decode cX10_believes 15 = .ok (.aload_n 0, 1) := by decide +kernel
theorem dX10_believes_16 : decode cX10_believes 16 = .ok (.iconst (-1), 1) := by decide +kernel
theorem dX10_believes_17 : decode cX10_believes 17 = .ok (.invokevirtual 120, 3) := by decide +kernel
theorem dX10_believes_20 : decode cX10_believes 20 = .ok (.ireturn, 1) := by decide +kernel
theorem dX10_believes_21 : decode cX10_believes 21 = .ok (.aload_n 0, 1) := by decide +kernel
theorem dX10_believes_22 : decode cX10_believes 22 = .ok (.getfield 237, 3) := by decide +kernel
theorem dX10_believes_25 : decode cX10_believes 25 = .ok (.ifCond .ne 8, 3) := by decide +kernel
theorem dX10_believes_28 : decode cX10_believes 28 = .ok (.bipush (-3), 2) := by decide +kernel
theorem dX10_believes_30 : decode cX10_believes 30 = .ok (.goto 12, 3) := by decide +kernel
theorem dX10_believes_33 : decode cX10_believes 33 = .ok (.iload_n 2, 1) := by decide +kernel
theorem dX10_believes_34 : decode cX10_believes 34 = .ok (.i2l, 1) := by decide +kernel
theorem dX10_believes_35 : decode cX10_believes 35 = .ok (.lconst 0, 1) := by decide +kernel
theorem dX10_believes_36 : decode cX10_believes 36 = .ok (.ldc2_w 152, 3) := by decide +kernel
theorem dX10_believes_39 : decode cX10_believes 39 = .ok (.invokestatic 126, 3) := by decide +kernel
theorem dX10_believes_42 : decode cX10_believes 42 = .ok (.istore 4, 2) := by decide +kernel
theorem dX10_believes_44 : decode cX10_believes 44 = .ok (.iload 4, 2) := by decide +kernel
theorem dX10_believes_46 : decode cX10_believes 46 = .ok (.ifCond .eq 12, 3) := by decide +kernel
theorem dX10_believes_49 : decode cX10_believes 49 = .ok (.aload_n 0, 1) := by decide +kernel
theorem dX10_believes_50 : decode cX10_believes 50 = .ok (.iload 4, 2) := by decide +kernel
theorem dX10_believes_52 : decode cX10_believes 52 = .ok (.invokevirtual 120, 3) := by decide +kernel
theorem dX10_believes_55 : decode cX10_believes 55 = .ok (.goto 14, 3) := by decide +kernel
theorem dX10_believes_58 : decode cX10_believes 58 = .ok (.aload_n 0, 1) := by decide +kernel
theorem dX10_believes_59 : decode cX10_believes 59 = .ok (.iload_n 3, 1) := by decide +kernel
theorem dX10_believes_60 : decode cX10_believes 60 = .ok (.aload_n 0, 1) := by decide +kernel
theorem dX10_believes_61 : decode cX10_believes 61 = .ok (.iload_n 1, 1) := by decide +kernel
theorem dX10_believes_62 : decode cX10_believes 62 = .ok (.iload_n 2, 1) := by decide +kernel
theorem dX10_believes_63 : decode cX10_believes 63 = .ok (.invokevirtual 334, 3) := by decide +kernel
theorem dX10_believes_66 : decode cX10_believes 66 = .ok (.invokevirtual 313, 3) := by decide +kernel
theorem dX10_believes_69 : decode cX10_believes 69 = .ok (.ireturn, 1) := by decide +kernel
theorem dX10_othersOf_0 : decode cX10_othersOf 0 = .ok (.lconst 0, 1) := by decide +kernel
theorem dX10_othersOf_1 : decode cX10_othersOf 1 = .ok (.lstore 4, 2) := by decide +kernel
theorem dX10_othersOf_3 : decode cX10_othersOf 3 = .ok (.iconst 0, 1) := by decide +kernel
theorem dX10_othersOf_4 : decode cX10_othersOf 4 = .ok (.istore 6, 2) := by decide +kernel
theorem dX10_othersOf_6 : decode cX10_othersOf 6 = .ok (.iconst 0, 1) := by decide +kernel
theorem dX10_othersOf_7 : decode cX10_othersOf 7 = .ok (.istore 7, 2) := by decide +kernel
theorem dX10_othersOf_9 : decode cX10_othersOf 9 = .ok (.iload 7, 2) := by decide +kernel
theorem dX10_othersOf_11 : decode cX10_othersOf 11 = .ok (.aload_n 0, 1) := by decide +kernel
theorem dX10_othersOf_12 : decode cX10_othersOf 12 = .ok (.getfield 181, 3) := by decide +kernel
theorem dX10_othersOf_15 : decode cX10_othersOf 15 = .ok (.if_icmp .ge 64, 3) := by decide +kernel
theorem dX10_othersOf_18 : decode cX10_othersOf 18 = .ok (.iload 6, 2) := by decide +kernel
theorem dX10_othersOf_20 : decode cX10_othersOf 20 = .ok (.bipush 8, 2) := by decide +kernel
theorem dX10_othersOf_22 : decode cX10_othersOf 22 = .ok (.if_icmp .ge 57, 3) := by decide +kernel
theorem dX10_othersOf_25 : decode cX10_othersOf 25 = .ok (.aload_n 0, 1) := by decide +kernel
theorem dX10_othersOf_26 : decode cX10_othersOf 26 = .ok (.getfield 50, 3) := by decide +kernel
theorem dX10_othersOf_29 : decode cX10_othersOf 29 = .ok (.iload 7, 2) := by decide +kernel
theorem dX10_othersOf_31 : decode cX10_othersOf 31 = .ok (.iaload, 1) := by decide +kernel
theorem dX10_othersOf_32 : decode cX10_othersOf 32 = .ok (.iload_n 1, 1) := by decide +kernel
theorem dX10_othersOf_33 : decode cX10_othersOf 33 = .ok (.if_icmp .ne 40, 3) := by decide +kernel
theorem dX10_othersOf_36 : decode cX10_othersOf 36 = .ok (.aload_n 0, 1) := by decide +kernel
theorem dX10_othersOf_37 : decode cX10_othersOf 37 = .ok (.getfield 56, 3) := by decide +kernel
theorem dX10_othersOf_40 : decode cX10_othersOf 40 = .ok (.iload 7, 2) := by decide +kernel
theorem dX10_othersOf_42 : decode cX10_othersOf 42 = .ok (.iaload, 1) := by decide +kernel
theorem dX10_othersOf_43 : decode cX10_othersOf 43 = .ok (.iconst 5, 1) := by decide +kernel
theorem dX10_othersOf_44 : decode cX10_othersOf 44 = .ok (.if_icmp .eq 29, 3) := by decide +kernel
theorem dX10_othersOf_47 : decode cX10_othersOf 47 = .ok (.lload_n 2, 1) := by decide +kernel
theorem dX10_othersOf_48 : decode cX10_othersOf 48 = .ok (.iload 7, 2) := by decide +kernel
theorem dX10_othersOf_50 : decode cX10_othersOf 50 = .ok (.lshr, 1) := by decide +kernel
theorem dX10_othersOf_51 : decode cX10_othersOf 51 = .ok (.lconst 1, 1) := by decide +kernel
theorem dX10_othersOf_52 : decode cX10_othersOf 52 = .ok (.land, 1) := by decide +kernel
theorem dX10_othersOf_53 : decode cX10_othersOf 53 = .ok (.lconst 1, 1) := by decide +kernel
theorem dX10_othersOf_54 : decode cX10_othersOf 54 = .ok (.lcmp, 1) := by decide +kernel
theorem dX10_othersOf_55 : decode cX10_othersOf 55 = .ok (.ifCond .ne 6, 3) := by decide +kernel
theorem dX10_othersOf_58 : decode cX10_othersOf 58 = .ok (.goto 15, 3) := by decide +kernel
theorem dX10_othersOf_61 : decode cX10_othersOf 61 = .ok (.lload 4, 2) := by decide +kernel
theorem dX10_othersOf_63 : decode cX10_othersOf 63 = .ok (.lconst 1, 1) := by decide +kernel
theorem dX10_othersOf_64 : decode cX10_othersOf 64 = .ok (.iload 7, 2) := by decide +kernel
theorem dX10_othersOf_66 : decode cX10_othersOf 66 = .ok (.lshl, 1) := by decide +kernel
theorem dX10_othersOf_67 : decode cX10_othersOf 67 = .ok (.lor, 1) := by decide +kernel
theorem dX10_othersOf_68 : decode cX10_othersOf 68 = .ok (.lstore 4, 2) := by decide +kernel
theorem dX10_othersOf_70 : decode cX10_othersOf 70 = .ok (.iinc 6 1, 3) := by decide +kernel
theorem dX10_othersOf_73 : decode cX10_othersOf 73 = .ok (.iinc 7 1, 3) := by decide +kernel
theorem dX10_othersOf_76 : decode cX10_othersOf 76 = .ok (.goto (-67), 3) := by decide +kernel
theorem dX10_othersOf_79 : decode cX10_othersOf 79 = .ok (.lload 4, 2) := by decide +kernel
theorem dX10_othersOf_81 : decode cX10_othersOf 81 = .ok (.lreturn, 1) := by decide +kernel
theorem dX10_turnOf_0 : decode cX10_turnOf 0 = .ok (.aload_n 0, 1) := by decide +kernel
theorem dX10_turnOf_1 : decode cX10_turnOf 1 = .ok (.iload_n 1, 1) := by decide +kernel
theorem dX10_turnOf_2 : decode cX10_turnOf 2 = .ok (.lload_n 2, 1) := by decide +kernel
theorem dX10_turnOf_3 : decode cX10_turnOf 3 = .ok (.invokevirtual 313, 3) := by decide +kernel
theorem dX10_turnOf_6 : decode cX10_turnOf 6 = .ok (.istore 4, 2) := by decide +kernel
theorem dX10_turnOf_8 : decode cX10_turnOf 8 = .ok (.aload_n 0, 1) := by decide +kernel
theorem dX10_turnOf_9 : decode cX10_turnOf 9 = .ok (.iload_n 1, 1) := by decide +kernel
theorem dX10_turnOf_10 : decode cX10_turnOf 10 = .ok (.lload_n 2, 1) := by decide +kernel
theorem dX10_turnOf_11 : decode cX10_turnOf 11 = .ok (.invokevirtual 337, 3) := by decide +kernel
theorem dX10_turnOf_14 : decode cX10_turnOf 14 = .ok (.lstore 5, 2) := by decide +kernel
theorem dX10_turnOf_16 : decode cX10_turnOf 16 = .ok (.iconst 0, 1) := by decide +kernel
theorem dX10_turnOf_17 : decode cX10_turnOf 17 = .ok (.istore 7, 2) := by decide +kernel
theorem dX10_turnOf_19 : decode cX10_turnOf 19 = .ok (.iload 7, 2) := by decide +kernel
theorem dX10_turnOf_21 : decode cX10_turnOf 21 = .ok (.aload_n 0, 1) := by decide +kernel
theorem dX10_turnOf_22 : decode cX10_turnOf 22 = .ok (.getfield 181, 3) := by decide +kernel
theorem dX10_turnOf_25 : decode cX10_turnOf 25 = .ok (.if_icmp .ge 42, 3) := by decide +kernel
theorem dX10_turnOf_28 : decode cX10_turnOf 28 = .ok (.lload 5, 2) := by decide +kernel
theorem dX10_turnOf_30 : decode cX10_turnOf 30 = .ok (.iload 7, 2) := by decide +kernel
theorem dX10_turnOf_32 : decode cX10_turnOf 32 = .ok (.lshr, 1) := by decide +kernel
theorem dX10_turnOf_33 : decode cX10_turnOf 33 = .ok (.lconst 1, 1) := by decide +kernel
theorem dX10_turnOf_34 : decode cX10_turnOf 34 = .ok (.land, 1) := by decide +kernel
theorem dX10_turnOf_35 : decode cX10_turnOf 35 = .ok (.lconst 1, 1) := by decide +kernel
theorem dX10_turnOf_36 : decode cX10_turnOf 36 = .ok (.lcmp, 1) := by decide +kernel
theorem dX10_turnOf_37 : decode cX10_turnOf 37 = .ok (.ifCond .ne 24, 3) := by decide +kernel
theorem dX10_turnOf_40 : decode cX10_turnOf 40 = .ok (.aload_n 0, 1) := by decide +kernel
theorem dX10_turnOf_41 : decode cX10_turnOf 41 = .ok (.iload_n 1, 1) := by decide +kernel
theorem dX10_turnOf_42 : decode cX10_turnOf 42 = .ok (.lload_n 2, 1) := by decide +kernel
theorem dX10_turnOf_43 : decode cX10_turnOf 43 = .ok (.lconst 1, 1) := by decide +kernel
theorem dX10_turnOf_44 : decode cX10_turnOf 44 = .ok (.iload 7, 2) := by decide +kernel
theorem dX10_turnOf_46 : decode cX10_turnOf 46 = .ok (.lshl, 1) := by decide +kernel
theorem dX10_turnOf_47 : decode cX10_turnOf 47 = .ok (.lor, 1) := by decide +kernel
theorem dX10_turnOf_48 : decode cX10_turnOf 48 = .ok (.invokevirtual 313, 3) := by decide +kernel
theorem dX10_turnOf_51 : decode cX10_turnOf 51 = .ok (.iload 4, 2) := by decide +kernel
theorem dX10_turnOf_53 : decode cX10_turnOf 53 = .ok (.if_icmp .eq 8, 3) := by decide +kernel
theorem dX10_turnOf_56 : decode cX10_turnOf 56 = .ok (.lconst 1, 1) := by decide +kernel
theorem dX10_turnOf_57 : decode cX10_turnOf 57 = .ok (.iload 7, 2) := by decide +kernel
theorem dX10_turnOf_59 : decode cX10_turnOf 59 = .ok (.lshl, 1) := by decide +kernel
theorem dX10_turnOf_60 : decode cX10_turnOf 60 = .ok (.lreturn, 1) := by decide +kernel
theorem dX10_turnOf_61 : decode cX10_turnOf 61 = .ok (.iinc 7 1, 3) := by decide +kernel
theorem dX10_turnOf_64 : decode cX10_turnOf 64 = .ok (.goto (-45), 3) := by decide +kernel
theorem dX10_turnOf_67 : decode cX10_turnOf 67 = .ok (.iconst 0, 1) := by decide +kernel
theorem dX10_turnOf_68 : decode cX10_turnOf 68 = .ok (.istore 7, 2) := by decide +kernel
theorem dX10_turnOf_70 : decode cX10_turnOf 70 = .ok (.iload 7, 2) := by decide +kernel
theorem dX10_turnOf_72 : decode cX10_turnOf 72 = .ok (.aload_n 0, 1) := by decide +kernel
theorem dX10_turnOf_73 : decode cX10_turnOf 73 = .ok (.getfield 181, 3) := by decide +kernel
theorem dX10_turnOf_76 : decode cX10_turnOf 76 = .ok (.if_icmp .ge 80, 3) := by decide +kernel
theorem dX10_turnOf_79 : decode cX10_turnOf 79 = .ok (.iconst 0, 1) := by decide +kernel
theorem dX10_turnOf_80 : decode cX10_turnOf 80 = .ok (.istore 8, 2) := by decide +kernel
theorem dX10_turnOf_82 : decode cX10_turnOf 82 = .ok (.iload 8, 2) := by decide +kernel
theorem dX10_turnOf_84 : decode cX10_turnOf 84 = .ok (.iload 7, 2) := by decide +kernel
theorem dX10_turnOf_86 : decode cX10_turnOf 86 = .ok (.if_icmp .ge 64, 3) := by decide +kernel
theorem dX10_turnOf_89 : decode cX10_turnOf 89 = .ok (.lload 5, 2) := by decide +kernel
theorem dX10_turnOf_91 : decode cX10_turnOf 91 = .ok (.iload 7, 2) := by decide +kernel
theorem dX10_turnOf_93 : decode cX10_turnOf 93 = .ok (.lshr, 1) := by decide +kernel
theorem dX10_turnOf_94 : decode cX10_turnOf 94 = .ok (.lconst 1, 1) := by decide +kernel
theorem dX10_turnOf_95 : decode cX10_turnOf 95 = .ok (.land, 1) := by decide +kernel
theorem dX10_turnOf_96 : decode cX10_turnOf 96 = .ok (.lconst 1, 1) := by decide +kernel
theorem dX10_turnOf_97 : decode cX10_turnOf 97 = .ok (.lcmp, 1) := by decide +kernel
theorem dX10_turnOf_98 : decode cX10_turnOf 98 = .ok (.ifCond .ne 46, 3) := by decide +kernel
theorem dX10_turnOf_101 : decode cX10_turnOf 101 = .ok (.lload 5, 2) := by decide +kernel
theorem dX10_turnOf_103 : decode cX10_turnOf 103 = .ok (.iload 8, 2) := by decide +kernel
theorem dX10_turnOf_105 : decode cX10_turnOf 105 = .ok (.lshr, 1) := by decide +kernel
theorem dX10_turnOf_106 : decode cX10_turnOf 106 = .ok (.lconst 1, 1) := by decide +kernel
theorem dX10_turnOf_107 : decode cX10_turnOf 107 = .ok (.land, 1) := by decide +kernel
theorem dX10_turnOf_108 : decode cX10_turnOf 108 = .ok (.lconst 1, 1) := by decide +kernel
theorem dX10_turnOf_109 : decode cX10_turnOf 109 = .ok (.lcmp, 1) := by decide +kernel
theorem dX10_turnOf_110 : decode cX10_turnOf 110 = .ok (.ifCond .ne 34, 3) := by decide +kernel
theorem dX10_turnOf_113 : decode cX10_turnOf 113 = .ok (.aload_n 0, 1) := by decide +kernel
theorem dX10_turnOf_114 : decode cX10_turnOf 114 = .ok (.iload_n 1, 1) := by decide +kernel
theorem dX10_turnOf_115 : decode cX10_turnOf 115 = .ok (.lload_n 2, 1) := by decide +kernel
theorem dX10_turnOf_116 : decode cX10_turnOf 116 = .ok (.lconst 1, 1) := by decide +kernel
theorem dX10_turnOf_117 : decode cX10_turnOf 117 = .ok (.iload 7, 2) := by decide +kernel
theorem dX10_turnOf_119 : decode cX10_turnOf 119 = .ok (.lshl, 1) := by decide +kernel
theorem dX10_turnOf_120 : decode cX10_turnOf 120 = .ok (.lor, 1) := by decide +kernel
theorem dX10_turnOf_121 : decode cX10_turnOf 121 = .ok (.lconst 1, 1) := by decide +kernel
theorem dX10_turnOf_122 : decode cX10_turnOf 122 = .ok (.iload 8, 2) := by decide +kernel
theorem dX10_turnOf_124 : decode cX10_turnOf 124 = .ok (.lshl, 1) := by decide +kernel
theorem dX10_turnOf_125 : decode cX10_turnOf 125 = .ok (.lor, 1) := by decide +kernel
theorem dX10_turnOf_126 : decode cX10_turnOf 126 = .ok (.invokevirtual 313, 3) := by decide +kernel
theorem dX10_turnOf_129 : decode cX10_turnOf 129 = .ok (.iload 4, 2) := by decide +kernel
theorem dX10_turnOf_131 : decode cX10_turnOf 131 = .ok (.if_icmp .eq 13, 3) := by decide +kernel
theorem dX10_turnOf_134 : decode cX10_turnOf 134 = .ok (.lconst 1, 1) := by decide +kernel
theorem dX10_turnOf_135 : decode cX10_turnOf 135 = .ok (.iload 7, 2) := by decide +kernel
theorem dX10_turnOf_137 : decode cX10_turnOf 137 = .ok (.lshl, 1) := by decide +kernel
theorem dX10_turnOf_138 : decode cX10_turnOf 138 = .ok (.lconst 1, 1) := by decide +kernel
theorem dX10_turnOf_139 : decode cX10_turnOf 139 = .ok (.iload 8, 2) := by decide +kernel
theorem dX10_turnOf_141 : decode cX10_turnOf 141 = .ok (.lshl, 1) := by decide +kernel
theorem dX10_turnOf_142 : decode cX10_turnOf 142 = .ok (.lor, 1) := by decide +kernel
theorem dX10_turnOf_143 : decode cX10_turnOf 143 = .ok (.lreturn, 1) := by decide +kernel
theorem dX10_turnOf_144 : decode cX10_turnOf 144 = .ok (.iinc 8 1, 3) := by decide +kernel
theorem dX10_turnOf_147 : decode cX10_turnOf 147 = .ok (.goto (-65), 3) := by decide +kernel
theorem dX10_turnOf_150 : decode cX10_turnOf 150 = .ok (.iinc 7 1, 3) := by decide +kernel
theorem dX10_turnOf_153 : decode cX10_turnOf 153 = .ok (.goto (-83), 3) := by decide +kernel
theorem dX10_turnOf_156 : decode cX10_turnOf 156 = .ok (.ldc2_w 140, 3) := by decide +kernel
theorem dX10_turnOf_159 : decode cX10_turnOf 159 = .ok (.lreturn, 1) := by decide +kernel
theorem dX10_turn_0 : decode cX10_turn 0 = .ok (.iload_n 1, 1) := by decide +kernel
theorem dX10_turn_1 : decode cX10_turn 1 = .ok (.invokestatic 331, 3) := by decide +kernel
theorem dX10_turn_4 : decode cX10_turn 4 = .ok (.ifCond .eq 11, 3) := by decide +kernel
theorem dX10_turn_7 : decode cX10_turn 7 = .ok (.aload_n 0, 1) := by decide +kernel
theorem dX10_turn_8 : decode cX10_turn 8 = .ok (.iload_n 3, 1) := by decide +kernel
theorem dX10_turn_9 : decode cX10_turn 9 = .ok (.invokevirtual 136, 3) := by decide +kernel
theorem dX10_turn_12 : decode cX10_turn 12 = .ok (.ifCond .ne 9, 3) := by decide +kernel
theorem dX10_turn_15 : decode cX10_turn 15 = .ok (.aload_n 0, 1) := by decide +kernel
theorem dX10_turn_16 : decode cX10_turn 16 = .ok (.iconst (-1), 1) := by decide +kernel
theorem dX10_turn_17 : decode cX10_turn 17 = .ok (.invokevirtual 161, 3) := by decide +kernel
theorem dX10_turn_20 : decode cX10_turn 20 = .ok (.lreturn, 1) := by decide +kernel
theorem dX10_turn_21 : decode cX10_turn 21 = .ok (.aload_n 0, 1) := by decide +kernel
theorem dX10_turn_22 : decode cX10_turn 22 = .ok (.getfield 237, 3) := by decide +kernel
theorem dX10_turn_25 : decode cX10_turn 25 = .ok (.ifCond .ne 8, 3) := by decide +kernel
theorem dX10_turn_28 : decode cX10_turn 28 = .ok (.bipush (-3), 2) := by decide +kernel
theorem dX10_turn_30 : decode cX10_turn 30 = .ok (.goto 12, 3) := by decide +kernel
theorem dX10_turn_33 : decode cX10_turn 33 = .ok (.iload_n 2, 1) := by decide +kernel
theorem dX10_turn_34 : decode cX10_turn 34 = .ok (.i2l, 1) := by decide +kernel
theorem dX10_turn_35 : decode cX10_turn 35 = .ok (.lconst 0, 1) := by decide +kernel
theorem dX10_turn_36 : decode cX10_turn 36 = .ok (.ldc2_w 152, 3) := by decide +kernel
theorem dX10_turn_39 : decode cX10_turn 39 = .ok (.invokestatic 126, 3) := by decide +kernel
theorem dX10_turn_42 : decode cX10_turn 42 = .ok (.istore 4, 2) := by decide +kernel
theorem dX10_turn_44 : decode cX10_turn 44 = .ok (.iload 4, 2) := by decide +kernel
theorem dX10_turn_46 : decode cX10_turn 46 = .ok (.ifCond .eq 12, 3) := by decide +kernel
theorem dX10_turn_49 : decode cX10_turn 49 = .ok (.aload_n 0, 1) := by decide +kernel
theorem dX10_turn_50 : decode cX10_turn 50 = .ok (.iload 4, 2) := by decide +kernel
theorem dX10_turn_52 : decode cX10_turn 52 = .ok (.invokevirtual 161, 3) := by decide +kernel
theorem dX10_turn_55 : decode cX10_turn 55 = .ok (.goto 14, 3) := by decide +kernel
theorem dX10_turn_58 : decode cX10_turn 58 = .ok (.aload_n 0, 1) := by decide +kernel
theorem dX10_turn_59 : decode cX10_turn 59 = .ok (.iload_n 3, 1) := by decide +kernel
theorem dX10_turn_60 : decode cX10_turn 60 = .ok (.aload_n 0, 1) := by decide +kernel
theorem dX10_turn_61 : decode cX10_turn 61 = .ok (.iload_n 1, 1) := by decide +kernel
theorem dX10_turn_62 : decode cX10_turn 62 = .ok (.iload_n 2, 1) := by decide +kernel
theorem dX10_turn_63 : decode cX10_turn 63 = .ok (.invokevirtual 334, 3) := by decide +kernel
theorem dX10_turn_66 : decode cX10_turn 66 = .ok (.invokevirtual 341, 3) := by decide +kernel
theorem dX10_turn_69 : decode cX10_turn 69 = .ok (.lreturn, 1) := by decide +kernel
theorem dX10_bits_0 : decode cX10_bits 0 = .ok (.iconst 0, 1) := by decide +kernel
theorem dX10_bits_1 : decode cX10_bits 1 = .ok (.istore_n 1, 1) := by decide +kernel
theorem dX10_bits_2 : decode cX10_bits 2 = .ok (.iconst 0, 1) := by decide +kernel
theorem dX10_bits_3 : decode cX10_bits 3 = .ok (.istore_n 2, 1) := by decide +kernel
theorem dX10_bits_4 : decode cX10_bits 4 = .ok (.iload_n 2, 1) := by decide +kernel
theorem dX10_bits_5 : decode cX10_bits 5 = .ok (.bipush 31, 2) := by decide +kernel
theorem dX10_bits_7 : decode cX10_bits 7 = .ok (.if_icmp .ge 17, 3) := by decide +kernel
theorem dX10_bits_10 : decode cX10_bits 10 = .ok (.iload_n 1, 1) := by decide +kernel
theorem dX10_bits_11 : decode cX10_bits 11 = .ok (.iload_n 0, 1) := by decide +kernel
theorem dX10_bits_12 : decode cX10_bits 12 = .ok (.iload_n 2, 1) := by decide +kernel
theorem dX10_bits_13 : decode cX10_bits 13 = .ok (.ishr, 1) := by decide +kernel
theorem dX10_bits_14 : decode cX10_bits 14 = .ok (.iconst 1, 1) := by decide +kernel
theorem dX10_bits_15 : decode cX10_bits 15 = .ok (.iand, 1) := by decide +kernel
theorem dX10_bits_16 : decode cX10_bits 16 = .ok (.iadd, 1) := by decide +kernel
theorem dX10_bits_17 : decode cX10_bits 17 = .ok (.istore_n 1, 1) := by decide +kernel
theorem dX10_bits_18 : decode cX10_bits 18 = .ok (.iinc 2 1, 3) := by decide +kernel
theorem dX10_bits_21 : decode cX10_bits 21 = .ok (.goto (-17), 3) := by decide +kernel
theorem dX10_bits_24 : decode cX10_bits 24 = .ok (.iload_n 1, 1) := by decide +kernel
theorem dX10_bits_25 : decode cX10_bits 25 = .ok (.ireturn, 1) := by decide +kernel
theorem dX10_watched_0 : decode cX10_watched 0 = .ok (.lconst 0, 1) := by decide +kernel
theorem dX10_watched_1 : decode cX10_watched 1 = .ok (.lstore 4, 2) := by decide +kernel
theorem dX10_watched_3 : decode cX10_watched 3 = .ok (.iconst 0, 1) := by decide +kernel
theorem dX10_watched_4 : decode cX10_watched 4 = .ok (.istore 6, 2) := by decide +kernel
theorem dX10_watched_6 : decode cX10_watched 6 = .ok (.iload 6, 2) := by decide +kernel
theorem dX10_watched_8 : decode cX10_watched 8 = .ok (.aload_n 0, 1) := by decide +kernel
theorem dX10_watched_9 : decode cX10_watched 9 = .ok (.getfield 237, 3) := by decide +kernel
theorem dX10_watched_12 : decode cX10_watched 12 = .ok (.if_icmp .ge 95, 3) := by decide +kernel
theorem dX10_watched_15 : decode cX10_watched 15 = .ok (.iconst 0, 1) := by decide +kernel
theorem dX10_watched_16 : decode cX10_watched 16 = .ok (.istore 7, 2) := by decide +kernel
theorem dX10_watched_18 : decode cX10_watched 18 = .ok (.iload 7, 2) := by decide +kernel
theorem dX10_watched_20 : decode cX10_watched 20 = .ok (.iload 6, 2) := by decide +kernel
theorem dX10_watched_22 : decode cX10_watched 22 = .ok (.if_icmp .ge 79, 3) := by decide +kernel
theorem dX10_watched_25 : decode cX10_watched 25 = .ok (.lconst 0, 1) := by decide +kernel
theorem dX10_watched_26 : decode cX10_watched 26 = .ok (.lstore 8, 2) := by decide +kernel
theorem dX10_watched_28 : decode cX10_watched 28 = .ok (.iconst 0, 1) := by decide +kernel
theorem dX10_watched_29 : decode cX10_watched 29 = .ok (.istore 10, 2) := by decide +kernel
theorem dX10_watched_31 : decode cX10_watched 31 = .ok (.iload 10, 2) := by decide +kernel
theorem dX10_watched_33 : decode cX10_watched 33 = .ok (.bipush 12, 2) := by decide +kernel
theorem dX10_watched_35 : decode cX10_watched 35 = .ok (.if_icmp .ge 53, 3) := by decide +kernel
theorem dX10_watched_38 : decode cX10_watched 38 = .ok (.iload_n 3, 1) := by decide +kernel
theorem dX10_watched_39 : decode cX10_watched 39 = .ok (.iload 10, 2) := by decide +kernel
theorem dX10_watched_41 : decode cX10_watched 41 = .ok (.ishr, 1) := by decide +kernel
theorem dX10_watched_42 : decode cX10_watched 42 = .ok (.iconst 1, 1) := by decide +kernel
theorem dX10_watched_43 : decode cX10_watched 43 = .ok (.iand, 1) := by decide +kernel
theorem dX10_watched_44 : decode cX10_watched 44 = .ok (.ifCond .ne 6, 3) := by decide +kernel
theorem dX10_watched_47 : decode cX10_watched 47 = .ok (.goto 35, 3) := by decide +kernel
theorem dX10_watched_50 : decode cX10_watched 50 = .ok (.aload_n 0, 1) := by decide +kernel
theorem dX10_watched_51 : decode cX10_watched 51 = .ok (.iload 6, 2) := by decide +kernel
theorem dX10_watched_53 : decode cX10_watched 53 = .ok (.iload 7, 2) := by decide +kernel
theorem dX10_watched_55 : decode cX10_watched 55 = .ok (.iload_n 1, 1) := by decide +kernel
theorem dX10_watched_56 : decode cX10_watched 56 = .ok (.iload_n 2, 1) := by decide +kernel
theorem dX10_watched_57 : decode cX10_watched 57 = .ok (.iload 10, 2) := by decide +kernel
theorem dX10_watched_59 : decode cX10_watched 59 = .ok (.iadd, 1) := by decide +kernel
theorem dX10_watched_60 : decode cX10_watched 60 = .ok (.invokevirtual 328, 3) := by decide +kernel
theorem dX10_watched_63 : decode cX10_watched 63 = .ok (.lstore 11, 2) := by decide +kernel
theorem dX10_watched_65 : decode cX10_watched 65 = .ok (.lload 11, 2) := by decide +kernel
theorem dX10_watched_67 : decode cX10_watched 67 = .ok (.lload 8, 2) := by decide +kernel
theorem dX10_watched_69 : decode cX10_watched 69 = .ok (.lcmp, 1) := by decide +kernel
theorem dX10_watched_70 : decode cX10_watched 70 = .ok (.ifCond .le 8, 3) := by decide +kernel
theorem dX10_watched_73 : decode cX10_watched 73 = .ok (.lload 11, 2) := by decide +kernel
theorem dX10_watched_75 : decode cX10_watched 75 = .ok (.goto 5, 3) := by decide +kernel
theorem dX10_watched_78 : decode cX10_watched 78 = .ok (.lload 8, 2) := by decide +kernel
theorem dX10_watched_80 : decode cX10_watched 80 = .ok (.lstore 8, 2) := by decide +kernel
theorem dX10_watched_82 : decode cX10_watched 82 = .ok (.iinc 10 1, 3) := by decide +kernel
theorem dX10_watched_85 : decode cX10_watched 85 = .ok (.goto (-54), 3) := by decide +kernel
theorem dX10_watched_88 : decode cX10_watched 88 = .ok (.lload 4, 2) := by decide +kernel
theorem dX10_watched_90 : decode cX10_watched 90 = .ok (.lload 8, 2) := by decide +kernel
theorem dX10_watched_92 : decode cX10_watched 92 = .ok (.ladd, 1) := by decide +kernel
theorem dX10_watched_93 : decode cX10_watched 93 = .ok (.lstore 4, 2) := by decide +kernel
theorem dX10_watched_95 : decode cX10_watched 95 = .ok (.iinc 7 1, 3) := by decide +kernel
theorem dX10_watched_98 : decode cX10_watched 98 = .ok (.goto (-80), 3) := by decide +kernel
theorem dX10_watched_101 : decode cX10_watched 101 = .ok (.iinc 6 1, 3) := by decide +kernel
theorem dX10_watched_104 : decode cX10_watched 104 = .ok (.goto (-98), 3) := by decide +kernel
theorem dX10_watched_107 : decode cX10_watched 107 = .ok (.lload 4, 2) := by decide +kernel
theorem dX10_watched_109 : decode cX10_watched 109 = .ok (.lreturn, 1) := by decide +kernel
theorem dX10_watch_0 : decode cX10_watch 0 = .ok (.aload_n 0, 1) := by decide +kernel
theorem dX10_watch_1 : decode cX10_watch 1 = .ok (.iload_n 1, 1) := by decide +kernel
theorem dX10_watch_2 : decode cX10_watch 2 = .ok (.invokevirtual 136, 3) := by decide +kernel
theorem dX10_watch_5 : decode cX10_watch 5 = .ok (.ifCond .ne 9, 3) := by decide +kernel
theorem dX10_watch_8 : decode cX10_watch 8 = .ok (.aload_n 0, 1) := by decide +kernel
theorem dX10_watch_9 : decode cX10_watch 9 = .ok (.iconst (-1), 1) := by decide +kernel
theorem dX10_watch_10 : decode cX10_watch 10 = .ok (.invokevirtual 120, 3) := by decide +kernel
theorem dX10_watch_13 : decode cX10_watch 13 = .ok (.ireturn, 1) := by decide +kernel
theorem dX10_watch_14 : decode cX10_watch 14 = .ok (.iload 4, 2) := by decide +kernel
theorem dX10_watch_16 : decode cX10_watch 16 = .ok (.iconst 1, 1) := by decide +kernel
theorem dX10_watch_17 : decode cX10_watch 17 = .ok (.if_icmp .lt 11, 3) := by decide +kernel
theorem dX10_watch_20 : decode cX10_watch 20 = .ok (.iload_n 2, 1) := by decide +kernel
theorem dX10_watch_21 : decode cX10_watch 21 = .ok (.ifCond .lt 7, 3) := by decide +kernel
theorem dX10_watch_24 : decode cX10_watch 24 = .ok (.iload_n 3, 1) := by decide +kernel
theorem dX10_watch_25 : decode cX10_watch 25 = .ok (.ifCond .ge 8, 3) := by decide +kernel
theorem dX10_watch_28 : decode cX10_watch 28 = .ok (.bipush (-4), 2) := by decide +kernel
theorem dX10_watch_30 : decode cX10_watch 30 = .ok (.goto 59, 3) := by decide +kernel
theorem dX10_watch_33 : decode cX10_watch 33 = .ok (.iload 4, 2) := by decide +kernel
theorem dX10_watch_35 : decode cX10_watch 35 = .ok (.iconst 4, 1) := by decide +kernel
theorem dX10_watch_36 : decode cX10_watch 36 = .ok (.if_icmp .gt 27, 3) := by decide +kernel
theorem dX10_watch_39 : decode cX10_watch 39 = .ok (.iload_n 2, 1) := by decide +kernel
theorem dX10_watch_40 : decode cX10_watch 40 = .ok (.sipush 999, 3) := by decide +kernel
theorem dX10_watch_43 : decode cX10_watch 43 = .ok (.if_icmp .gt 20, 3) := by decide +kernel
theorem dX10_watch_46 : decode cX10_watch 46 = .ok (.iload_n 3, 1) := by decide +kernel
theorem dX10_watch_47 : decode cX10_watch 47 = .ok (.sipush 999, 3) := by decide +kernel
theorem dX10_watch_50 : decode cX10_watch 50 = .ok (.if_icmp .gt 13, 3) := by decide +kernel
theorem dX10_watch_53 : decode cX10_watch 53 = .ok (.iload_n 3, 1) := by decide +kernel
theorem dX10_watch_54 : decode cX10_watch 54 = .ok (.iload_n 2, 1) := by decide +kernel
theorem dX10_watch_55 : decode cX10_watch 55 = .ok (.isub, 1) := by decide +kernel
theorem dX10_watch_56 : decode cX10_watch 56 = .ok (.iconst 1, 1) := by decide +kernel
theorem dX10_watch_57 : decode cX10_watch 57 = .ok (.iadd, 1) := by decide +kernel
theorem dX10_watch_58 : decode cX10_watch 58 = .ok (.bipush 12, 2) := by decide +kernel
theorem dX10_watch_60 : decode cX10_watch 60 = .ok (.if_icmp .le 8, 3) := by decide +kernel
theorem dX10_watch_63 : decode cX10_watch 63 = .ok (.bipush (-6), 2) := by decide +kernel
theorem dX10_watch_65 : decode cX10_watch 65 = .ok (.goto 24, 3) := by decide +kernel
theorem dX10_watch_68 : decode cX10_watch 68 = .ok (.iload_n 3, 1) := by decide +kernel
theorem dX10_watch_69 : decode cX10_watch 69 = .ok (.iload_n 2, 1) := by decide +kernel
theorem dX10_watch_70 : decode cX10_watch 70 = .ok (.if_icmp .lt 13, 3) := by decide +kernel
theorem dX10_watch_73 : decode cX10_watch 73 = .ok (.iload_n 3, 1) := by decide +kernel
theorem dX10_watch_74 : decode cX10_watch 74 = .ok (.iload_n 2, 1) := by decide +kernel
theorem dX10_watch_75 : decode cX10_watch 75 = .ok (.isub, 1) := by decide +kernel
theorem dX10_watch_76 : decode cX10_watch 76 = .ok (.iconst 1, 1) := by decide +kernel
theorem dX10_watch_77 : decode cX10_watch 77 = .ok (.iadd, 1) := by decide +kernel
theorem dX10_watch_78 : decode cX10_watch 78 = .ok (.iload 4, 2) := by decide +kernel
theorem dX10_watch_80 : decode cX10_watch 80 = .ok (.if_icmp .ge 8, 3) := by decide +kernel
theorem dX10_watch_83 : decode cX10_watch 83 = .ok (.bipush (-3), 2) := by decide +kernel
theorem dX10_watch_85 : decode cX10_watch 85 = .ok (.goto 4, 3) := by decide +kernel
theorem dX10_watch_88 : decode cX10_watch 88 = .ok (.iconst 0, 1) := by decide +kernel
theorem dX10_watch_89 : decode cX10_watch 89 = .ok (.istore 5, 2) := by decide +kernel
theorem dX10_watch_91 : decode cX10_watch 91 = .ok (.iload 5, 2) := by decide +kernel
theorem dX10_watch_93 : decode cX10_watch 93 = .ok (.ifCond .eq 10, 3) := by decide +kernel
theorem dX10_watch_96 : decode cX10_watch 96 = .ok (.aload_n 0, 1) := by decide +kernel
theorem dX10_watch_97 : decode cX10_watch 97 = .ok (.iload 5, 2) := by decide +kernel
theorem dX10_watch_99 : decode cX10_watch 99 = .ok (.invokevirtual 120, 3) := by decide +kernel
theorem dX10_watch_102 : decode cX10_watch 102 = .ok (.ireturn, 1) := by decide +kernel
theorem dX10_watch_103 : decode cX10_watch 103 = .ok (.aload_n 0, 1) := by decide +kernel
theorem dX10_watch_104 : decode cX10_watch 104 = .ok (.iload_n 1, 1) := by decide +kernel
theorem dX10_watch_105 : decode cX10_watch 105 = .ok (.invokevirtual 325, 3) := by decide +kernel
theorem dX10_watch_108 : decode cX10_watch 108 = .ok (.iconst 0, 1) := by decide +kernel
theorem dX10_watch_109 : decode cX10_watch 109 = .ok (.istore 6, 2) := by decide +kernel
theorem dX10_watch_111 : decode cX10_watch 111 = .ok (.ldc2_w 278, 3) := by decide +kernel
theorem dX10_watch_114 : decode cX10_watch 114 = .ok (.lstore 7, 2) := by decide +kernel
theorem dX10_watch_116 : decode cX10_watch 116 = .ok (.iconst 1, 1) := by decide +kernel
theorem dX10_watch_117 : decode cX10_watch 117 = .ok (.istore 9, 2) := by decide +kernel
theorem dX10_watch_119 : decode cX10_watch 119 = .ok (.iload 9, 2) := by decide +kernel
theorem dX10_watch_121 : decode cX10_watch 121 = .ok (.iconst 1, 1) := by decide +kernel
theorem dX10_watch_122 : decode cX10_watch 122 = .ok (.iload_n 3, 1) := by decide +kernel
theorem dX10_watch_123 : decode cX10_watch 123 = .ok (.iload_n 2, 1) := by decide +kernel
theorem dX10_watch_124 : decode cX10_watch 124 = .ok (.isub, 1) := by decide +kernel
theorem dX10_watch_125 : decode cX10_watch 125 = .ok (.iconst 1, 1) := by decide +kernel
theorem dX10_watch_126 : decode cX10_watch 126 = .ok (.iadd, 1) := by decide +kernel
theorem dX10_watch_127 : decode cX10_watch 127 = .ok (.ishl, 1) := by decide +kernel
theorem dX10_watch_128 : decode cX10_watch 128 = .ok (.if_icmp .ge 51, 3) := by decide +kernel
theorem dX10_watch_131 : decode cX10_watch 131 = .ok (.iload 9, 2) := by decide +kernel
theorem dX10_watch_133 : decode cX10_watch 133 = .ok (.invokestatic 344, 3) := by decide +kernel
theorem dX10_watch_136 : decode cX10_watch 136 = .ok (.iload 4, 2) := by decide +kernel
theorem dX10_watch_138 : decode cX10_watch 138 = .ok (.if_icmp .eq 6, 3) := by decide +kernel
theorem dX10_watch_141 : decode cX10_watch 141 = .ok (.goto 32, 3) := by decide +kernel
theorem dX10_watch_144 : decode cX10_watch 144 = .ok (.aload_n 0, 1) := by decide +kernel
theorem dX10_watch_145 : decode cX10_watch 145 = .ok (.iload_n 1, 1) := by decide +kernel
theorem dX10_watch_146 : decode cX10_watch 146 = .ok (.iload_n 2, 1) := by decide +kernel
theorem dX10_watch_147 : decode cX10_watch 147 = .ok (.iload 9, 2) := by decide +kernel
theorem dX10_watch_149 : decode cX10_watch 149 = .ok (.invokevirtual 347, 3) := by decide +kernel
theorem dX10_watch_152 : decode cX10_watch 152 = .ok (.lstore 10, 2) := by decide +kernel
theorem dX10_watch_154 : decode cX10_watch 154 = .ok (.lload 10, 2) := by decide +kernel
theorem dX10_watch_156 : decode cX10_watch 156 = .ok (.lload 7, 2) := by decide +kernel
theorem dX10_watch_158 : decode cX10_watch 158 = .ok (.lcmp, 1) := by decide +kernel
theorem dX10_watch_159 : decode cX10_watch 159 = .ok (.ifCond .gt 6, 3) := by decide +kernel
theorem dX10_watch_162 : decode cX10_watch 162 = .ok (.goto 11, 3) := by decide +kernel
theorem dX10_watch_165 : decode cX10_watch 165 = .ok (.iload 9, 2) := by decide +kernel
theorem dX10_watch_167 : decode cX10_watch 167 = .ok (.istore 6, 2) := by decide +kernel
theorem dX10_watch_169 : decode cX10_watch 169 = .ok (.lload 10, 2) := by decide +kernel
theorem dX10_watch_171 : decode cX10_watch 171 = .ok (.lstore 7, 2) := by decide +kernel
theorem dX10_watch_173 : decode cX10_watch 173 = .ok (.iinc 9 1, 3) := by decide +kernel
theorem dX10_watch_176 : decode cX10_watch 176 = .ok (.goto (-57), 3) := by decide +kernel
theorem dX10_watch_179 : decode cX10_watch 179 = .ok (.iload 6, 2) := by decide +kernel
theorem dX10_watch_181 : decode cX10_watch 181 = .ok (.ireturn, 1) := by decide +kernel
theorem dX10_passes_0 : decode cX10_passes 0 = .ok (.iconst 0, 1) := by decide +kernel
theorem dX10_passes_1 : decode cX10_passes 1 = .ok (.istore_n 2, 1) := by decide +kernel
theorem dX10_passes_2 : decode cX10_passes 2 = .ok (.iload_n 2, 1) := by decide +kernel
theorem dX10_passes_3 : decode cX10_passes 3 = .ok (.aload_n 1, 1) := by decide +kernel
theorem dX10_passes_4 : decode cX10_passes 4 = .ok (.arraylength, 1) := by decide +kernel
theorem dX10_passes_5 : decode cX10_passes 5 = .ok (.if_icmp .ge 53, 3) := by decide +kernel
theorem dX10_passes_8 : decode cX10_passes 8 = .ok (.aload_n 0, 1) := by decide +kernel
theorem dX10_passes_9 : decode cX10_passes 9 = .ok (.getfield 351, 3) := by decide +kernel
theorem dX10_passes_12 : decode cX10_passes 12 = .ok (.ifCond .eq 18, 3) := by decide +kernel
theorem dX10_passes_15 : decode cX10_passes 15 = .ok (.aload_n 0, 1) := by decide +kernel
theorem dX10_passes_16 : decode cX10_passes 16 = .ok (.getfield 108, 3) := by decide +kernel
theorem dX10_passes_19 : decode cX10_passes 19 = .ok (.aload_n 0, 1) := by decide +kernel
theorem dX10_passes_20 : decode cX10_passes 20 = .ok (.getfield 355, 3) := by decide +kernel
theorem dX10_passes_23 : decode cX10_passes 23 = .ok (.aload_n 1, 1) := by decide +kernel
theorem dX10_passes_24 : decode cX10_passes 24 = .ok (.iload_n 2, 1) := by decide +kernel
theorem dX10_passes_25 : decode cX10_passes 25 = .ok (.iaload, 1) := by decide +kernel
theorem dX10_passes_26 : decode cX10_passes 26 = .ok (.iastore, 1) := by decide +kernel
theorem dX10_passes_27 : decode cX10_passes 27 = .ok (.goto 15, 3) := by decide +kernel
theorem dX10_passes_30 : decode cX10_passes 30 = .ok (.aload_n 1, 1) := by decide +kernel
theorem dX10_passes_31 : decode cX10_passes 31 = .ok (.iload_n 2, 1) := by decide +kernel
theorem dX10_passes_32 : decode cX10_passes 32 = .ok (.aload_n 0, 1) := by decide +kernel
theorem dX10_passes_33 : decode cX10_passes 33 = .ok (.getfield 108, 3) := by decide +kernel
theorem dX10_passes_36 : decode cX10_passes 36 = .ok (.aload_n 0, 1) := by decide +kernel
theorem dX10_passes_37 : decode cX10_passes 37 = .ok (.getfield 355, 3) := by decide +kernel
theorem dX10_passes_40 : decode cX10_passes 40 = .ok (.iaload, 1) := by decide +kernel
theorem dX10_passes_41 : decode cX10_passes 41 = .ok (.iastore, 1) := by decide +kernel
theorem dX10_passes_42 : decode cX10_passes 42 = .ok (.aload_n 0, 1) := by decide +kernel
theorem dX10_passes_43 : decode cX10_passes 43 = .ok (.dup, 1) := by decide +kernel
theorem dX10_passes_44 : decode cX10_passes 44 = .ok (.getfield 355, 3) := by decide +kernel
theorem dX10_passes_47 : decode cX10_passes 47 = .ok (.iconst 1, 1) := by decide +kernel
theorem dX10_passes_48 : decode cX10_passes 48 = .ok (.iadd, 1) := by decide +kernel
theorem dX10_passes_49 : decode cX10_passes 49 = .ok (.putfield 355, 3) := by decide +kernel
theorem dX10_passes_52 : decode cX10_passes 52 = .ok (.iinc 2 1, 3) := by decide +kernel
theorem dX10_passes_55 : decode cX10_passes 55 = .ok (.goto (-53), 3) := by decide +kernel
theorem dX10_passes_58 : decode cX10_passes 58 = .ok (.return_, 1) := by decide +kernel
theorem dX10_passOne_0 : decode cX10_passOne 0 = .ok (.aload_n 0, 1) := by decide +kernel
theorem dX10_passOne_1 : decode cX10_passOne 1 = .ok (.getfield 351, 3) := by decide +kernel
theorem dX10_passOne_4 : decode cX10_passOne 4 = .ok (.ifCond .eq 7, 3) := by decide +kernel
theorem dX10_passOne_7 : decode cX10_passOne 7 = .ok (.iload_n 1, 1) := by decide +kernel
theorem dX10_passOne_8 : decode cX10_passOne 8 = .ok (.goto 12, 3) := by decide +kernel
theorem dX10_passOne_11 : decode cX10_passOne 11 = .ok (.aload_n 0, 1) := by decide +kernel
theorem dX10_passOne_12 : decode cX10_passOne 12 = .ok (.getfield 108, 3) := by decide +kernel
theorem dX10_passOne_15 : decode cX10_passOne 15 = .ok (.aload_n 0, 1) := by decide +kernel
theorem dX10_passOne_16 : decode cX10_passOne 16 = .ok (.getfield 355, 3) := by decide +kernel
theorem dX10_passOne_19 : decode cX10_passOne 19 = .ok (.iaload, 1) := by decide +kernel
theorem dX10_passOne_20 : decode cX10_passOne 20 = .ok (.istore_n 2, 1) := by decide +kernel
theorem dX10_passOne_21 : decode cX10_passOne 21 = .ok (.aload_n 0, 1) := by decide +kernel
theorem dX10_passOne_22 : decode cX10_passOne 22 = .ok (.getfield 351, 3) := by decide +kernel
theorem dX10_passOne_25 : decode cX10_passOne 25 = .ok (.ifCond .eq 13, 3) := by decide +kernel
theorem dX10_passOne_28 : decode cX10_passOne 28 = .ok (.aload_n 0, 1) := by decide +kernel
theorem dX10_passOne_29 : decode cX10_passOne 29 = .ok (.getfield 108, 3) := by decide +kernel
theorem dX10_passOne_32 : decode cX10_passOne 32 = .ok (.aload_n 0, 1) := by decide +kernel
theorem dX10_passOne_33 : decode cX10_passOne 33 = .ok (.getfield 355, 3) := by decide +kernel
theorem dX10_passOne_36 : decode cX10_passOne 36 = .ok (.iload_n 1, 1) := by decide +kernel
theorem dX10_passOne_37 : decode cX10_passOne 37 = .ok (.iastore, 1) := by decide +kernel
theorem dX10_passOne_38 : decode cX10_passOne 38 = .ok (.aload_n 0, 1) := by decide +kernel
theorem dX10_passOne_39 : decode cX10_passOne 39 = .ok (.dup, 1) := by decide +kernel
theorem dX10_passOne_40 : decode cX10_passOne 40 = .ok (.getfield 355, 3) := by decide +kernel
theorem dX10_passOne_43 : decode cX10_passOne 43 = .ok (.iconst 1, 1) := by decide +kernel
theorem dX10_passOne_44 : decode cX10_passOne 44 = .ok (.iadd, 1) := by decide +kernel
theorem dX10_passOne_45 : decode cX10_passOne 45 = .ok (.putfield 355, 3) := by decide +kernel
theorem dX10_passOne_48 : decode cX10_passOne 48 = .ok (.iload_n 2, 1) := by decide +kernel
theorem dX10_passOne_49 : decode cX10_passOne 49 = .ok (.ireturn, 1) := by decide +kernel
theorem dX10_passesAll_0 : decode cX10_passesAll 0 = .ok (.aload_n 0, 1) := by decide +kernel
theorem dX10_passesAll_1 : decode cX10_passesAll 1 = .ok (.iconst 0, 1) := by decide +kernel
theorem dX10_passesAll_2 : decode cX10_passesAll 2 = .ok (.putfield 355, 3) := by decide +kernel
theorem dX10_passesAll_5 : decode cX10_passesAll 5 = .ok (.aload_n 0, 1) := by decide +kernel
theorem dX10_passesAll_6 : decode cX10_passesAll 6 = .ok (.aload_n 0, 1) := by decide +kernel
theorem dX10_passesAll_7 : decode cX10_passesAll 7 = .ok (.getfield 13, 3) := by decide +kernel
theorem dX10_passesAll_10 : decode cX10_passesAll 10 = .ok (.invokevirtual 358, 3) := by decide +kernel
theorem dX10_passesAll_13 : decode cX10_passesAll 13 = .ok (.aload_n 0, 1) := by decide +kernel
theorem dX10_passesAll_14 : decode cX10_passesAll 14 = .ok (.aload_n 0, 1) := by decide +kernel
theorem dX10_passesAll_15 : decode cX10_passesAll 15 = .ok (.getfield 16, 3) := by decide +kernel
theorem dX10_passesAll_18 : decode cX10_passesAll 18 = .ok (.invokevirtual 358, 3) := by decide +kernel
theorem dX10_passesAll_21 : decode cX10_passesAll 21 = .ok (.aload_n 0, 1) := by decide +kernel
theorem dX10_passesAll_22 : decode cX10_passesAll 22 = .ok (.aload_n 0, 1) := by decide +kernel
theorem dX10_passesAll_23 : decode cX10_passesAll 23 = .ok (.getfield 19, 3) := by decide +kernel
theorem dX10_passesAll_26 : decode cX10_passesAll 26 = .ok (.invokevirtual 358, 3) := by decide +kernel
theorem dX10_passesAll_29 : decode cX10_passesAll 29 = .ok (.aload_n 0, 1) := by decide +kernel
theorem dX10_passesAll_30 : decode cX10_passesAll 30 = .ok (.aload_n 0, 1) := by decide +kernel
theorem dX10_passesAll_31 : decode cX10_passesAll 31 = .ok (.getfield 22, 3) := by decide +kernel
theorem dX10_passesAll_34 : decode cX10_passesAll 34 = .ok (.invokevirtual 358, 3) := by decide +kernel
theorem dX10_passesAll_37 : decode cX10_passesAll 37 = .ok (.aload_n 0, 1) := by decide +kernel
theorem dX10_passesAll_38 : decode cX10_passesAll 38 = .ok (.aload_n 0, 1) := by decide +kernel
theorem dX10_passesAll_39 : decode cX10_passesAll 39 = .ok (.getfield 25, 3) := by decide +kernel
theorem dX10_passesAll_42 : decode cX10_passesAll 42 = .ok (.invokevirtual 358, 3) := by decide +kernel
theorem dX10_passesAll_45 : decode cX10_passesAll 45 = .ok (.aload_n 0, 1) := by decide +kernel
theorem dX10_passesAll_46 : decode cX10_passesAll 46 = .ok (.aload_n 0, 1) := by decide +kernel
theorem dX10_passesAll_47 : decode cX10_passesAll 47 = .ok (.getfield 28, 3) := by decide +kernel
theorem dX10_passesAll_50 : decode cX10_passesAll 50 = .ok (.invokevirtual 358, 3) := by decide +kernel
theorem dX10_passesAll_53 : decode cX10_passesAll 53 = .ok (.aload_n 0, 1) := by decide +kernel
theorem dX10_passesAll_54 : decode cX10_passesAll 54 = .ok (.aload_n 0, 1) := by decide +kernel
theorem dX10_passesAll_55 : decode cX10_passesAll 55 = .ok (.getfield 38, 3) := by decide +kernel
theorem dX10_passesAll_58 : decode cX10_passesAll 58 = .ok (.invokevirtual 358, 3) := by decide +kernel
theorem dX10_passesAll_61 : decode cX10_passesAll 61 = .ok (.aload_n 0, 1) := by decide +kernel
theorem dX10_passesAll_62 : decode cX10_passesAll 62 = .ok (.aload_n 0, 1) := by decide +kernel
theorem dX10_passesAll_63 : decode cX10_passesAll 63 = .ok (.getfield 41, 3) := by decide +kernel
theorem dX10_passesAll_66 : decode cX10_passesAll 66 = .ok (.invokevirtual 358, 3) := by decide +kernel
theorem dX10_passesAll_69 : decode cX10_passesAll 69 = .ok (.aload_n 0, 1) := by decide +kernel
theorem dX10_passesAll_70 : decode cX10_passesAll 70 = .ok (.aload_n 0, 1) := by decide +kernel
theorem dX10_passesAll_71 : decode cX10_passesAll 71 = .ok (.getfield 44, 3) := by decide +kernel
theorem dX10_passesAll_74 : decode cX10_passesAll 74 = .ok (.invokevirtual 358, 3) := by decide +kernel
theorem dX10_passesAll_77 : decode cX10_passesAll 77 = .ok (.aload_n 0, 1) := by decide +kernel
theorem dX10_passesAll_78 : decode cX10_passesAll 78 = .ok (.aload_n 0, 1) := by decide +kernel
theorem dX10_passesAll_79 : decode cX10_passesAll 79 = .ok (.getfield 47, 3) := by decide +kernel
theorem dX10_passesAll_82 : decode cX10_passesAll 82 = .ok (.invokevirtual 358, 3) := by decide +kernel
theorem dX10_passesAll_85 : decode cX10_passesAll 85 = .ok (.aload_n 0, 1) := by decide +kernel
theorem dX10_passesAll_86 : decode cX10_passesAll 86 = .ok (.aload_n 0, 1) := by decide +kernel
theorem dX10_passesAll_87 : decode cX10_passesAll 87 = .ok (.getfield 50, 3) := by decide +kernel
theorem dX10_passesAll_90 : decode cX10_passesAll 90 = .ok (.invokevirtual 358, 3) := by decide +kernel
theorem dX10_passesAll_93 : decode cX10_passesAll 93 = .ok (.aload_n 0, 1) := by decide +kernel
theorem dX10_passesAll_94 : decode cX10_passesAll 94 = .ok (.aload_n 0, 1) := by decide +kernel
theorem dX10_passesAll_95 : decode cX10_passesAll 95 = .ok (.getfield 53, 3) := by decide +kernel
theorem dX10_passesAll_98 : decode cX10_passesAll 98 = .ok (.invokevirtual 358, 3) := by decide +kernel
theorem dX10_passesAll_101 : decode cX10_passesAll 101 = .ok (.aload_n 0, 1) := by decide +kernel
theorem dX10_passesAll_102 : decode cX10_passesAll 102 = .ok (.aload_n 0, 1) := by decide +kernel
theorem dX10_passesAll_103 : decode cX10_passesAll 103 = .ok (.getfield 56, 3) := by decide +kernel
theorem dX10_passesAll_106 : decode cX10_passesAll 106 = .ok (.invokevirtual 358, 3) := by decide +kernel
theorem dX10_passesAll_109 : decode cX10_passesAll 109 = .ok (.aload_n 0, 1) := by decide +kernel
theorem dX10_passesAll_110 : decode cX10_passesAll 110 = .ok (.aload_n 0, 1) := by decide +kernel
theorem dX10_passesAll_111 : decode cX10_passesAll 111 = .ok (.getfield 59, 3) := by decide +kernel
theorem dX10_passesAll_114 : decode cX10_passesAll 114 = .ok (.invokevirtual 358, 3) := by decide +kernel
theorem dX10_passesAll_117 : decode cX10_passesAll 117 = .ok (.aload_n 0, 1) := by decide +kernel
theorem dX10_passesAll_118 : decode cX10_passesAll 118 = .ok (.aload_n 0, 1) := by decide +kernel
theorem dX10_passesAll_119 : decode cX10_passesAll 119 = .ok (.getfield 62, 3) := by decide +kernel
theorem dX10_passesAll_122 : decode cX10_passesAll 122 = .ok (.invokevirtual 358, 3) := by decide +kernel
theorem dX10_passesAll_125 : decode cX10_passesAll 125 = .ok (.aload_n 0, 1) := by decide +kernel
theorem dX10_passesAll_126 : decode cX10_passesAll 126 = .ok (.aload_n 0, 1) := by decide +kernel
theorem dX10_passesAll_127 : decode cX10_passesAll 127 = .ok (.getfield 65, 3) := by decide +kernel
theorem dX10_passesAll_130 : decode cX10_passesAll 130 = .ok (.invokevirtual 358, 3) := by decide +kernel
theorem dX10_passesAll_133 : decode cX10_passesAll 133 = .ok (.aload_n 0, 1) := by decide +kernel
theorem dX10_passesAll_134 : decode cX10_passesAll 134 = .ok (.aload_n 0, 1) := by decide +kernel
theorem dX10_passesAll_135 : decode cX10_passesAll 135 = .ok (.getfield 68, 3) := by decide +kernel
theorem dX10_passesAll_138 : decode cX10_passesAll 138 = .ok (.invokevirtual 358, 3) := by decide +kernel
theorem dX10_passesAll_141 : decode cX10_passesAll 141 = .ok (.aload_n 0, 1) := by decide +kernel
theorem dX10_passesAll_142 : decode cX10_passesAll 142 = .ok (.aload_n 0, 1) := by decide +kernel
theorem dX10_passesAll_143 : decode cX10_passesAll 143 = .ok (.getfield 77, 3) := by decide +kernel
theorem dX10_passesAll_146 : decode cX10_passesAll 146 = .ok (.invokevirtual 358, 3) := by decide +kernel
theorem dX10_passesAll_149 : decode cX10_passesAll 149 = .ok (.aload_n 0, 1) := by decide +kernel
theorem dX10_passesAll_150 : decode cX10_passesAll 150 = .ok (.aload_n 0, 1) := by decide +kernel
theorem dX10_passesAll_151 : decode cX10_passesAll 151 = .ok (.getfield 80, 3) := by decide +kernel
theorem dX10_passesAll_154 : decode cX10_passesAll 154 = .ok (.invokevirtual 358, 3) := by decide +kernel
theorem dX10_passesAll_157 : decode cX10_passesAll 157 = .ok (.aload_n 0, 1) := by decide +kernel
theorem dX10_passesAll_158 : decode cX10_passesAll 158 = .ok (.aload_n 0, 1) := by decide +kernel
theorem dX10_passesAll_159 : decode cX10_passesAll 159 = .ok (.getfield 83, 3) := by decide +kernel
theorem dX10_passesAll_162 : decode cX10_passesAll 162 = .ok (.invokevirtual 358, 3) := by decide +kernel
theorem dX10_passesAll_165 : decode cX10_passesAll 165 = .ok (.aload_n 0, 1) := by decide +kernel
theorem dX10_passesAll_166 : decode cX10_passesAll 166 = .ok (.aload_n 0, 1) := by decide +kernel
theorem dX10_passesAll_167 : decode cX10_passesAll 167 = .ok (.getfield 86, 3) := by decide +kernel
theorem dX10_passesAll_170 : decode cX10_passesAll 170 = .ok (.invokevirtual 358, 3) := by decide +kernel
theorem dX10_passesAll_173 : decode cX10_passesAll 173 = .ok (.aload_n 0, 1) := by decide +kernel
theorem dX10_passesAll_174 : decode cX10_passesAll 174 = .ok (.aload_n 0, 1) := by decide +kernel
theorem dX10_passesAll_175 : decode cX10_passesAll 175 = .ok (.getfield 105, 3) := by decide +kernel
theorem dX10_passesAll_178 : decode cX10_passesAll 178 = .ok (.invokevirtual 358, 3) := by decide +kernel
theorem dX10_passesAll_181 : decode cX10_passesAll 181 = .ok (.aload_n 0, 1) := by decide +kernel
theorem dX10_passesAll_182 : decode cX10_passesAll 182 = .ok (.aload_n 0, 1) := by decide +kernel
theorem dX10_passesAll_183 : decode cX10_passesAll 183 = .ok (.aload_n 0, 1) := by decide +kernel
theorem dX10_passesAll_184 : decode cX10_passesAll 184 = .ok (.getfield 181, 3) := by decide +kernel
theorem dX10_passesAll_187 : decode cX10_passesAll 187 = .ok (.invokevirtual 362, 3) := by decide +kernel
theorem dX10_passesAll_190 : decode cX10_passesAll 190 = .ok (.putfield 181, 3) := by decide +kernel
theorem dX10_passesAll_193 : decode cX10_passesAll 193 = .ok (.aload_n 0, 1) := by decide +kernel
theorem dX10_passesAll_194 : decode cX10_passesAll 194 = .ok (.aload_n 0, 1) := by decide +kernel
theorem dX10_passesAll_195 : decode cX10_passesAll 195 = .ok (.aload_n 0, 1) := by decide +kernel
theorem dX10_passesAll_196 : decode cX10_passesAll 196 = .ok (.getfield 237, 3) := by decide +kernel
theorem dX10_passesAll_199 : decode cX10_passesAll 199 = .ok (.invokevirtual 362, 3) := by decide +kernel
theorem dX10_passesAll_202 : decode cX10_passesAll 202 = .ok (.putfield 237, 3) := by decide +kernel
theorem dX10_passesAll_205 : decode cX10_passesAll 205 = .ok (.iconst 0, 1) := by decide +kernel
theorem dX10_passesAll_206 : decode cX10_passesAll 206 = .ok (.istore_n 1, 1) := by decide +kernel
theorem dX10_passesAll_207 : decode cX10_passesAll 207 = .ok (.iload_n 1, 1) := by decide +kernel
theorem dX10_passesAll_208 : decode cX10_passesAll 208 = .ok (.iconst 4, 1) := by decide +kernel
theorem dX10_passesAll_209 : decode cX10_passesAll 209 = .ok (.if_icmp .ge 42, 3) := by decide +kernel
theorem dX10_passesAll_212 : decode cX10_passesAll 212 = .ok (.aload_n 0, 1) := by decide +kernel
theorem dX10_passesAll_213 : decode cX10_passesAll 213 = .ok (.getfield 31, 3) := by decide +kernel
theorem dX10_passesAll_216 : decode cX10_passesAll 216 = .ok (.iload_n 1, 1) := by decide +kernel
theorem dX10_passesAll_217 : decode cX10_passesAll 217 = .ok (.aload_n 0, 1) := by decide +kernel
theorem dX10_passesAll_218 : decode cX10_passesAll 218 = .ok (.aload_n 0, 1) := by decide +kernel
theorem dX10_passesAll_219 : decode cX10_passesAll 219 = .ok (.getfield 31, 3) := by decide +kernel
theorem dX10_passesAll_222 : decode cX10_passesAll 222 = .ok (.iload_n 1, 1) := by decide +kernel
theorem dX10_passesAll_223 : decode cX10_passesAll 223 = .ok (.baload, 1) := by decide +kernel
theorem dX10_passesAll_224 : decode cX10_passesAll 224 = .ok (.ifCond .eq 7, 3) := by decide +kernel
theorem dX10_passesAll_227 : decode cX10_passesAll 227 = .ok (.iconst 1, 1) := by decide +kernel
theorem dX10_passesAll_228 : decode cX10_passesAll 228 = .ok (.goto 4, 3) := by decide +kernel
theorem dX10_passesAll_231 : decode cX10_passesAll 231 = .ok (.iconst 0, 1) := by decide +kernel
theorem dX10_passesAll_232 : decode cX10_passesAll 232 = .ok (.invokevirtual 362, 3) := by decide +kernel
theorem dX10_passesAll_235 : decode cX10_passesAll 235 = .ok (.iconst 1, 1) := by decide +kernel
theorem dX10_passesAll_236 : decode cX10_passesAll 236 = .ok (.if_icmp .ne 7, 3) := by decide +kernel
theorem dX10_passesAll_239 : decode cX10_passesAll 239 = .ok (.iconst 1, 1) := by decide +kernel
theorem dX10_passesAll_240 : decode cX10_passesAll 240 = .ok (.goto 4, 3) := by decide +kernel
theorem dX10_passesAll_243 : decode cX10_passesAll 243 = .ok (.iconst 0, 1) := by decide +kernel
theorem dX10_passesAll_244 : decode cX10_passesAll 244 = .ok (.bastore, 1) := by decide +kernel
theorem dX10_passesAll_245 : decode cX10_passesAll 245 = .ok (.iinc 1 1, 3) := by decide +kernel
theorem dX10_passesAll_248 : decode cX10_passesAll 248 = .ok (.goto (-41), 3) := by decide +kernel
theorem dX10_passesAll_251 : decode cX10_passesAll 251 = .ok (.return_, 1) := by decide +kernel
theorem dX10_image_0 : decode cX10_image 0 = .ok (.aload_n 0, 1) := by decide +kernel
theorem dX10_image_1 : decode cX10_image 1 = .ok (.iconst 1, 1) := by decide +kernel
theorem dX10_image_2 : decode cX10_image 2 = .ok (.putfield 351, 3) := by decide +kernel
theorem dX10_image_5 : decode cX10_image 5 = .ok (.aload_n 0, 1) := by decide +kernel
theorem dX10_image_6 : decode cX10_image 6 = .ok (.iconst 1, 1) := by decide +kernel
theorem dX10_image_7 : decode cX10_image 7 = .ok (.putfield 365, 3) := by decide +kernel
theorem dX10_image_10 : decode cX10_image 10 = .ok (.aload_n 0, 1) := by decide +kernel
theorem dX10_image_11 : decode cX10_image 11 = .ok (.invokevirtual 368, 3) := by decide +kernel
theorem dX10_image_14 : decode cX10_image 14 = .ok (.aload_n 0, 1) := by decide +kernel
theorem dX10_image_15 : decode cX10_image 15 = .ok (.getfield 181, 3) := by decide +kernel
theorem dX10_image_18 : decode cX10_image 18 = .ok (.ireturn, 1) := by decide +kernel
theorem dX10_restore_0 : decode cX10_restore 0 = .ok (.aload_n 0, 1) := by decide +kernel
theorem dX10_restore_1 : decode cX10_restore 1 = .ok (.getfield 365, 3) := by decide +kernel
theorem dX10_restore_4 : decode cX10_restore 4 = .ok (.ifCond .ne 10, 3) := by decide +kernel
theorem dX10_restore_7 : decode cX10_restore 7 = .ok (.aload_n 0, 1) := by decide +kernel
theorem dX10_restore_8 : decode cX10_restore 8 = .ok (.bipush (-3), 2) := by decide +kernel
theorem dX10_restore_10 : decode cX10_restore 10 = .ok (.invokevirtual 120, 3) := by decide +kernel
theorem dX10_restore_13 : decode cX10_restore 13 = .ok (.ireturn, 1) := by decide +kernel
theorem dX10_restore_14 : decode cX10_restore 14 = .ok (.aload_n 0, 1) := by decide +kernel
theorem dX10_restore_15 : decode cX10_restore 15 = .ok (.iconst 0, 1) := by decide +kernel
theorem dX10_restore_16 : decode cX10_restore 16 = .ok (.putfield 351, 3) := by decide +kernel
theorem dX10_restore_19 : decode cX10_restore 19 = .ok (.aload_n 0, 1) := by decide +kernel
theorem dX10_restore_20 : decode cX10_restore 20 = .ok (.invokevirtual 368, 3) := by decide +kernel
theorem dX10_restore_23 : decode cX10_restore 23 = .ok (.aload_n 0, 1) := by decide +kernel
theorem dX10_restore_24 : decode cX10_restore 24 = .ok (.getfield 181, 3) := by decide +kernel
theorem dX10_restore_27 : decode cX10_restore 27 = .ok (.ireturn, 1) := by decide +kernel
theorem dX10_count_0 : decode cX10_count 0 = .ok (.iload_n 1, 1) := by decide +kernel
theorem dX10_count_1 : decode cX10_count 1 = .ok (.i2l, 1) := by decide +kernel
theorem dX10_count_2 : decode cX10_count 2 = .ok (.ldc2_w 371, 3) := by decide +kernel
theorem dX10_count_5 : decode cX10_count 5 = .ok (.ldc2_w 373, 3) := by decide +kernel
theorem dX10_count_8 : decode cX10_count 8 = .ok (.invokestatic 116, 3) := by decide +kernel
theorem dX10_count_11 : decode cX10_count 11 = .ok (.ifCond .eq 13, 3) := by decide +kernel
theorem dX10_count_14 : decode cX10_count 14 = .ok (.aload_n 0, 1) := by decide +kernel
theorem dX10_count_15 : decode cX10_count 15 = .ok (.getfield 7, 3) := by decide +kernel
theorem dX10_count_18 : decode cX10_count 18 = .ok (.iload_n 1, 1) := by decide +kernel
theorem dX10_count_19 : decode cX10_count 19 = .ok (.bipush 10, 2) := by decide +kernel
theorem dX10_count_21 : decode cX10_count 21 = .ok (.isub, 1) := by decide +kernel
theorem dX10_count_22 : decode cX10_count 22 = .ok (.iaload, 1) := by decide +kernel
theorem dX10_count_23 : decode cX10_count 23 = .ok (.ireturn, 1) := by decide +kernel
theorem dX10_count_24 : decode cX10_count 24 = .ok (.iconst 0, 1) := by decide +kernel
theorem dX10_count_25 : decode cX10_count 25 = .ok (.istore_n 2, 1) := by decide +kernel
theorem dX10_count_26 : decode cX10_count 26 = .ok (.iload_n 1, 1) := by decide +kernel
theorem dX10_count_27 : decode cX10_count 27 = .ok (.tableswitch 185 0 6 #[41, 73, 78, 114, 119, 124, 129], 41) := by decide +kernel
theorem dX10_count_68 : decode cX10_count 68 = .ok (.iconst 0, 1) := by decide +kernel
theorem dX10_count_69 : decode cX10_count 69 = .ok (.istore_n 3, 1) := by decide +kernel
theorem dX10_count_70 : decode cX10_count 70 = .ok (.iload_n 3, 1) := by decide +kernel
theorem dX10_count_71 : decode cX10_count 71 = .ok (.iconst 4, 1) := by decide +kernel
theorem dX10_count_72 : decode cX10_count 72 = .ok (.if_icmp .ge 26, 3) := by decide +kernel
theorem dX10_count_75 : decode cX10_count 75 = .ok (.iload_n 2, 1) := by decide +kernel
theorem dX10_count_76 : decode cX10_count 76 = .ok (.aload_n 0, 1) := by decide +kernel
theorem dX10_count_77 : decode cX10_count 77 = .ok (.getfield 31, 3) := by decide +kernel
theorem dX10_count_80 : decode cX10_count 80 = .ok (.iload_n 3, 1) := by decide +kernel
theorem dX10_count_81 : decode cX10_count 81 = .ok (.baload, 1) := by decide +kernel
theorem dX10_count_82 : decode cX10_count 82 = .ok (.ifCond .eq 7, 3) := by decide +kernel
theorem dX10_count_85 : decode cX10_count 85 = .ok (.iconst 1, 1) := by decide +kernel
theorem dX10_count_86 : decode cX10_count 86 = .ok (.goto 4, 3) := by decide +kernel
theorem dX10_count_89 : decode cX10_count 89 = .ok (.iconst 0, 1) := by decide +kernel
theorem dX10_count_90 : decode cX10_count 90 = .ok (.iadd, 1) := by decide +kernel
theorem dX10_count_91 : decode cX10_count 91 = .ok (.istore_n 2, 1) := by decide +kernel
theorem dX10_count_92 : decode cX10_count 92 = .ok (.iinc 3 1, 3) := by decide +kernel
theorem dX10_count_95 : decode cX10_count 95 = .ok (.goto (-25), 3) := by decide +kernel
theorem dX10_count_98 : decode cX10_count 98 = .ok (.iload_n 2, 1) := by decide +kernel
theorem dX10_count_99 : decode cX10_count 99 = .ok (.ireturn, 1) := by decide +kernel
theorem dX10_count_100 : decode cX10_count 100 = .ok (.aload_n 0, 1) := by decide +kernel
theorem dX10_count_101 : decode cX10_count 101 = .ok (.getfield 181, 3) := by decide +kernel
theorem dX10_count_104 : decode cX10_count 104 = .ok (.ireturn, 1) := by decide +kernel
theorem dX10_count_105 : decode cX10_count 105 = .ok (.iconst 0, 1) := by decide +kernel
theorem dX10_count_106 : decode cX10_count 106 = .ok (.istore_n 3, 1) := by decide +kernel
theorem dX10_count_107 : decode cX10_count 107 = .ok (.iload_n 3, 1) := by decide +kernel
theorem dX10_count_108 : decode cX10_count 108 = .ok (.aload_n 0, 1) := by decide +kernel
theorem dX10_count_109 : decode cX10_count 109 = .ok (.getfield 181, 3) := by decide +kernel
theorem dX10_count_112 : decode cX10_count 112 = .ok (.if_icmp .ge 27, 3) := by decide +kernel
theorem dX10_count_115 : decode cX10_count 115 = .ok (.iload_n 2, 1) := by decide +kernel
theorem dX10_count_116 : decode cX10_count 116 = .ok (.aload_n 0, 1) := by decide +kernel
theorem dX10_count_117 : decode cX10_count 117 = .ok (.getfield 56, 3) := by decide +kernel
theorem dX10_count_120 : decode cX10_count 120 = .ok (.iload_n 3, 1) := by decide +kernel
theorem dX10_count_121 : decode cX10_count 121 = .ok (.iaload, 1) := by decide +kernel
theorem dX10_count_122 : decode cX10_count 122 = .ok (.iconst 5, 1) := by decide +kernel
theorem dX10_count_123 : decode cX10_count 123 = .ok (.if_icmp .ne 7, 3) := by decide +kernel
theorem dX10_count_126 : decode cX10_count 126 = .ok (.iconst 1, 1) := by decide +kernel
theorem dX10_count_127 : decode cX10_count 127 = .ok (.goto 4, 3) := by decide +kernel
theorem dX10_count_130 : decode cX10_count 130 = .ok (.iconst 0, 1) := by decide +kernel
theorem dX10_count_131 : decode cX10_count 131 = .ok (.iadd, 1) := by decide +kernel
theorem dX10_count_132 : decode cX10_count 132 = .ok (.istore_n 2, 1) := by decide +kernel
theorem dX10_count_133 : decode cX10_count 133 = .ok (.iinc 3 1, 3) := by decide +kernel
theorem dX10_count_136 : decode cX10_count 136 = .ok (.goto (-29), 3) := by decide +kernel
theorem dX10_count_139 : decode cX10_count 139 = .ok (.iload_n 2, 1) := by decide +kernel
theorem dX10_count_140 : decode cX10_count 140 = .ok (.ireturn, 1) := by decide +kernel
theorem dX10_count_141 : decode cX10_count 141 = .ok (.aload_n 0, 1) := by decide +kernel
theorem dX10_count_142 : decode cX10_count 142 = .ok (.getfield 237, 3) := by decide +kernel
theorem dX10_count_145 : decode cX10_count 145 = .ok (.ireturn, 1) := by decide +kernel
theorem dX10_count_146 : decode cX10_count 146 = .ok (.aload_n 0, 1) := by decide +kernel
theorem dX10_count_147 : decode cX10_count 147 = .ok (.getfield 203, 3) := by decide +kernel
theorem dX10_count_150 : decode cX10_count 150 = .ok (.ireturn, 1) := by decide +kernel
theorem dX10_count_151 : decode cX10_count 151 = .ok (.aload_n 0, 1) := by decide +kernel
theorem dX10_count_152 : decode cX10_count 152 = .ok (.getfield 218, 3) := by decide +kernel
theorem dX10_count_155 : decode cX10_count 155 = .ok (.ireturn, 1) := by decide +kernel
theorem dX10_count_156 : decode cX10_count 156 = .ok (.iconst 0, 1) := by decide +kernel
theorem dX10_count_157 : decode cX10_count 157 = .ok (.istore_n 3, 1) := by decide +kernel
theorem dX10_count_158 : decode cX10_count 158 = .ok (.iload_n 3, 1) := by decide +kernel
theorem dX10_count_159 : decode cX10_count 159 = .ok (.iconst 4, 1) := by decide +kernel
theorem dX10_count_160 : decode cX10_count 160 = .ok (.if_icmp .ge 50, 3) := by decide +kernel
theorem dX10_count_163 : decode cX10_count 163 = .ok (.iconst 0, 1) := by decide +kernel
theorem dX10_count_164 : decode cX10_count 164 = .ok (.istore 4, 2) := by decide +kernel
theorem dX10_count_166 : decode cX10_count 166 = .ok (.iload 4, 2) := by decide +kernel
theorem dX10_count_168 : decode cX10_count 168 = .ok (.aload_n 0, 1) := by decide +kernel
theorem dX10_count_169 : decode cX10_count 169 = .ok (.getfield 181, 3) := by decide +kernel
theorem dX10_count_172 : decode cX10_count 172 = .ok (.if_icmp .ge 32, 3) := by decide +kernel
theorem dX10_count_175 : decode cX10_count 175 = .ok (.iload_n 2, 1) := by decide +kernel
theorem dX10_count_176 : decode cX10_count 176 = .ok (.aload_n 0, 1) := by decide +kernel
theorem dX10_count_177 : decode cX10_count 177 = .ok (.getfield 105, 3) := by decide +kernel
theorem dX10_count_180 : decode cX10_count 180 = .ok (.bipush 40, 2) := by decide +kernel
theorem dX10_count_182 : decode cX10_count 182 = .ok (.iload_n 3, 1) := by decide +kernel
theorem dX10_count_183 : decode cX10_count 183 = .ok (.imul, 1) := by decide +kernel
theorem dX10_count_184 : decode cX10_count 184 = .ok (.iload 4, 2) := by decide +kernel
theorem dX10_count_186 : decode cX10_count 186 = .ok (.iadd, 1) := by decide +kernel
theorem dX10_count_187 : decode cX10_count 187 = .ok (.iaload, 1) := by decide +kernel
theorem dX10_count_188 : decode cX10_count 188 = .ok (.ifCond .le 7, 3) := by decide +kernel
theorem dX10_count_191 : decode cX10_count 191 = .ok (.iconst 1, 1) := by decide +kernel
theorem dX10_count_192 : decode cX10_count 192 = .ok (.goto 4, 3) := by decide +kernel
theorem dX10_count_195 : decode cX10_count 195 = .ok (.iconst 0, 1) := by decide +kernel
theorem dX10_count_196 : decode cX10_count 196 = .ok (.iadd, 1) := by decide +kernel
theorem dX10_count_197 : decode cX10_count 197 = .ok (.istore_n 2, 1) := by decide +kernel
theorem dX10_count_198 : decode cX10_count 198 = .ok (.iinc 4 1, 3) := by decide +kernel
theorem dX10_count_201 : decode cX10_count 201 = .ok (.goto (-35), 3) := by decide +kernel
theorem dX10_count_204 : decode cX10_count 204 = .ok (.iinc 3 1, 3) := by decide +kernel
theorem dX10_count_207 : decode cX10_count 207 = .ok (.goto (-49), 3) := by decide +kernel
theorem dX10_count_210 : decode cX10_count 210 = .ok (.iload_n 2, 1) := by decide +kernel
theorem dX10_count_211 : decode cX10_count 211 = .ok (.ireturn, 1) := by decide +kernel
theorem dX10_count_212 : decode cX10_count 212 = .ok (.bipush (-9), 2) := by decide +kernel
theorem dX10_count_214 : decode cX10_count 214 = .ok (.ireturn, 1) := by decide +kernel
theorem dJ6_bitCount_0f7a4_0 : decode cJ6_bitCount_0f7a4 0 = .ok (.iload_n 0, 1) := by decide +kernel
theorem dJ6_bitCount_0f7a4_1 : decode cJ6_bitCount_0f7a4 1 = .ok (.iload_n 0, 1) := by decide +kernel
theorem dJ6_bitCount_0f7a4_2 : decode cJ6_bitCount_0f7a4 2 = .ok (.iconst 1, 1) := by decide +kernel
theorem dJ6_bitCount_0f7a4_3 : decode cJ6_bitCount_0f7a4 3 = .ok (.iushr, 1) := by decide +kernel
theorem dJ6_bitCount_0f7a4_4 : decode cJ6_bitCount_0f7a4 4 = .ok (.ldc_w 265, 3) := by decide +kernel
theorem dJ6_bitCount_0f7a4_7 : decode cJ6_bitCount_0f7a4 7 = .ok (.iand, 1) := by decide +kernel
theorem dJ6_bitCount_0f7a4_8 : decode cJ6_bitCount_0f7a4 8 = .ok (.isub, 1) := by decide +kernel
theorem dJ6_bitCount_0f7a4_9 : decode cJ6_bitCount_0f7a4 9 = .ok (.istore_n 0, 1) := by decide +kernel
theorem dJ6_bitCount_0f7a4_10 : decode cJ6_bitCount_0f7a4 10 = .ok (.iload_n 0, 1) := by decide +kernel
theorem dJ6_bitCount_0f7a4_11 : decode cJ6_bitCount_0f7a4 11 = .ok (.ldc_w 266, 3) := by decide +kernel
theorem dJ6_bitCount_0f7a4_14 : decode cJ6_bitCount_0f7a4 14 = .ok (.iand, 1) := by decide +kernel
theorem dJ6_bitCount_0f7a4_15 : decode cJ6_bitCount_0f7a4 15 = .ok (.iload_n 0, 1) := by decide +kernel
theorem dJ6_bitCount_0f7a4_16 : decode cJ6_bitCount_0f7a4 16 = .ok (.iconst 2, 1) := by decide +kernel
theorem dJ6_bitCount_0f7a4_17 : decode cJ6_bitCount_0f7a4 17 = .ok (.iushr, 1) := by decide +kernel
theorem dJ6_bitCount_0f7a4_18 : decode cJ6_bitCount_0f7a4 18 = .ok (.ldc_w 266, 3) := by decide +kernel
theorem dJ6_bitCount_0f7a4_21 : decode cJ6_bitCount_0f7a4 21 = .ok (.iand, 1) := by decide +kernel
theorem dJ6_bitCount_0f7a4_22 : decode cJ6_bitCount_0f7a4 22 = .ok (.iadd, 1) := by decide +kernel
theorem dJ6_bitCount_0f7a4_23 : decode cJ6_bitCount_0f7a4 23 = .ok (.istore_n 0, 1) := by decide +kernel
theorem dJ6_bitCount_0f7a4_24 : decode cJ6_bitCount_0f7a4 24 = .ok (.iload_n 0, 1) := by decide +kernel
theorem dJ6_bitCount_0f7a4_25 : decode cJ6_bitCount_0f7a4 25 = .ok (.iload_n 0, 1) := by decide +kernel
theorem dJ6_bitCount_0f7a4_26 : decode cJ6_bitCount_0f7a4 26 = .ok (.iconst 4, 1) := by decide +kernel
theorem dJ6_bitCount_0f7a4_27 : decode cJ6_bitCount_0f7a4 27 = .ok (.iushr, 1) := by decide +kernel
theorem dJ6_bitCount_0f7a4_28 : decode cJ6_bitCount_0f7a4 28 = .ok (.iadd, 1) := by decide +kernel
theorem dJ6_bitCount_0f7a4_29 : decode cJ6_bitCount_0f7a4 29 = .ok (.ldc_w 267, 3) := by decide +kernel
theorem dJ6_bitCount_0f7a4_32 : decode cJ6_bitCount_0f7a4 32 = .ok (.iand, 1) := by decide +kernel
theorem dJ6_bitCount_0f7a4_33 : decode cJ6_bitCount_0f7a4 33 = .ok (.istore_n 0, 1) := by decide +kernel
theorem dJ6_bitCount_0f7a4_34 : decode cJ6_bitCount_0f7a4 34 = .ok (.iload_n 0, 1) := by decide +kernel
theorem dJ6_bitCount_0f7a4_35 : decode cJ6_bitCount_0f7a4 35 = .ok (.iload_n 0, 1) := by decide +kernel
theorem dJ6_bitCount_0f7a4_36 : decode cJ6_bitCount_0f7a4 36 = .ok (.bipush 8, 2) := by decide +kernel
theorem dJ6_bitCount_0f7a4_38 : decode cJ6_bitCount_0f7a4 38 = .ok (.iushr, 1) := by decide +kernel
theorem dJ6_bitCount_0f7a4_39 : decode cJ6_bitCount_0f7a4 39 = .ok (.iadd, 1) := by decide +kernel
theorem dJ6_bitCount_0f7a4_40 : decode cJ6_bitCount_0f7a4 40 = .ok (.istore_n 0, 1) := by decide +kernel
theorem dJ6_bitCount_0f7a4_41 : decode cJ6_bitCount_0f7a4 41 = .ok (.iload_n 0, 1) := by decide +kernel
theorem dJ6_bitCount_0f7a4_42 : decode cJ6_bitCount_0f7a4 42 = .ok (.iload_n 0, 1) := by decide +kernel
theorem dJ6_bitCount_0f7a4_43 : decode cJ6_bitCount_0f7a4 43 = .ok (.bipush 16, 2) := by decide +kernel
theorem dJ6_bitCount_0f7a4_45 : decode cJ6_bitCount_0f7a4 45 = .ok (.iushr, 1) := by decide +kernel
theorem dJ6_bitCount_0f7a4_46 : decode cJ6_bitCount_0f7a4 46 = .ok (.iadd, 1) := by decide +kernel
theorem dJ6_bitCount_0f7a4_47 : decode cJ6_bitCount_0f7a4 47 = .ok (.istore_n 0, 1) := by decide +kernel
theorem dJ6_bitCount_0f7a4_48 : decode cJ6_bitCount_0f7a4 48 = .ok (.iload_n 0, 1) := by decide +kernel
theorem dJ6_bitCount_0f7a4_49 : decode cJ6_bitCount_0f7a4 49 = .ok (.bipush 63, 2) := by decide +kernel
theorem dJ6_bitCount_0f7a4_51 : decode cJ6_bitCount_0f7a4 51 = .ok (.iand, 1) := by decide +kernel
theorem dJ6_bitCount_0f7a4_52 : decode cJ6_bitCount_0f7a4 52 = .ok (.ireturn, 1) := by decide +kernel
theorem dJ9_abs_067f4_0 : decode cJ9_abs_067f4 0 = .ok (.lload_n 0, 1) := by decide +kernel
theorem dJ9_abs_067f4_1 : decode cJ9_abs_067f4 1 = .ok (.lconst 0, 1) := by decide +kernel
theorem dJ9_abs_067f4_2 : decode cJ9_abs_067f4 2 = .ok (.lcmp, 1) := by decide +kernel
theorem dJ9_abs_067f4_3 : decode cJ9_abs_067f4 3 = .ok (.ifCond .ge 8, 3) := by decide +kernel
theorem dJ9_abs_067f4_6 : decode cJ9_abs_067f4 6 = .ok (.lload_n 0, 1) := by decide +kernel
theorem dJ9_abs_067f4_7 : decode cJ9_abs_067f4 7 = .ok (.lneg, 1) := by decide +kernel
theorem dJ9_abs_067f4_8 : decode cJ9_abs_067f4 8 = .ok (.goto 4, 3) := by decide +kernel
theorem dJ9_abs_067f4_11 : decode cJ9_abs_067f4 11 = .ok (.lload_n 0, 1) := by decide +kernel
theorem dJ9_abs_067f4_12 : decode cJ9_abs_067f4 12 = .ok (.lreturn, 1) := by decide +kernel
theorem dJ9_max_7cf53_0 : decode cJ9_max_7cf53 0 = .ok (.iload_n 0, 1) := by decide +kernel
theorem dJ9_max_7cf53_1 : decode cJ9_max_7cf53 1 = .ok (.iload_n 1, 1) := by decide +kernel
theorem dJ9_max_7cf53_2 : decode cJ9_max_7cf53 2 = .ok (.if_icmp .lt 7, 3) := by decide +kernel
theorem dJ9_max_7cf53_5 : decode cJ9_max_7cf53 5 = .ok (.iload_n 0, 1) := by decide +kernel
theorem dJ9_max_7cf53_6 : decode cJ9_max_7cf53 6 = .ok (.goto 4, 3) := by decide +kernel
theorem dJ9_max_7cf53_9 : decode cJ9_max_7cf53 9 = .ok (.iload_n 1, 1) := by decide +kernel
theorem dJ9_max_7cf53_10 : decode cJ9_max_7cf53 10 = .ok (.ireturn, 1) := by decide +kernel
theorem dJ9_max_f86c9_0 : decode cJ9_max_f86c9 0 = .ok (.lload_n 0, 1) := by decide +kernel
theorem dJ9_max_f86c9_1 : decode cJ9_max_f86c9 1 = .ok (.lload_n 2, 1) := by decide +kernel
theorem dJ9_max_f86c9_2 : decode cJ9_max_f86c9 2 = .ok (.lcmp, 1) := by decide +kernel
theorem dJ9_max_f86c9_3 : decode cJ9_max_f86c9 3 = .ok (.ifCond .lt 7, 3) := by decide +kernel
theorem dJ9_max_f86c9_6 : decode cJ9_max_f86c9 6 = .ok (.lload_n 0, 1) := by decide +kernel
theorem dJ9_max_f86c9_7 : decode cJ9_max_f86c9 7 = .ok (.goto 4, 3) := by decide +kernel
theorem dJ9_max_f86c9_10 : decode cJ9_max_f86c9 10 = .ok (.lload_n 2, 1) := by decide +kernel
theorem dJ9_max_f86c9_11 : decode cJ9_max_f86c9 11 = .ok (.lreturn, 1) := by decide +kernel
theorem dJ9_min_7cf53_0 : decode cJ9_min_7cf53 0 = .ok (.iload_n 0, 1) := by decide +kernel
theorem dJ9_min_7cf53_1 : decode cJ9_min_7cf53 1 = .ok (.iload_n 1, 1) := by decide +kernel
theorem dJ9_min_7cf53_2 : decode cJ9_min_7cf53 2 = .ok (.if_icmp .gt 7, 3) := by decide +kernel
theorem dJ9_min_7cf53_5 : decode cJ9_min_7cf53 5 = .ok (.iload_n 0, 1) := by decide +kernel
theorem dJ9_min_7cf53_6 : decode cJ9_min_7cf53 6 = .ok (.goto 4, 3) := by decide +kernel
theorem dJ9_min_7cf53_9 : decode cJ9_min_7cf53 9 = .ok (.iload_n 1, 1) := by decide +kernel
theorem dJ9_min_7cf53_10 : decode cJ9_min_7cf53 10 = .ok (.ireturn, 1) := by decide +kernel
theorem dJ9_min_f86c9_0 : decode cJ9_min_f86c9 0 = .ok (.lload_n 0, 1) := by decide +kernel
theorem dJ9_min_f86c9_1 : decode cJ9_min_f86c9 1 = .ok (.lload_n 2, 1) := by decide +kernel
theorem dJ9_min_f86c9_2 : decode cJ9_min_f86c9 2 = .ok (.lcmp, 1) := by decide +kernel
theorem dJ9_min_f86c9_3 : decode cJ9_min_f86c9 3 = .ok (.ifCond .gt 7, 3) := by decide +kernel
theorem dJ9_min_f86c9_6 : decode cJ9_min_f86c9 6 = .ok (.lload_n 0, 1) := by decide +kernel
theorem dJ9_min_f86c9_7 : decode cJ9_min_f86c9 7 = .ok (.goto 4, 3) := by decide +kernel
theorem dJ9_min_f86c9_10 : decode cJ9_min_f86c9 10 = .ok (.lload_n 2, 1) := by decide +kernel
theorem dJ9_min_f86c9_11 : decode cJ9_min_f86c9 11 = .ok (.lreturn, 1) := by decide +kernel
theorem dL_law_0 : decode cL_law 0 = .ok (.new 7, 3) := by decide +kernel
theorem dL_law_3 : decode cL_law 3 = .ok (.dup, 1) := by decide +kernel
theorem dL_law_4 : decode cL_law 4 = .ok (.invokespecial 9, 3) := by decide +kernel
theorem dL_law_7 : decode cL_law 7 = .ok (.astore_n 1, 1) := by decide +kernel
theorem dL_law_8 : decode cL_law 8 = .ok (.new 10, 3) := by decide +kernel
theorem dL_law_11 : decode cL_law 11 = .ok (.dup, 1) := by decide +kernel
theorem dL_law_12 : decode cL_law 12 = .ok (.invokespecial 12, 3) := by decide +kernel
theorem dL_law_15 : decode cL_law 15 = .ok (.astore_n 2, 1) := by decide +kernel
theorem dL_law_16 : decode cL_law 16 = .ok (.iconst 0, 1) := by decide +kernel
theorem dL_law_17 : decode cL_law 17 = .ok (.istore_n 3, 1) := by decide +kernel
theorem dL_law_18 : decode cL_law 18 = .ok (.iload_n 3, 1) := by decide +kernel
theorem dL_law_19 : decode cL_law 19 = .ok (.aload_n 0, 1) := by decide +kernel
theorem dL_law_20 : decode cL_law 20 = .ok (.arraylength, 1) := by decide +kernel
theorem dL_law_21 : decode cL_law 21 = .ok (.bipush 7, 2) := by decide +kernel
theorem dL_law_23 : decode cL_law 23 = .ok (.isub, 1) := by decide +kernel
theorem dL_law_24 : decode cL_law 24 = .ok (.if_icmp .gt 1656, 3) := by decide +kernel
theorem dL_law_27 : decode cL_law 27 = .ok (.aload_n 0, 1) := by decide +kernel
theorem dL_law_28 : decode cL_law 28 = .ok (.iload_n 3, 1) := by decide +kernel
theorem dL_law_29 : decode cL_law 29 = .ok (.iaload, 1) := by decide +kernel
theorem dL_law_30 : decode cL_law 30 = .ok (.bipush 63, 2) := by decide +kernel
theorem dL_law_32 : decode cL_law 32 = .ok (.iand, 1) := by decide +kernel
theorem dL_law_33 : decode cL_law 33 = .ok (.tableswitch 1641 0 32 #[147, 210, 253, 286, 346, 369, 412, 465, 489, 512, 525, 538, 601, 614, 657, 711, 795, 869, 943, 1027, 1090, 1113, 1225, 1288, 1331, 1375, 1418, 1452, 1495, 1539, 1592, 1605, 1618], 147) := by decide +kernel
theorem dL_law_180 : decode cL_law 180 = .ok (.aload_n 1, 1) := by decide +kernel
theorem dL_law_181 : decode cL_law 181 = .ok (.aload_n 0, 1) := by decide +kernel
theorem dL_law_182 : decode cL_law 182 = .ok (.iload_n 3, 1) := by decide +kernel
theorem dL_law_183 : decode cL_law 183 = .ok (.iconst 1, 1) := by decide +kernel
theorem dL_law_184 : decode cL_law 184 = .ok (.iadd, 1) := by decide +kernel
theorem dL_law_185 : decode cL_law 185 = .ok (.iaload, 1) := by decide +kernel
theorem dL_law_186 : decode cL_law 186 = .ok (.aload_n 0, 1) := by decide +kernel
theorem dL_law_187 : decode cL_law 187 = .ok (.iload_n 3, 1) := by decide +kernel
theorem dL_law_188 : decode cL_law 188 = .ok (.iconst 2, 1) := by decide +kernel
theorem dL_law_189 : decode cL_law 189 = .ok (.iadd, 1) := by decide +kernel
theorem dL_law_190 : decode cL_law 190 = .ok (.iaload, 1) := by decide +kernel
theorem dL_law_191 : decode cL_law 191 = .ok (.aload_n 0, 1) := by decide +kernel
theorem dL_law_192 : decode cL_law 192 = .ok (.iload_n 3, 1) := by decide +kernel
theorem dL_law_193 : decode cL_law 193 = .ok (.iconst 3, 1) := by decide +kernel
theorem dL_law_194 : decode cL_law 194 = .ok (.iadd, 1) := by decide +kernel
theorem dL_law_195 : decode cL_law 195 = .ok (.iaload, 1) := by decide +kernel
theorem dL_law_196 : decode cL_law 196 = .ok (.aload_n 0, 1) := by decide +kernel
theorem dL_law_197 : decode cL_law 197 = .ok (.iload_n 3, 1) := by decide +kernel
theorem dL_law_198 : decode cL_law 198 = .ok (.iconst 4, 1) := by decide +kernel
theorem dL_law_199 : decode cL_law 199 = .ok (.iadd, 1) := by decide +kernel
theorem dL_law_200 : decode cL_law 200 = .ok (.iaload, 1) := by decide +kernel
theorem dL_law_201 : decode cL_law 201 = .ok (.aload_n 0, 1) := by decide +kernel
theorem dL_law_202 : decode cL_law 202 = .ok (.iload_n 3, 1) := by decide +kernel
theorem dL_law_203 : decode cL_law 203 = .ok (.iconst 5, 1) := by decide +kernel
theorem dL_law_204 : decode cL_law 204 = .ok (.iadd, 1) := by decide +kernel
theorem dL_law_205 : decode cL_law 205 = .ok (.iaload, 1) := by decide +kernel
theorem dL_law_206 : decode cL_law 206 = .ok (.invokevirtual 13, 3) := by decide +kernel
theorem dL_law_209 : decode cL_law 209 = .ok (.aload_n 2, 1) := by decide +kernel
theorem dL_law_210 : decode cL_law 210 = .ok (.aload_n 0, 1) := by decide +kernel
theorem dL_law_211 : decode cL_law 211 = .ok (.iload_n 3, 1) := by decide +kernel
theorem dL_law_212 : decode cL_law 212 = .ok (.iconst 1, 1) := by decide +kernel
theorem dL_law_213 : decode cL_law 213 = .ok (.iadd, 1) := by decide +kernel
theorem dL_law_214 : decode cL_law 214 = .ok (.iaload, 1) := by decide +kernel
theorem dL_law_215 : decode cL_law 215 = .ok (.aload_n 0, 1) := by decide +kernel
theorem dL_law_216 : decode cL_law 216 = .ok (.iload_n 3, 1) := by decide +kernel
theorem dL_law_217 : decode cL_law 217 = .ok (.iconst 2, 1) := by decide +kernel
theorem dL_law_218 : decode cL_law 218 = .ok (.iadd, 1) := by decide +kernel
theorem dL_law_219 : decode cL_law 219 = .ok (.iaload, 1) := by decide +kernel
theorem dL_law_220 : decode cL_law 220 = .ok (.aload_n 0, 1) := by decide +kernel
theorem dL_law_221 : decode cL_law 221 = .ok (.iload_n 3, 1) := by decide +kernel
theorem dL_law_222 : decode cL_law 222 = .ok (.iconst 3, 1) := by decide +kernel
theorem dL_law_223 : decode cL_law 223 = .ok (.iadd, 1) := by decide +kernel
theorem dL_law_224 : decode cL_law 224 = .ok (.iaload, 1) := by decide +kernel
theorem dL_law_225 : decode cL_law 225 = .ok (.aload_n 0, 1) := by decide +kernel
theorem dL_law_226 : decode cL_law 226 = .ok (.iload_n 3, 1) := by decide +kernel
theorem dL_law_227 : decode cL_law 227 = .ok (.iconst 4, 1) := by decide +kernel
theorem dL_law_228 : decode cL_law 228 = .ok (.iadd, 1) := by decide +kernel
theorem dL_law_229 : decode cL_law 229 = .ok (.iaload, 1) := by decide +kernel
theorem dL_law_230 : decode cL_law 230 = .ok (.aload_n 0, 1) := by decide +kernel
theorem dL_law_231 : decode cL_law 231 = .ok (.iload_n 3, 1) := by decide +kernel
theorem dL_law_232 : decode cL_law 232 = .ok (.iconst 5, 1) := by decide +kernel
theorem dL_law_233 : decode cL_law 233 = .ok (.iadd, 1) := by decide +kernel
theorem dL_law_234 : decode cL_law 234 = .ok (.iaload, 1) := by decide +kernel
theorem dL_law_235 : decode cL_law 235 = .ok (.invokevirtual 17, 3) := by decide +kernel
theorem dL_law_238 : decode cL_law 238 = .ok (.if_icmp .eq 1436, 3) := by decide +kernel
theorem dL_law_241 : decode cL_law 241 = .ok (.iconst 0, 1) := by decide +kernel
theorem dL_law_242 : decode cL_law 242 = .ok (.ireturn, 1) := by decide +kernel
theorem dL_law_243 : decode cL_law 243 = .ok (.aload_n 1, 1) := by decide +kernel
theorem dL_law_244 : decode cL_law 244 = .ok (.aload_n 0, 1) := by decide +kernel
theorem dL_law_245 : decode cL_law 245 = .ok (.iload_n 3, 1) := by decide +kernel
theorem dL_law_246 : decode cL_law 246 = .ok (.iconst 1, 1) := by decide +kernel
theorem dL_law_247 : decode cL_law 247 = .ok (.iadd, 1) := by decide +kernel
theorem dL_law_248 : decode cL_law 248 = .ok (.iaload, 1) := by decide +kernel
theorem dL_law_249 : decode cL_law 249 = .ok (.aload_n 0, 1) := by decide +kernel
theorem dL_law_250 : decode cL_law 250 = .ok (.iload_n 3, 1) := by decide +kernel
theorem dL_law_251 : decode cL_law 251 = .ok (.iconst 2, 1) := by decide +kernel
theorem dL_law_252 : decode cL_law 252 = .ok (.iadd, 1) := by decide +kernel
theorem dL_law_253 : decode cL_law 253 = .ok (.iaload, 1) := by decide +kernel
theorem dL_law_254 : decode cL_law 254 = .ok (.aload_n 0, 1) := by decide +kernel
theorem dL_law_255 : decode cL_law 255 = .ok (.iload_n 3, 1) := by decide +kernel
theorem dL_law_256 : decode cL_law 256 = .ok (.iconst 3, 1) := by decide +kernel
theorem dL_law_257 : decode cL_law 257 = .ok (.iadd, 1) := by decide +kernel
theorem dL_law_258 : decode cL_law 258 = .ok (.iaload, 1) := by decide +kernel
theorem dL_law_259 : decode cL_law 259 = .ok (.invokevirtual 18, 3) := by decide +kernel
theorem dL_law_262 : decode cL_law 262 = .ok (.aload_n 2, 1) := by decide +kernel
theorem dL_law_263 : decode cL_law 263 = .ok (.aload_n 0, 1) := by decide +kernel
theorem dL_law_264 : decode cL_law 264 = .ok (.iload_n 3, 1) := by decide +kernel
theorem dL_law_265 : decode cL_law 265 = .ok (.iconst 1, 1) := by decide +kernel
theorem dL_law_266 : decode cL_law 266 = .ok (.iadd, 1) := by decide +kernel
theorem dL_law_267 : decode cL_law 267 = .ok (.iaload, 1) := by decide +kernel
theorem dL_law_268 : decode cL_law 268 = .ok (.aload_n 0, 1) := by decide +kernel
theorem dL_law_269 : decode cL_law 269 = .ok (.iload_n 3, 1) := by decide +kernel
theorem dL_law_270 : decode cL_law 270 = .ok (.iconst 2, 1) := by decide +kernel
theorem dL_law_271 : decode cL_law 271 = .ok (.iadd, 1) := by decide +kernel
theorem dL_law_272 : decode cL_law 272 = .ok (.iaload, 1) := by decide +kernel
theorem dL_law_273 : decode cL_law 273 = .ok (.aload_n 0, 1) := by decide +kernel
theorem dL_law_274 : decode cL_law 274 = .ok (.iload_n 3, 1) := by decide +kernel
theorem dL_law_275 : decode cL_law 275 = .ok (.iconst 3, 1) := by decide +kernel
theorem dL_law_276 : decode cL_law 276 = .ok (.iadd, 1) := by decide +kernel
theorem dL_law_277 : decode cL_law 277 = .ok (.iaload, 1) := by decide +kernel
theorem dL_law_278 : decode cL_law 278 = .ok (.invokevirtual 22, 3) := by decide +kernel
theorem dL_law_281 : decode cL_law 281 = .ok (.if_icmp .eq 1393, 3) := by decide +kernel
theorem dL_law_284 : decode cL_law 284 = .ok (.iconst 0, 1) := by decide +kernel
theorem dL_law_285 : decode cL_law 285 = .ok (.ireturn, 1) := by decide +kernel
theorem dL_law_286 : decode cL_law 286 = .ok (.aload_n 1, 1) := by decide +kernel
theorem dL_law_287 : decode cL_law 287 = .ok (.aload_n 0, 1) := by decide +kernel
theorem dL_law_288 : decode cL_law 288 = .ok (.iload_n 3, 1) := by decide +kernel
theorem dL_law_289 : decode cL_law 289 = .ok (.iconst 1, 1) := by decide +kernel
theorem dL_law_290 : decode cL_law 290 = .ok (.iadd, 1) := by decide +kernel
theorem dL_law_291 : decode cL_law 291 = .ok (.iaload, 1) := by decide +kernel
theorem dL_law_292 : decode cL_law 292 = .ok (.aload_n 0, 1) := by decide +kernel
theorem dL_law_293 : decode cL_law 293 = .ok (.iload_n 3, 1) := by decide +kernel
theorem dL_law_294 : decode cL_law 294 = .ok (.iconst 2, 1) := by decide +kernel
theorem dL_law_295 : decode cL_law 295 = .ok (.iadd, 1) := by decide +kernel
theorem dL_law_296 : decode cL_law 296 = .ok (.iaload, 1) := by decide +kernel
theorem dL_law_297 : decode cL_law 297 = .ok (.invokevirtual 23, 3) := by decide +kernel
theorem dL_law_300 : decode cL_law 300 = .ok (.aload_n 2, 1) := by decide +kernel
theorem dL_law_301 : decode cL_law 301 = .ok (.aload_n 0, 1) := by decide +kernel
theorem dL_law_302 : decode cL_law 302 = .ok (.iload_n 3, 1) := by decide +kernel
theorem dL_law_303 : decode cL_law 303 = .ok (.iconst 1, 1) := by decide +kernel
theorem dL_law_304 : decode cL_law 304 = .ok (.iadd, 1) := by decide +kernel
theorem dL_law_305 : decode cL_law 305 = .ok (.iaload, 1) := by decide +kernel
theorem dL_law_306 : decode cL_law 306 = .ok (.aload_n 0, 1) := by decide +kernel
theorem dL_law_307 : decode cL_law 307 = .ok (.iload_n 3, 1) := by decide +kernel
theorem dL_law_308 : decode cL_law 308 = .ok (.iconst 2, 1) := by decide +kernel
theorem dL_law_309 : decode cL_law 309 = .ok (.iadd, 1) := by decide +kernel
theorem dL_law_310 : decode cL_law 310 = .ok (.iaload, 1) := by decide +kernel
theorem dL_law_311 : decode cL_law 311 = .ok (.invokevirtual 27, 3) := by decide +kernel
theorem dL_law_314 : decode cL_law 314 = .ok (.if_icmp .eq 1360, 3) := by decide +kernel
theorem dL_law_317 : decode cL_law 317 = .ok (.iconst 0, 1) := by decide +kernel
theorem dL_law_318 : decode cL_law 318 = .ok (.ireturn, 1) := by decide +kernel
theorem dL_law_319 : decode cL_law 319 = .ok (.aload_n 1, 1) := by decide +kernel
theorem dL_law_320 : decode cL_law 320 = .ok (.aload_n 0, 1) := by decide +kernel
theorem dL_law_321 : decode cL_law 321 = .ok (.iload_n 3, 1) := by decide +kernel
theorem dL_law_322 : decode cL_law 322 = .ok (.iconst 1, 1) := by decide +kernel
theorem dL_law_323 : decode cL_law 323 = .ok (.iadd, 1) := by decide +kernel
theorem dL_law_324 : decode cL_law 324 = .ok (.iaload, 1) := by decide +kernel
theorem dL_law_325 : decode cL_law 325 = .ok (.aload_n 0, 1) := by decide +kernel
theorem dL_law_326 : decode cL_law 326 = .ok (.iload_n 3, 1) := by decide +kernel
theorem dL_law_327 : decode cL_law 327 = .ok (.iconst 2, 1) := by decide +kernel
theorem dL_law_328 : decode cL_law 328 = .ok (.iadd, 1) := by decide +kernel
theorem dL_law_329 : decode cL_law 329 = .ok (.iaload, 1) := by decide +kernel
theorem dL_law_330 : decode cL_law 330 = .ok (.aload_n 0, 1) := by decide +kernel
theorem dL_law_331 : decode cL_law 331 = .ok (.iload_n 3, 1) := by decide +kernel
theorem dL_law_332 : decode cL_law 332 = .ok (.iconst 3, 1) := by decide +kernel
theorem dL_law_333 : decode cL_law 333 = .ok (.iadd, 1) := by decide +kernel
theorem dL_law_334 : decode cL_law 334 = .ok (.iaload, 1) := by decide +kernel
theorem dL_law_335 : decode cL_law 335 = .ok (.ifCond .eq 7, 3) := by decide +kernel
theorem dL_law_338 : decode cL_law 338 = .ok (.iconst 1, 1) := by decide +kernel
theorem dL_law_339 : decode cL_law 339 = .ok (.goto 4, 3) := by decide +kernel
theorem dL_law_342 : decode cL_law 342 = .ok (.iconst 0, 1) := by decide +kernel
theorem dL_law_343 : decode cL_law 343 = .ok (.invokevirtual 28, 3) := by decide +kernel
theorem dL_law_346 : decode cL_law 346 = .ok (.aload_n 2, 1) := by decide +kernel
theorem dL_law_347 : decode cL_law 347 = .ok (.aload_n 0, 1) := by decide +kernel
theorem dL_law_348 : decode cL_law 348 = .ok (.iload_n 3, 1) := by decide +kernel
theorem dL_law_349 : decode cL_law 349 = .ok (.iconst 1, 1) := by decide +kernel
theorem dL_law_350 : decode cL_law 350 = .ok (.iadd, 1) := by decide +kernel
theorem dL_law_351 : decode cL_law 351 = .ok (.iaload, 1) := by decide +kernel
theorem dL_law_352 : decode cL_law 352 = .ok (.aload_n 0, 1) := by decide +kernel
theorem dL_law_353 : decode cL_law 353 = .ok (.iload_n 3, 1) := by decide +kernel
theorem dL_law_354 : decode cL_law 354 = .ok (.iconst 2, 1) := by decide +kernel
theorem dL_law_355 : decode cL_law 355 = .ok (.iadd, 1) := by decide +kernel
theorem dL_law_356 : decode cL_law 356 = .ok (.iaload, 1) := by decide +kernel
theorem dL_law_357 : decode cL_law 357 = .ok (.aload_n 0, 1) := by decide +kernel
theorem dL_law_358 : decode cL_law 358 = .ok (.iload_n 3, 1) := by decide +kernel
theorem dL_law_359 : decode cL_law 359 = .ok (.iconst 3, 1) := by decide +kernel
theorem dL_law_360 : decode cL_law 360 = .ok (.iadd, 1) := by decide +kernel
theorem dL_law_361 : decode cL_law 361 = .ok (.iaload, 1) := by decide +kernel
theorem dL_law_362 : decode cL_law 362 = .ok (.ifCond .eq 7, 3) := by decide +kernel
theorem dL_law_365 : decode cL_law 365 = .ok (.iconst 1, 1) := by decide +kernel
theorem dL_law_366 : decode cL_law 366 = .ok (.goto 4, 3) := by decide +kernel
theorem dL_law_369 : decode cL_law 369 = .ok (.iconst 0, 1) := by decide +kernel
theorem dL_law_370 : decode cL_law 370 = .ok (.invokevirtual 32, 3) := by decide +kernel
theorem dL_law_373 : decode cL_law 373 = .ok (.lcmp, 1) := by decide +kernel
theorem dL_law_374 : decode cL_law 374 = .ok (.ifCond .eq 1300, 3) := by decide +kernel
theorem dL_law_377 : decode cL_law 377 = .ok (.iconst 0, 1) := by decide +kernel
theorem dL_law_378 : decode cL_law 378 = .ok (.ireturn, 1) := by decide +kernel
theorem dL_law_379 : decode cL_law 379 = .ok (.aload_n 1, 1) := by decide +kernel
theorem dL_law_380 : decode cL_law 380 = .ok (.aload_n 0, 1) := by decide +kernel
theorem dL_law_381 : decode cL_law 381 = .ok (.iload_n 3, 1) := by decide +kernel
theorem dL_law_382 : decode cL_law 382 = .ok (.iconst 1, 1) := by decide +kernel
theorem dL_law_383 : decode cL_law 383 = .ok (.iadd, 1) := by decide +kernel
theorem dL_law_384 : decode cL_law 384 = .ok (.iaload, 1) := by decide +kernel
theorem dL_law_385 : decode cL_law 385 = .ok (.invokevirtual 33, 3) := by decide +kernel
theorem dL_law_388 : decode cL_law 388 = .ok (.aload_n 2, 1) := by decide +kernel
theorem dL_law_389 : decode cL_law 389 = .ok (.aload_n 0, 1) := by decide +kernel
theorem dL_law_390 : decode cL_law 390 = .ok (.iload_n 3, 1) := by decide +kernel
theorem dL_law_391 : decode cL_law 391 = .ok (.iconst 1, 1) := by decide +kernel
theorem dL_law_392 : decode cL_law 392 = .ok (.iadd, 1) := by decide +kernel
theorem dL_law_393 : decode cL_law 393 = .ok (.iaload, 1) := by decide +kernel
theorem dL_law_394 : decode cL_law 394 = .ok (.invokevirtual 37, 3) := by decide +kernel
theorem dL_law_397 : decode cL_law 397 = .ok (.if_icmp .eq 1277, 3) := by decide +kernel
theorem dL_law_400 : decode cL_law 400 = .ok (.iconst 0, 1) := by decide +kernel
theorem dL_law_401 : decode cL_law 401 = .ok (.ireturn, 1) := by decide +kernel
theorem dL_law_402 : decode cL_law 402 = .ok (.aload_n 1, 1) := by decide +kernel
theorem dL_law_403 : decode cL_law 403 = .ok (.aload_n 0, 1) := by decide +kernel
theorem dL_law_404 : decode cL_law 404 = .ok (.iload_n 3, 1) := by decide +kernel
theorem dL_law_405 : decode cL_law 405 = .ok (.iconst 1, 1) := by decide +kernel
theorem dL_law_406 : decode cL_law 406 = .ok (.iadd, 1) := by decide +kernel
theorem dL_law_407 : decode cL_law 407 = .ok (.iaload, 1) := by decide +kernel
theorem dL_law_408 : decode cL_law 408 = .ok (.aload_n 0, 1) := by decide +kernel
theorem dL_law_409 : decode cL_law 409 = .ok (.iload_n 3, 1) := by decide +kernel
theorem dL_law_410 : decode cL_law 410 = .ok (.iconst 2, 1) := by decide +kernel
theorem dL_law_411 : decode cL_law 411 = .ok (.iadd, 1) := by decide +kernel
theorem dL_law_412 : decode cL_law 412 = .ok (.iaload, 1) := by decide +kernel
theorem dL_law_413 : decode cL_law 413 = .ok (.aload_n 0, 1) := by decide +kernel
theorem dL_law_414 : decode cL_law 414 = .ok (.iload_n 3, 1) := by decide +kernel
theorem dL_law_415 : decode cL_law 415 = .ok (.iconst 3, 1) := by decide +kernel
theorem dL_law_416 : decode cL_law 416 = .ok (.iadd, 1) := by decide +kernel
theorem dL_law_417 : decode cL_law 417 = .ok (.iaload, 1) := by decide +kernel
theorem dL_law_418 : decode cL_law 418 = .ok (.invokevirtual 38, 3) := by decide +kernel
theorem dL_law_421 : decode cL_law 421 = .ok (.aload_n 2, 1) := by decide +kernel
theorem dL_law_422 : decode cL_law 422 = .ok (.aload_n 0, 1) := by decide +kernel
theorem dL_law_423 : decode cL_law 423 = .ok (.iload_n 3, 1) := by decide +kernel
theorem dL_law_424 : decode cL_law 424 = .ok (.iconst 1, 1) := by decide +kernel
theorem dL_law_425 : decode cL_law 425 = .ok (.iadd, 1) := by decide +kernel
theorem dL_law_426 : decode cL_law 426 = .ok (.iaload, 1) := by decide +kernel
theorem dL_law_427 : decode cL_law 427 = .ok (.aload_n 0, 1) := by decide +kernel
theorem dL_law_428 : decode cL_law 428 = .ok (.iload_n 3, 1) := by decide +kernel
theorem dL_law_429 : decode cL_law 429 = .ok (.iconst 2, 1) := by decide +kernel
theorem dL_law_430 : decode cL_law 430 = .ok (.iadd, 1) := by decide +kernel
theorem dL_law_431 : decode cL_law 431 = .ok (.iaload, 1) := by decide +kernel
theorem dL_law_432 : decode cL_law 432 = .ok (.aload_n 0, 1) := by decide +kernel
theorem dL_law_433 : decode cL_law 433 = .ok (.iload_n 3, 1) := by decide +kernel
theorem dL_law_434 : decode cL_law 434 = .ok (.iconst 3, 1) := by decide +kernel
theorem dL_law_435 : decode cL_law 435 = .ok (.iadd, 1) := by decide +kernel
theorem dL_law_436 : decode cL_law 436 = .ok (.iaload, 1) := by decide +kernel
theorem dL_law_437 : decode cL_law 437 = .ok (.invokevirtual 41, 3) := by decide +kernel
theorem dL_law_440 : decode cL_law 440 = .ok (.if_icmp .eq 1234, 3) := by decide +kernel
theorem dL_law_443 : decode cL_law 443 = .ok (.iconst 0, 1) := by decide +kernel
theorem dL_law_444 : decode cL_law 444 = .ok (.ireturn, 1) := by decide +kernel
theorem dL_law_445 : decode cL_law 445 = .ok (.aload_n 1, 1) := by decide +kernel
theorem dL_law_446 : decode cL_law 446 = .ok (.aload_n 0, 1) := by decide +kernel
theorem dL_law_447 : decode cL_law 447 = .ok (.iload_n 3, 1) := by decide +kernel
theorem dL_law_448 : decode cL_law 448 = .ok (.iconst 1, 1) := by decide +kernel
theorem dL_law_449 : decode cL_law 449 = .ok (.iadd, 1) := by decide +kernel
theorem dL_law_450 : decode cL_law 450 = .ok (.iaload, 1) := by decide +kernel
theorem dL_law_451 : decode cL_law 451 = .ok (.aload_n 0, 1) := by decide +kernel
theorem dL_law_452 : decode cL_law 452 = .ok (.iload_n 3, 1) := by decide +kernel
theorem dL_law_453 : decode cL_law 453 = .ok (.iconst 2, 1) := by decide +kernel
theorem dL_law_454 : decode cL_law 454 = .ok (.iadd, 1) := by decide +kernel
theorem dL_law_455 : decode cL_law 455 = .ok (.iaload, 1) := by decide +kernel
theorem dL_law_456 : decode cL_law 456 = .ok (.aload_n 0, 1) := by decide +kernel
theorem dL_law_457 : decode cL_law 457 = .ok (.iload_n 3, 1) := by decide +kernel
theorem dL_law_458 : decode cL_law 458 = .ok (.iconst 3, 1) := by decide +kernel
theorem dL_law_459 : decode cL_law 459 = .ok (.iadd, 1) := by decide +kernel
theorem dL_law_460 : decode cL_law 460 = .ok (.iaload, 1) := by decide +kernel
theorem dL_law_461 : decode cL_law 461 = .ok (.aload_n 0, 1) := by decide +kernel
theorem dL_law_462 : decode cL_law 462 = .ok (.iload_n 3, 1) := by decide +kernel
theorem dL_law_463 : decode cL_law 463 = .ok (.iconst 4, 1) := by decide +kernel
theorem dL_law_464 : decode cL_law 464 = .ok (.iadd, 1) := by decide +kernel
theorem dL_law_465 : decode cL_law 465 = .ok (.iaload, 1) := by decide +kernel
theorem dL_law_466 : decode cL_law 466 = .ok (.invokevirtual 42, 3) := by decide +kernel
theorem dL_law_469 : decode cL_law 469 = .ok (.aload_n 2, 1) := by decide +kernel
theorem dL_law_470 : decode cL_law 470 = .ok (.aload_n 0, 1) := by decide +kernel
theorem dL_law_471 : decode cL_law 471 = .ok (.iload_n 3, 1) := by decide +kernel
theorem dL_law_472 : decode cL_law 472 = .ok (.iconst 1, 1) := by decide +kernel
theorem dL_law_473 : decode cL_law 473 = .ok (.iadd, 1) := by decide +kernel
theorem dL_law_474 : decode cL_law 474 = .ok (.iaload, 1) := by decide +kernel
theorem dL_law_475 : decode cL_law 475 = .ok (.aload_n 0, 1) := by decide +kernel
theorem dL_law_476 : decode cL_law 476 = .ok (.iload_n 3, 1) := by decide +kernel
theorem dL_law_477 : decode cL_law 477 = .ok (.iconst 2, 1) := by decide +kernel
theorem dL_law_478 : decode cL_law 478 = .ok (.iadd, 1) := by decide +kernel
theorem dL_law_479 : decode cL_law 479 = .ok (.iaload, 1) := by decide +kernel
theorem dL_law_480 : decode cL_law 480 = .ok (.aload_n 0, 1) := by decide +kernel
theorem dL_law_481 : decode cL_law 481 = .ok (.iload_n 3, 1) := by decide +kernel
theorem dL_law_482 : decode cL_law 482 = .ok (.iconst 3, 1) := by decide +kernel
theorem dL_law_483 : decode cL_law 483 = .ok (.iadd, 1) := by decide +kernel
theorem dL_law_484 : decode cL_law 484 = .ok (.iaload, 1) := by decide +kernel
theorem dL_law_485 : decode cL_law 485 = .ok (.aload_n 0, 1) := by decide +kernel
theorem dL_law_486 : decode cL_law 486 = .ok (.iload_n 3, 1) := by decide +kernel
theorem dL_law_487 : decode cL_law 487 = .ok (.iconst 4, 1) := by decide +kernel
theorem dL_law_488 : decode cL_law 488 = .ok (.iadd, 1) := by decide +kernel
theorem dL_law_489 : decode cL_law 489 = .ok (.iaload, 1) := by decide +kernel
theorem dL_law_490 : decode cL_law 490 = .ok (.invokevirtual 46, 3) := by decide +kernel
theorem dL_law_493 : decode cL_law 493 = .ok (.if_icmp .eq 1181, 3) := by decide +kernel
theorem dL_law_496 : decode cL_law 496 = .ok (.iconst 0, 1) := by decide +kernel
theorem dL_law_497 : decode cL_law 497 = .ok (.ireturn, 1) := by decide +kernel
theorem dL_law_498 : decode cL_law 498 = .ok (.aload_n 1, 1) := by decide +kernel
theorem dL_law_499 : decode cL_law 499 = .ok (.aload_n 0, 1) := by decide +kernel
theorem dL_law_500 : decode cL_law 500 = .ok (.iload_n 3, 1) := by decide +kernel
theorem dL_law_501 : decode cL_law 501 = .ok (.iconst 1, 1) := by decide +kernel
theorem dL_law_502 : decode cL_law 502 = .ok (.iadd, 1) := by decide +kernel
theorem dL_law_503 : decode cL_law 503 = .ok (.iaload, 1) := by decide +kernel
theorem dL_law_504 : decode cL_law 504 = .ok (.invokevirtual 47, 3) := by decide +kernel
theorem dL_law_507 : decode cL_law 507 = .ok (.aload_n 2, 1) := by decide +kernel
theorem dL_law_508 : decode cL_law 508 = .ok (.aload_n 0, 1) := by decide +kernel
theorem dL_law_509 : decode cL_law 509 = .ok (.iload_n 3, 1) := by decide +kernel
theorem dL_law_510 : decode cL_law 510 = .ok (.iconst 1, 1) := by decide +kernel
theorem dL_law_511 : decode cL_law 511 = .ok (.iadd, 1) := by decide +kernel
theorem dL_law_512 : decode cL_law 512 = .ok (.iaload, 1) := by decide +kernel
theorem dL_law_513 : decode cL_law 513 = .ok (.invokevirtual 51, 3) := by decide +kernel
theorem dL_law_516 : decode cL_law 516 = .ok (.lcmp, 1) := by decide +kernel
theorem dL_law_517 : decode cL_law 517 = .ok (.ifCond .eq 1157, 3) := by decide +kernel
theorem dL_law_520 : decode cL_law 520 = .ok (.iconst 0, 1) := by decide +kernel
theorem dL_law_521 : decode cL_law 521 = .ok (.ireturn, 1) := by decide +kernel
theorem dL_law_522 : decode cL_law 522 = .ok (.aload_n 1, 1) := by decide +kernel
theorem dL_law_523 : decode cL_law 523 = .ok (.aload_n 0, 1) := by decide +kernel
theorem dL_law_524 : decode cL_law 524 = .ok (.iload_n 3, 1) := by decide +kernel
theorem dL_law_525 : decode cL_law 525 = .ok (.iconst 1, 1) := by decide +kernel
theorem dL_law_526 : decode cL_law 526 = .ok (.iadd, 1) := by decide +kernel
theorem dL_law_527 : decode cL_law 527 = .ok (.iaload, 1) := by decide +kernel
theorem dL_law_528 : decode cL_law 528 = .ok (.invokevirtual 52, 3) := by decide +kernel
theorem dL_law_531 : decode cL_law 531 = .ok (.aload_n 2, 1) := by decide +kernel
theorem dL_law_532 : decode cL_law 532 = .ok (.aload_n 0, 1) := by decide +kernel
theorem dL_law_533 : decode cL_law 533 = .ok (.iload_n 3, 1) := by decide +kernel
theorem dL_law_534 : decode cL_law 534 = .ok (.iconst 1, 1) := by decide +kernel
theorem dL_law_535 : decode cL_law 535 = .ok (.iadd, 1) := by decide +kernel
theorem dL_law_536 : decode cL_law 536 = .ok (.iaload, 1) := by decide +kernel
theorem dL_law_537 : decode cL_law 537 = .ok (.invokevirtual 55, 3) := by decide +kernel
theorem dL_law_540 : decode cL_law 540 = .ok (.if_icmp .eq 1134, 3) := by decide +kernel
theorem dL_law_543 : decode cL_law 543 = .ok (.iconst 0, 1) := by decide +kernel
theorem dL_law_544 : decode cL_law 544 = .ok (.ireturn, 1) := by decide +kernel
theorem dL_law_545 : decode cL_law 545 = .ok (.aload_n 1, 1) := by decide +kernel
theorem dL_law_546 : decode cL_law 546 = .ok (.invokevirtual 56, 3) := by decide +kernel
theorem dL_law_549 : decode cL_law 549 = .ok (.aload_n 2, 1) := by decide +kernel
theorem dL_law_550 : decode cL_law 550 = .ok (.invokevirtual 60, 3) := by decide +kernel
theorem dL_law_553 : decode cL_law 553 = .ok (.if_icmp .eq 1121, 3) := by decide +kernel
theorem dL_law_556 : decode cL_law 556 = .ok (.iconst 0, 1) := by decide +kernel
theorem dL_law_557 : decode cL_law 557 = .ok (.ireturn, 1) := by decide +kernel
theorem dL_law_558 : decode cL_law 558 = .ok (.aload_n 1, 1) := by decide +kernel
theorem dL_law_559 : decode cL_law 559 = .ok (.invokevirtual 61, 3) := by decide +kernel
theorem dL_law_562 : decode cL_law 562 = .ok (.aload_n 2, 1) := by decide +kernel
theorem dL_law_563 : decode cL_law 563 = .ok (.invokevirtual 64, 3) := by decide +kernel
theorem dL_law_566 : decode cL_law 566 = .ok (.if_icmp .eq 1108, 3) := by decide +kernel
theorem dL_law_569 : decode cL_law 569 = .ok (.iconst 0, 1) := by decide +kernel
theorem dL_law_570 : decode cL_law 570 = .ok (.ireturn, 1) := by decide +kernel
theorem dL_law_571 : decode cL_law 571 = .ok (.aload_n 1, 1) := by decide +kernel
theorem dL_law_572 : decode cL_law 572 = .ok (.aload_n 0, 1) := by decide +kernel
theorem dL_law_573 : decode cL_law 573 = .ok (.iload_n 3, 1) := by decide +kernel
theorem dL_law_574 : decode cL_law 574 = .ok (.iconst 1, 1) := by decide +kernel
theorem dL_law_575 : decode cL_law 575 = .ok (.iadd, 1) := by decide +kernel
theorem dL_law_576 : decode cL_law 576 = .ok (.iaload, 1) := by decide +kernel
theorem dL_law_577 : decode cL_law 577 = .ok (.aload_n 0, 1) := by decide +kernel
theorem dL_law_578 : decode cL_law 578 = .ok (.iload_n 3, 1) := by decide +kernel
theorem dL_law_579 : decode cL_law 579 = .ok (.iconst 2, 1) := by decide +kernel
theorem dL_law_580 : decode cL_law 580 = .ok (.iadd, 1) := by decide +kernel
theorem dL_law_581 : decode cL_law 581 = .ok (.iaload, 1) := by decide +kernel
theorem dL_law_582 : decode cL_law 582 = .ok (.i2l, 1) := by decide +kernel
theorem dL_law_583 : decode cL_law 583 = .ok (.bipush 32, 2) := by decide +kernel
theorem dL_law_585 : decode cL_law 585 = .ok (.lshl, 1) := by decide +kernel
theorem dL_law_586 : decode cL_law 586 = .ok (.aload_n 0, 1) := by decide +kernel
theorem dL_law_587 : decode cL_law 587 = .ok (.iload_n 3, 1) := by decide +kernel
theorem dL_law_588 : decode cL_law 588 = .ok (.iconst 3, 1) := by decide +kernel
theorem dL_law_589 : decode cL_law 589 = .ok (.iadd, 1) := by decide +kernel
theorem dL_law_590 : decode cL_law 590 = .ok (.iaload, 1) := by decide +kernel
theorem dL_law_591 : decode cL_law 591 = .ok (.i2l, 1) := by decide +kernel
theorem dL_law_592 : decode cL_law 592 = .ok (.ldc2_w 65, 3) := by decide +kernel
theorem dL_law_595 : decode cL_law 595 = .ok (.land, 1) := by decide +kernel
theorem dL_law_596 : decode cL_law 596 = .ok (.lor, 1) := by decide +kernel
theorem dL_law_597 : decode cL_law 597 = .ok (.invokevirtual 67, 3) := by decide +kernel
theorem dL_law_600 : decode cL_law 600 = .ok (.aload_n 2, 1) := by decide +kernel
theorem dL_law_601 : decode cL_law 601 = .ok (.aload_n 0, 1) := by decide +kernel
theorem dL_law_602 : decode cL_law 602 = .ok (.iload_n 3, 1) := by decide +kernel
theorem dL_law_603 : decode cL_law 603 = .ok (.iconst 1, 1) := by decide +kernel
theorem dL_law_604 : decode cL_law 604 = .ok (.iadd, 1) := by decide +kernel
theorem dL_law_605 : decode cL_law 605 = .ok (.iaload, 1) := by decide +kernel
theorem dL_law_606 : decode cL_law 606 = .ok (.aload_n 0, 1) := by decide +kernel
theorem dL_law_607 : decode cL_law 607 = .ok (.iload_n 3, 1) := by decide +kernel
theorem dL_law_608 : decode cL_law 608 = .ok (.iconst 2, 1) := by decide +kernel
theorem dL_law_609 : decode cL_law 609 = .ok (.iadd, 1) := by decide +kernel
theorem dL_law_610 : decode cL_law 610 = .ok (.iaload, 1) := by decide +kernel
theorem dL_law_611 : decode cL_law 611 = .ok (.i2l, 1) := by decide +kernel
theorem dL_law_612 : decode cL_law 612 = .ok (.bipush 32, 2) := by decide +kernel
theorem dL_law_614 : decode cL_law 614 = .ok (.lshl, 1) := by decide +kernel
theorem dL_law_615 : decode cL_law 615 = .ok (.aload_n 0, 1) := by decide +kernel
theorem dL_law_616 : decode cL_law 616 = .ok (.iload_n 3, 1) := by decide +kernel
theorem dL_law_617 : decode cL_law 617 = .ok (.iconst 3, 1) := by decide +kernel
theorem dL_law_618 : decode cL_law 618 = .ok (.iadd, 1) := by decide +kernel
theorem dL_law_619 : decode cL_law 619 = .ok (.iaload, 1) := by decide +kernel
theorem dL_law_620 : decode cL_law 620 = .ok (.i2l, 1) := by decide +kernel
theorem dL_law_621 : decode cL_law 621 = .ok (.ldc2_w 65, 3) := by decide +kernel
theorem dL_law_624 : decode cL_law 624 = .ok (.land, 1) := by decide +kernel
theorem dL_law_625 : decode cL_law 625 = .ok (.lor, 1) := by decide +kernel
theorem dL_law_626 : decode cL_law 626 = .ok (.invokevirtual 71, 3) := by decide +kernel
theorem dL_law_629 : decode cL_law 629 = .ok (.if_icmp .eq 1045, 3) := by decide +kernel
theorem dL_law_632 : decode cL_law 632 = .ok (.iconst 0, 1) := by decide +kernel
theorem dL_law_633 : decode cL_law 633 = .ok (.ireturn, 1) := by decide +kernel
theorem dL_law_634 : decode cL_law 634 = .ok (.aload_n 1, 1) := by decide +kernel
theorem dL_law_635 : decode cL_law 635 = .ok (.invokevirtual 72, 3) := by decide +kernel
theorem dL_law_638 : decode cL_law 638 = .ok (.aload_n 2, 1) := by decide +kernel
theorem dL_law_639 : decode cL_law 639 = .ok (.invokevirtual 75, 3) := by decide +kernel
theorem dL_law_642 : decode cL_law 642 = .ok (.if_icmp .eq 1032, 3) := by decide +kernel
theorem dL_law_645 : decode cL_law 645 = .ok (.iconst 0, 1) := by decide +kernel
theorem dL_law_646 : decode cL_law 646 = .ok (.ireturn, 1) := by decide +kernel
theorem dL_law_647 : decode cL_law 647 = .ok (.aload_n 1, 1) := by decide +kernel
theorem dL_law_648 : decode cL_law 648 = .ok (.aload_n 0, 1) := by decide +kernel
theorem dL_law_649 : decode cL_law 649 = .ok (.iload_n 3, 1) := by decide +kernel
theorem dL_law_650 : decode cL_law 650 = .ok (.iconst 1, 1) := by decide +kernel
theorem dL_law_651 : decode cL_law 651 = .ok (.iadd, 1) := by decide +kernel
theorem dL_law_652 : decode cL_law 652 = .ok (.iaload, 1) := by decide +kernel
theorem dL_law_653 : decode cL_law 653 = .ok (.aload_n 0, 1) := by decide +kernel
theorem dL_law_654 : decode cL_law 654 = .ok (.iload_n 3, 1) := by decide +kernel
theorem dL_law_655 : decode cL_law 655 = .ok (.iconst 2, 1) := by decide +kernel
theorem dL_law_656 : decode cL_law 656 = .ok (.iadd, 1) := by decide +kernel
theorem dL_law_657 : decode cL_law 657 = .ok (.iaload, 1) := by decide +kernel
theorem dL_law_658 : decode cL_law 658 = .ok (.aload_n 0, 1) := by decide +kernel
theorem dL_law_659 : decode cL_law 659 = .ok (.iload_n 3, 1) := by decide +kernel
theorem dL_law_660 : decode cL_law 660 = .ok (.iconst 3, 1) := by decide +kernel
theorem dL_law_661 : decode cL_law 661 = .ok (.iadd, 1) := by decide +kernel
theorem dL_law_662 : decode cL_law 662 = .ok (.iaload, 1) := by decide +kernel
theorem dL_law_663 : decode cL_law 663 = .ok (.invokevirtual 76, 3) := by decide +kernel
theorem dL_law_666 : decode cL_law 666 = .ok (.aload_n 2, 1) := by decide +kernel
theorem dL_law_667 : decode cL_law 667 = .ok (.aload_n 0, 1) := by decide +kernel
theorem dL_law_668 : decode cL_law 668 = .ok (.iload_n 3, 1) := by decide +kernel
theorem dL_law_669 : decode cL_law 669 = .ok (.iconst 1, 1) := by decide +kernel
theorem dL_law_670 : decode cL_law 670 = .ok (.iadd, 1) := by decide +kernel
theorem dL_law_671 : decode cL_law 671 = .ok (.iaload, 1) := by decide +kernel
theorem dL_law_672 : decode cL_law 672 = .ok (.aload_n 0, 1) := by decide +kernel
theorem dL_law_673 : decode cL_law 673 = .ok (.iload_n 3, 1) := by decide +kernel
theorem dL_law_674 : decode cL_law 674 = .ok (.iconst 2, 1) := by decide +kernel
theorem dL_law_675 : decode cL_law 675 = .ok (.iadd, 1) := by decide +kernel
theorem dL_law_676 : decode cL_law 676 = .ok (.iaload, 1) := by decide +kernel
theorem dL_law_677 : decode cL_law 677 = .ok (.aload_n 0, 1) := by decide +kernel
theorem dL_law_678 : decode cL_law 678 = .ok (.iload_n 3, 1) := by decide +kernel
theorem dL_law_679 : decode cL_law 679 = .ok (.iconst 3, 1) := by decide +kernel
theorem dL_law_680 : decode cL_law 680 = .ok (.iadd, 1) := by decide +kernel
theorem dL_law_681 : decode cL_law 681 = .ok (.iaload, 1) := by decide +kernel
theorem dL_law_682 : decode cL_law 682 = .ok (.invokevirtual 79, 3) := by decide +kernel
theorem dL_law_685 : decode cL_law 685 = .ok (.if_icmp .eq 989, 3) := by decide +kernel
theorem dL_law_688 : decode cL_law 688 = .ok (.iconst 0, 1) := by decide +kernel
theorem dL_law_689 : decode cL_law 689 = .ok (.ireturn, 1) := by decide +kernel
theorem dL_law_690 : decode cL_law 690 = .ok (.aload_n 1, 1) := by decide +kernel
theorem dL_law_691 : decode cL_law 691 = .ok (.aload_n 0, 1) := by decide +kernel
theorem dL_law_692 : decode cL_law 692 = .ok (.iload_n 3, 1) := by decide +kernel
theorem dL_law_693 : decode cL_law 693 = .ok (.iconst 1, 1) := by decide +kernel
theorem dL_law_694 : decode cL_law 694 = .ok (.iadd, 1) := by decide +kernel
theorem dL_law_695 : decode cL_law 695 = .ok (.iaload, 1) := by decide +kernel
theorem dL_law_696 : decode cL_law 696 = .ok (.aload_n 0, 1) := by decide +kernel
theorem dL_law_697 : decode cL_law 697 = .ok (.iload_n 3, 1) := by decide +kernel
theorem dL_law_698 : decode cL_law 698 = .ok (.iconst 2, 1) := by decide +kernel
theorem dL_law_699 : decode cL_law 699 = .ok (.iadd, 1) := by decide +kernel
theorem dL_law_700 : decode cL_law 700 = .ok (.iaload, 1) := by decide +kernel
theorem dL_law_701 : decode cL_law 701 = .ok (.aload_n 0, 1) := by decide +kernel
theorem dL_law_702 : decode cL_law 702 = .ok (.iload_n 3, 1) := by decide +kernel
theorem dL_law_703 : decode cL_law 703 = .ok (.iconst 3, 1) := by decide +kernel
theorem dL_law_704 : decode cL_law 704 = .ok (.iadd, 1) := by decide +kernel
theorem dL_law_705 : decode cL_law 705 = .ok (.iaload, 1) := by decide +kernel
theorem dL_law_706 : decode cL_law 706 = .ok (.aload_n 0, 1) := by decide +kernel
theorem dL_law_707 : decode cL_law 707 = .ok (.iload_n 3, 1) := by decide +kernel
theorem dL_law_708 : decode cL_law 708 = .ok (.iconst 4, 1) := by decide +kernel
theorem dL_law_709 : decode cL_law 709 = .ok (.iadd, 1) := by decide +kernel
theorem dL_law_710 : decode cL_law 710 = .ok (.iaload, 1) := by decide +kernel
theorem dL_law_711 : decode cL_law 711 = .ok (.invokevirtual 80, 3) := by decide +kernel
theorem dL_law_714 : decode cL_law 714 = .ok (.aload_n 2, 1) := by decide +kernel
theorem dL_law_715 : decode cL_law 715 = .ok (.aload_n 0, 1) := by decide +kernel
theorem dL_law_716 : decode cL_law 716 = .ok (.iload_n 3, 1) := by decide +kernel
theorem dL_law_717 : decode cL_law 717 = .ok (.iconst 1, 1) := by decide +kernel
theorem dL_law_718 : decode cL_law 718 = .ok (.iadd, 1) := by decide +kernel
theorem dL_law_719 : decode cL_law 719 = .ok (.iaload, 1) := by decide +kernel
theorem dL_law_720 : decode cL_law 720 = .ok (.aload_n 0, 1) := by decide +kernel
theorem dL_law_721 : decode cL_law 721 = .ok (.iload_n 3, 1) := by decide +kernel
theorem dL_law_722 : decode cL_law 722 = .ok (.iconst 2, 1) := by decide +kernel
theorem dL_law_723 : decode cL_law 723 = .ok (.iadd, 1) := by decide +kernel
theorem dL_law_724 : decode cL_law 724 = .ok (.iaload, 1) := by decide +kernel
theorem dL_law_725 : decode cL_law 725 = .ok (.aload_n 0, 1) := by decide +kernel
theorem dL_law_726 : decode cL_law 726 = .ok (.iload_n 3, 1) := by decide +kernel
theorem dL_law_727 : decode cL_law 727 = .ok (.iconst 3, 1) := by decide +kernel
theorem dL_law_728 : decode cL_law 728 = .ok (.iadd, 1) := by decide +kernel
theorem dL_law_729 : decode cL_law 729 = .ok (.iaload, 1) := by decide +kernel
theorem dL_law_730 : decode cL_law 730 = .ok (.aload_n 0, 1) := by decide +kernel
theorem dL_law_731 : decode cL_law 731 = .ok (.iload_n 3, 1) := by decide +kernel
theorem dL_law_732 : decode cL_law 732 = .ok (.iconst 4, 1) := by decide +kernel
theorem dL_law_733 : decode cL_law 733 = .ok (.iadd, 1) := by decide +kernel
theorem dL_law_734 : decode cL_law 734 = .ok (.iaload, 1) := by decide +kernel
theorem dL_law_735 : decode cL_law 735 = .ok (.invokevirtual 84, 3) := by decide +kernel
theorem dL_law_738 : decode cL_law 738 = .ok (.lcmp, 1) := by decide +kernel
theorem dL_law_739 : decode cL_law 739 = .ok (.ifCond .eq 935, 3) := by decide +kernel
theorem dL_law_742 : decode cL_law 742 = .ok (.iconst 0, 1) := by decide +kernel
theorem dL_law_743 : decode cL_law 743 = .ok (.ireturn, 1) := by decide +kernel
theorem dL_law_744 : decode cL_law 744 = .ok (.aload_n 1, 1) := by decide +kernel
theorem dL_law_745 : decode cL_law 745 = .ok (.aload_n 0, 1) := by decide +kernel
theorem dL_law_746 : decode cL_law 746 = .ok (.iload_n 3, 1) := by decide +kernel
theorem dL_law_747 : decode cL_law 747 = .ok (.iconst 1, 1) := by decide +kernel
theorem dL_law_748 : decode cL_law 748 = .ok (.iadd, 1) := by decide +kernel
theorem dL_law_749 : decode cL_law 749 = .ok (.iaload, 1) := by decide +kernel
theorem dL_law_750 : decode cL_law 750 = .ok (.aload_n 0, 1) := by decide +kernel
theorem dL_law_751 : decode cL_law 751 = .ok (.iload_n 3, 1) := by decide +kernel
theorem dL_law_752 : decode cL_law 752 = .ok (.iconst 2, 1) := by decide +kernel
theorem dL_law_753 : decode cL_law 753 = .ok (.iadd, 1) := by decide +kernel
theorem dL_law_754 : decode cL_law 754 = .ok (.iaload, 1) := by decide +kernel
theorem dL_law_755 : decode cL_law 755 = .ok (.aload_n 0, 1) := by decide +kernel
theorem dL_law_756 : decode cL_law 756 = .ok (.iload_n 3, 1) := by decide +kernel
theorem dL_law_757 : decode cL_law 757 = .ok (.iconst 3, 1) := by decide +kernel
theorem dL_law_758 : decode cL_law 758 = .ok (.iadd, 1) := by decide +kernel
theorem dL_law_759 : decode cL_law 759 = .ok (.iaload, 1) := by decide +kernel
theorem dL_law_760 : decode cL_law 760 = .ok (.i2l, 1) := by decide +kernel
theorem dL_law_761 : decode cL_law 761 = .ok (.bipush 32, 2) := by decide +kernel
theorem dL_law_763 : decode cL_law 763 = .ok (.lshl, 1) := by decide +kernel
theorem dL_law_764 : decode cL_law 764 = .ok (.aload_n 0, 1) := by decide +kernel
theorem dL_law_765 : decode cL_law 765 = .ok (.iload_n 3, 1) := by decide +kernel
theorem dL_law_766 : decode cL_law 766 = .ok (.iconst 4, 1) := by decide +kernel
theorem dL_law_767 : decode cL_law 767 = .ok (.iadd, 1) := by decide +kernel
theorem dL_law_768 : decode cL_law 768 = .ok (.iaload, 1) := by decide +kernel
theorem dL_law_769 : decode cL_law 769 = .ok (.i2l, 1) := by decide +kernel
theorem dL_law_770 : decode cL_law 770 = .ok (.ldc2_w 65, 3) := by decide +kernel
theorem dL_law_773 : decode cL_law 773 = .ok (.land, 1) := by decide +kernel
theorem dL_law_774 : decode cL_law 774 = .ok (.lor, 1) := by decide +kernel
theorem dL_law_775 : decode cL_law 775 = .ok (.aload_n 0, 1) := by decide +kernel
theorem dL_law_776 : decode cL_law 776 = .ok (.iload_n 3, 1) := by decide +kernel
theorem dL_law_777 : decode cL_law 777 = .ok (.iconst 5, 1) := by decide +kernel
theorem dL_law_778 : decode cL_law 778 = .ok (.iadd, 1) := by decide +kernel
theorem dL_law_779 : decode cL_law 779 = .ok (.iaload, 1) := by decide +kernel
theorem dL_law_780 : decode cL_law 780 = .ok (.invokevirtual 85, 3) := by decide +kernel
theorem dL_law_783 : decode cL_law 783 = .ok (.aload_n 2, 1) := by decide +kernel
theorem dL_law_784 : decode cL_law 784 = .ok (.aload_n 0, 1) := by decide +kernel
theorem dL_law_785 : decode cL_law 785 = .ok (.iload_n 3, 1) := by decide +kernel
theorem dL_law_786 : decode cL_law 786 = .ok (.iconst 1, 1) := by decide +kernel
theorem dL_law_787 : decode cL_law 787 = .ok (.iadd, 1) := by decide +kernel
theorem dL_law_788 : decode cL_law 788 = .ok (.iaload, 1) := by decide +kernel
theorem dL_law_789 : decode cL_law 789 = .ok (.aload_n 0, 1) := by decide +kernel
theorem dL_law_790 : decode cL_law 790 = .ok (.iload_n 3, 1) := by decide +kernel
theorem dL_law_791 : decode cL_law 791 = .ok (.iconst 2, 1) := by decide +kernel
theorem dL_law_792 : decode cL_law 792 = .ok (.iadd, 1) := by decide +kernel
theorem dL_law_793 : decode cL_law 793 = .ok (.iaload, 1) := by decide +kernel
theorem dL_law_794 : decode cL_law 794 = .ok (.aload_n 0, 1) := by decide +kernel
theorem dL_law_795 : decode cL_law 795 = .ok (.iload_n 3, 1) := by decide +kernel
theorem dL_law_796 : decode cL_law 796 = .ok (.iconst 3, 1) := by decide +kernel
theorem dL_law_797 : decode cL_law 797 = .ok (.iadd, 1) := by decide +kernel
theorem dL_law_798 : decode cL_law 798 = .ok (.iaload, 1) := by decide +kernel
theorem dL_law_799 : decode cL_law 799 = .ok (.i2l, 1) := by decide +kernel
theorem dL_law_800 : decode cL_law 800 = .ok (.bipush 32, 2) := by decide +kernel
theorem dL_law_802 : decode cL_law 802 = .ok (.lshl, 1) := by decide +kernel
theorem dL_law_803 : decode cL_law 803 = .ok (.aload_n 0, 1) := by decide +kernel
theorem dL_law_804 : decode cL_law 804 = .ok (.iload_n 3, 1) := by decide +kernel
theorem dL_law_805 : decode cL_law 805 = .ok (.iconst 4, 1) := by decide +kernel
theorem dL_law_806 : decode cL_law 806 = .ok (.iadd, 1) := by decide +kernel
theorem dL_law_807 : decode cL_law 807 = .ok (.iaload, 1) := by decide +kernel
theorem dL_law_808 : decode cL_law 808 = .ok (.i2l, 1) := by decide +kernel
theorem dL_law_809 : decode cL_law 809 = .ok (.ldc2_w 65, 3) := by decide +kernel
theorem dL_law_812 : decode cL_law 812 = .ok (.land, 1) := by decide +kernel
theorem dL_law_813 : decode cL_law 813 = .ok (.lor, 1) := by decide +kernel
theorem dL_law_814 : decode cL_law 814 = .ok (.aload_n 0, 1) := by decide +kernel
theorem dL_law_815 : decode cL_law 815 = .ok (.iload_n 3, 1) := by decide +kernel
theorem dL_law_816 : decode cL_law 816 = .ok (.iconst 5, 1) := by decide +kernel
theorem dL_law_817 : decode cL_law 817 = .ok (.iadd, 1) := by decide +kernel
theorem dL_law_818 : decode cL_law 818 = .ok (.iaload, 1) := by decide +kernel
theorem dL_law_819 : decode cL_law 819 = .ok (.invokevirtual 89, 3) := by decide +kernel
theorem dL_law_822 : decode cL_law 822 = .ok (.lcmp, 1) := by decide +kernel
theorem dL_law_823 : decode cL_law 823 = .ok (.ifCond .eq 851, 3) := by decide +kernel
theorem dL_law_826 : decode cL_law 826 = .ok (.iconst 0, 1) := by decide +kernel
theorem dL_law_827 : decode cL_law 827 = .ok (.ireturn, 1) := by decide +kernel
theorem dL_law_828 : decode cL_law 828 = .ok (.aload_n 1, 1) := by decide +kernel
theorem dL_law_829 : decode cL_law 829 = .ok (.aload_n 0, 1) := by decide +kernel
theorem dL_law_830 : decode cL_law 830 = .ok (.iload_n 3, 1) := by decide +kernel
theorem dL_law_831 : decode cL_law 831 = .ok (.iconst 1, 1) := by decide +kernel
theorem dL_law_832 : decode cL_law 832 = .ok (.iadd, 1) := by decide +kernel
theorem dL_law_833 : decode cL_law 833 = .ok (.iaload, 1) := by decide +kernel
theorem dL_law_834 : decode cL_law 834 = .ok (.aload_n 0, 1) := by decide +kernel
theorem dL_law_835 : decode cL_law 835 = .ok (.iload_n 3, 1) := by decide +kernel
theorem dL_law_836 : decode cL_law 836 = .ok (.iconst 2, 1) := by decide +kernel
theorem dL_law_837 : decode cL_law 837 = .ok (.iadd, 1) := by decide +kernel
theorem dL_law_838 : decode cL_law 838 = .ok (.iaload, 1) := by decide +kernel
theorem dL_law_839 : decode cL_law 839 = .ok (.aload_n 0, 1) := by decide +kernel
theorem dL_law_840 : decode cL_law 840 = .ok (.iload_n 3, 1) := by decide +kernel
theorem dL_law_841 : decode cL_law 841 = .ok (.iconst 3, 1) := by decide +kernel
theorem dL_law_842 : decode cL_law 842 = .ok (.iadd, 1) := by decide +kernel
theorem dL_law_843 : decode cL_law 843 = .ok (.iaload, 1) := by decide +kernel
theorem dL_law_844 : decode cL_law 844 = .ok (.i2l, 1) := by decide +kernel
theorem dL_law_845 : decode cL_law 845 = .ok (.bipush 32, 2) := by decide +kernel
theorem dL_law_847 : decode cL_law 847 = .ok (.lshl, 1) := by decide +kernel
theorem dL_law_848 : decode cL_law 848 = .ok (.aload_n 0, 1) := by decide +kernel
theorem dL_law_849 : decode cL_law 849 = .ok (.iload_n 3, 1) := by decide +kernel
theorem dL_law_850 : decode cL_law 850 = .ok (.iconst 4, 1) := by decide +kernel
theorem dL_law_851 : decode cL_law 851 = .ok (.iadd, 1) := by decide +kernel
theorem dL_law_852 : decode cL_law 852 = .ok (.iaload, 1) := by decide +kernel
theorem dL_law_853 : decode cL_law 853 = .ok (.i2l, 1) := by decide +kernel
theorem dL_law_854 : decode cL_law 854 = .ok (.ldc2_w 65, 3) := by decide +kernel
theorem dL_law_857 : decode cL_law 857 = .ok (.land, 1) := by decide +kernel
theorem dL_law_858 : decode cL_law 858 = .ok (.lor, 1) := by decide +kernel
theorem dL_law_859 : decode cL_law 859 = .ok (.invokevirtual 90, 3) := by decide +kernel
theorem dL_law_862 : decode cL_law 862 = .ok (.aload_n 2, 1) := by decide +kernel
theorem dL_law_863 : decode cL_law 863 = .ok (.aload_n 0, 1) := by decide +kernel
theorem dL_law_864 : decode cL_law 864 = .ok (.iload_n 3, 1) := by decide +kernel
theorem dL_law_865 : decode cL_law 865 = .ok (.iconst 1, 1) := by decide +kernel
theorem dL_law_866 : decode cL_law 866 = .ok (.iadd, 1) := by decide +kernel
theorem dL_law_867 : decode cL_law 867 = .ok (.iaload, 1) := by decide +kernel
theorem dL_law_868 : decode cL_law 868 = .ok (.aload_n 0, 1) := by decide +kernel
theorem dL_law_869 : decode cL_law 869 = .ok (.iload_n 3, 1) := by decide +kernel
theorem dL_law_870 : decode cL_law 870 = .ok (.iconst 2, 1) := by decide +kernel
theorem dL_law_871 : decode cL_law 871 = .ok (.iadd, 1) := by decide +kernel
theorem dL_law_872 : decode cL_law 872 = .ok (.iaload, 1) := by decide +kernel
theorem dL_law_873 : decode cL_law 873 = .ok (.aload_n 0, 1) := by decide +kernel
theorem dL_law_874 : decode cL_law 874 = .ok (.iload_n 3, 1) := by decide +kernel
theorem dL_law_875 : decode cL_law 875 = .ok (.iconst 3, 1) := by decide +kernel
theorem dL_law_876 : decode cL_law 876 = .ok (.iadd, 1) := by decide +kernel
theorem dL_law_877 : decode cL_law 877 = .ok (.iaload, 1) := by decide +kernel
theorem dL_law_878 : decode cL_law 878 = .ok (.i2l, 1) := by decide +kernel
theorem dL_law_879 : decode cL_law 879 = .ok (.bipush 32, 2) := by decide +kernel
theorem dL_law_881 : decode cL_law 881 = .ok (.lshl, 1) := by decide +kernel
theorem dL_law_882 : decode cL_law 882 = .ok (.aload_n 0, 1) := by decide +kernel
theorem dL_law_883 : decode cL_law 883 = .ok (.iload_n 3, 1) := by decide +kernel
theorem dL_law_884 : decode cL_law 884 = .ok (.iconst 4, 1) := by decide +kernel
theorem dL_law_885 : decode cL_law 885 = .ok (.iadd, 1) := by decide +kernel
theorem dL_law_886 : decode cL_law 886 = .ok (.iaload, 1) := by decide +kernel
theorem dL_law_887 : decode cL_law 887 = .ok (.i2l, 1) := by decide +kernel
theorem dL_law_888 : decode cL_law 888 = .ok (.ldc2_w 65, 3) := by decide +kernel
theorem dL_law_891 : decode cL_law 891 = .ok (.land, 1) := by decide +kernel
theorem dL_law_892 : decode cL_law 892 = .ok (.lor, 1) := by decide +kernel
theorem dL_law_893 : decode cL_law 893 = .ok (.invokevirtual 94, 3) := by decide +kernel
theorem dL_law_896 : decode cL_law 896 = .ok (.lcmp, 1) := by decide +kernel
theorem dL_law_897 : decode cL_law 897 = .ok (.ifCond .eq 777, 3) := by decide +kernel
theorem dL_law_900 : decode cL_law 900 = .ok (.iconst 0, 1) := by decide +kernel
theorem dL_law_901 : decode cL_law 901 = .ok (.ireturn, 1) := by decide +kernel
theorem dL_law_902 : decode cL_law 902 = .ok (.aload_n 1, 1) := by decide +kernel
theorem dL_law_903 : decode cL_law 903 = .ok (.aload_n 0, 1) := by decide +kernel
theorem dL_law_904 : decode cL_law 904 = .ok (.iload_n 3, 1) := by decide +kernel
theorem dL_law_905 : decode cL_law 905 = .ok (.iconst 1, 1) := by decide +kernel
theorem dL_law_906 : decode cL_law 906 = .ok (.iadd, 1) := by decide +kernel
theorem dL_law_907 : decode cL_law 907 = .ok (.iaload, 1) := by decide +kernel
theorem dL_law_908 : decode cL_law 908 = .ok (.aload_n 0, 1) := by decide +kernel
theorem dL_law_909 : decode cL_law 909 = .ok (.iload_n 3, 1) := by decide +kernel
theorem dL_law_910 : decode cL_law 910 = .ok (.iconst 2, 1) := by decide +kernel
theorem dL_law_911 : decode cL_law 911 = .ok (.iadd, 1) := by decide +kernel
theorem dL_law_912 : decode cL_law 912 = .ok (.iaload, 1) := by decide +kernel
theorem dL_law_913 : decode cL_law 913 = .ok (.aload_n 0, 1) := by decide +kernel
theorem dL_law_914 : decode cL_law 914 = .ok (.iload_n 3, 1) := by decide +kernel
theorem dL_law_915 : decode cL_law 915 = .ok (.iconst 3, 1) := by decide +kernel
theorem dL_law_916 : decode cL_law 916 = .ok (.iadd, 1) := by decide +kernel
theorem dL_law_917 : decode cL_law 917 = .ok (.iaload, 1) := by decide +kernel
theorem dL_law_918 : decode cL_law 918 = .ok (.i2l, 1) := by decide +kernel
theorem dL_law_919 : decode cL_law 919 = .ok (.bipush 32, 2) := by decide +kernel
theorem dL_law_921 : decode cL_law 921 = .ok (.lshl, 1) := by decide +kernel
theorem dL_law_922 : decode cL_law 922 = .ok (.aload_n 0, 1) := by decide +kernel
theorem dL_law_923 : decode cL_law 923 = .ok (.iload_n 3, 1) := by decide +kernel
theorem dL_law_924 : decode cL_law 924 = .ok (.iconst 4, 1) := by decide +kernel
theorem dL_law_925 : decode cL_law 925 = .ok (.iadd, 1) := by decide +kernel
theorem dL_law_926 : decode cL_law 926 = .ok (.iaload, 1) := by decide +kernel
theorem dL_law_927 : decode cL_law 927 = .ok (.i2l, 1) := by decide +kernel
theorem dL_law_928 : decode cL_law 928 = .ok (.ldc2_w 65, 3) := by decide +kernel
theorem dL_law_931 : decode cL_law 931 = .ok (.land, 1) := by decide +kernel
theorem dL_law_932 : decode cL_law 932 = .ok (.lor, 1) := by decide +kernel
theorem dL_law_933 : decode cL_law 933 = .ok (.invokevirtual 95, 3) := by decide +kernel
theorem dL_law_936 : decode cL_law 936 = .ok (.aload_n 2, 1) := by decide +kernel
theorem dL_law_937 : decode cL_law 937 = .ok (.aload_n 0, 1) := by decide +kernel
theorem dL_law_938 : decode cL_law 938 = .ok (.iload_n 3, 1) := by decide +kernel
theorem dL_law_939 : decode cL_law 939 = .ok (.iconst 1, 1) := by decide +kernel
theorem dL_law_940 : decode cL_law 940 = .ok (.iadd, 1) := by decide +kernel
theorem dL_law_941 : decode cL_law 941 = .ok (.iaload, 1) := by decide +kernel
theorem dL_law_942 : decode cL_law 942 = .ok (.aload_n 0, 1) := by decide +kernel
theorem dL_law_943 : decode cL_law 943 = .ok (.iload_n 3, 1) := by decide +kernel
theorem dL_law_944 : decode cL_law 944 = .ok (.iconst 2, 1) := by decide +kernel
theorem dL_law_945 : decode cL_law 945 = .ok (.iadd, 1) := by decide +kernel
theorem dL_law_946 : decode cL_law 946 = .ok (.iaload, 1) := by decide +kernel
theorem dL_law_947 : decode cL_law 947 = .ok (.aload_n 0, 1) := by decide +kernel
theorem dL_law_948 : decode cL_law 948 = .ok (.iload_n 3, 1) := by decide +kernel
theorem dL_law_949 : decode cL_law 949 = .ok (.iconst 3, 1) := by decide +kernel
theorem dL_law_950 : decode cL_law 950 = .ok (.iadd, 1) := by decide +kernel
theorem dL_law_951 : decode cL_law 951 = .ok (.iaload, 1) := by decide +kernel
theorem dL_law_952 : decode cL_law 952 = .ok (.i2l, 1) := by decide +kernel
theorem dL_law_953 : decode cL_law 953 = .ok (.bipush 32, 2) := by decide +kernel
theorem dL_law_955 : decode cL_law 955 = .ok (.lshl, 1) := by decide +kernel
theorem dL_law_956 : decode cL_law 956 = .ok (.aload_n 0, 1) := by decide +kernel
theorem dL_law_957 : decode cL_law 957 = .ok (.iload_n 3, 1) := by decide +kernel
theorem dL_law_958 : decode cL_law 958 = .ok (.iconst 4, 1) := by decide +kernel
theorem dL_law_959 : decode cL_law 959 = .ok (.iadd, 1) := by decide +kernel
theorem dL_law_960 : decode cL_law 960 = .ok (.iaload, 1) := by decide +kernel
theorem dL_law_961 : decode cL_law 961 = .ok (.i2l, 1) := by decide +kernel
theorem dL_law_962 : decode cL_law 962 = .ok (.ldc2_w 65, 3) := by decide +kernel
theorem dL_law_965 : decode cL_law 965 = .ok (.land, 1) := by decide +kernel
theorem dL_law_966 : decode cL_law 966 = .ok (.lor, 1) := by decide +kernel
theorem dL_law_967 : decode cL_law 967 = .ok (.invokevirtual 98, 3) := by decide +kernel
theorem dL_law_970 : decode cL_law 970 = .ok (.lcmp, 1) := by decide +kernel
theorem dL_law_971 : decode cL_law 971 = .ok (.ifCond .eq 703, 3) := by decide +kernel
theorem dL_law_974 : decode cL_law 974 = .ok (.iconst 0, 1) := by decide +kernel
theorem dL_law_975 : decode cL_law 975 = .ok (.ireturn, 1) := by decide +kernel
theorem dL_law_976 : decode cL_law 976 = .ok (.aload_n 1, 1) := by decide +kernel
theorem dL_law_977 : decode cL_law 977 = .ok (.aload_n 0, 1) := by decide +kernel
theorem dL_law_978 : decode cL_law 978 = .ok (.iload_n 3, 1) := by decide +kernel
theorem dL_law_979 : decode cL_law 979 = .ok (.iconst 1, 1) := by decide +kernel
theorem dL_law_980 : decode cL_law 980 = .ok (.iadd, 1) := by decide +kernel
theorem dL_law_981 : decode cL_law 981 = .ok (.iaload, 1) := by decide +kernel
theorem dL_law_982 : decode cL_law 982 = .ok (.aload_n 0, 1) := by decide +kernel
theorem dL_law_983 : decode cL_law 983 = .ok (.iload_n 3, 1) := by decide +kernel
theorem dL_law_984 : decode cL_law 984 = .ok (.iconst 2, 1) := by decide +kernel
theorem dL_law_985 : decode cL_law 985 = .ok (.iadd, 1) := by decide +kernel
theorem dL_law_986 : decode cL_law 986 = .ok (.iaload, 1) := by decide +kernel
theorem dL_law_987 : decode cL_law 987 = .ok (.aload_n 0, 1) := by decide +kernel
theorem dL_law_988 : decode cL_law 988 = .ok (.iload_n 3, 1) := by decide +kernel
theorem dL_law_989 : decode cL_law 989 = .ok (.iconst 3, 1) := by decide +kernel
theorem dL_law_990 : decode cL_law 990 = .ok (.iadd, 1) := by decide +kernel
theorem dL_law_991 : decode cL_law 991 = .ok (.iaload, 1) := by decide +kernel
theorem dL_law_992 : decode cL_law 992 = .ok (.aload_n 0, 1) := by decide +kernel
theorem dL_law_993 : decode cL_law 993 = .ok (.iload_n 3, 1) := by decide +kernel
theorem dL_law_994 : decode cL_law 994 = .ok (.iconst 4, 1) := by decide +kernel
theorem dL_law_995 : decode cL_law 995 = .ok (.iadd, 1) := by decide +kernel
theorem dL_law_996 : decode cL_law 996 = .ok (.iaload, 1) := by decide +kernel
theorem dL_law_997 : decode cL_law 997 = .ok (.i2l, 1) := by decide +kernel
theorem dL_law_998 : decode cL_law 998 = .ok (.bipush 32, 2) := by decide +kernel
theorem dL_law_1000 : decode cL_law 1000 = .ok (.lshl, 1) := by decide +kernel
theorem dL_law_1001 : decode cL_law 1001 = .ok (.aload_n 0, 1) := by decide +kernel
theorem dL_law_1002 : decode cL_law 1002 = .ok (.iload_n 3, 1) := by decide +kernel
theorem dL_law_1003 : decode cL_law 1003 = .ok (.iconst 5, 1) := by decide +kernel
theorem dL_law_1004 : decode cL_law 1004 = .ok (.iadd, 1) := by decide +kernel
theorem dL_law_1005 : decode cL_law 1005 = .ok (.iaload, 1) := by decide +kernel
theorem dL_law_1006 : decode cL_law 1006 = .ok (.i2l, 1) := by decide +kernel
theorem dL_law_1007 : decode cL_law 1007 = .ok (.ldc2_w 65, 3) := by decide +kernel
theorem dL_law_1010 : decode cL_law 1010 = .ok (.land, 1) := by decide +kernel
theorem dL_law_1011 : decode cL_law 1011 = .ok (.lor, 1) := by decide +kernel
theorem dL_law_1012 : decode cL_law 1012 = .ok (.invokevirtual 99, 3) := by decide +kernel
theorem dL_law_1015 : decode cL_law 1015 = .ok (.aload_n 2, 1) := by decide +kernel
theorem dL_law_1016 : decode cL_law 1016 = .ok (.aload_n 0, 1) := by decide +kernel
theorem dL_law_1017 : decode cL_law 1017 = .ok (.iload_n 3, 1) := by decide +kernel
theorem dL_law_1018 : decode cL_law 1018 = .ok (.iconst 1, 1) := by decide +kernel
theorem dL_law_1019 : decode cL_law 1019 = .ok (.iadd, 1) := by decide +kernel
theorem dL_law_1020 : decode cL_law 1020 = .ok (.iaload, 1) := by decide +kernel
theorem dL_law_1021 : decode cL_law 1021 = .ok (.aload_n 0, 1) := by decide +kernel
theorem dL_law_1022 : decode cL_law 1022 = .ok (.iload_n 3, 1) := by decide +kernel
theorem dL_law_1023 : decode cL_law 1023 = .ok (.iconst 2, 1) := by decide +kernel
theorem dL_law_1024 : decode cL_law 1024 = .ok (.iadd, 1) := by decide +kernel
theorem dL_law_1025 : decode cL_law 1025 = .ok (.iaload, 1) := by decide +kernel
theorem dL_law_1026 : decode cL_law 1026 = .ok (.aload_n 0, 1) := by decide +kernel
theorem dL_law_1027 : decode cL_law 1027 = .ok (.iload_n 3, 1) := by decide +kernel
theorem dL_law_1028 : decode cL_law 1028 = .ok (.iconst 3, 1) := by decide +kernel
theorem dL_law_1029 : decode cL_law 1029 = .ok (.iadd, 1) := by decide +kernel
theorem dL_law_1030 : decode cL_law 1030 = .ok (.iaload, 1) := by decide +kernel
theorem dL_law_1031 : decode cL_law 1031 = .ok (.aload_n 0, 1) := by decide +kernel
theorem dL_law_1032 : decode cL_law 1032 = .ok (.iload_n 3, 1) := by decide +kernel
theorem dL_law_1033 : decode cL_law 1033 = .ok (.iconst 4, 1) := by decide +kernel
theorem dL_law_1034 : decode cL_law 1034 = .ok (.iadd, 1) := by decide +kernel
theorem dL_law_1035 : decode cL_law 1035 = .ok (.iaload, 1) := by decide +kernel
theorem dL_law_1036 : decode cL_law 1036 = .ok (.i2l, 1) := by decide +kernel
theorem dL_law_1037 : decode cL_law 1037 = .ok (.bipush 32, 2) := by decide +kernel
theorem dL_law_1039 : decode cL_law 1039 = .ok (.lshl, 1) := by decide +kernel
theorem dL_law_1040 : decode cL_law 1040 = .ok (.aload_n 0, 1) := by decide +kernel
theorem dL_law_1041 : decode cL_law 1041 = .ok (.iload_n 3, 1) := by decide +kernel
theorem dL_law_1042 : decode cL_law 1042 = .ok (.iconst 5, 1) := by decide +kernel
theorem dL_law_1043 : decode cL_law 1043 = .ok (.iadd, 1) := by decide +kernel
theorem dL_law_1044 : decode cL_law 1044 = .ok (.iaload, 1) := by decide +kernel
theorem dL_law_1045 : decode cL_law 1045 = .ok (.i2l, 1) := by decide +kernel
theorem dL_law_1046 : decode cL_law 1046 = .ok (.ldc2_w 65, 3) := by decide +kernel
theorem dL_law_1049 : decode cL_law 1049 = .ok (.land, 1) := by decide +kernel
theorem dL_law_1050 : decode cL_law 1050 = .ok (.lor, 1) := by decide +kernel
theorem dL_law_1051 : decode cL_law 1051 = .ok (.invokevirtual 103, 3) := by decide +kernel
theorem dL_law_1054 : decode cL_law 1054 = .ok (.lcmp, 1) := by decide +kernel
theorem dL_law_1055 : decode cL_law 1055 = .ok (.ifCond .eq 619, 3) := by decide +kernel
theorem dL_law_1058 : decode cL_law 1058 = .ok (.iconst 0, 1) := by decide +kernel
theorem dL_law_1059 : decode cL_law 1059 = .ok (.ireturn, 1) := by decide +kernel
theorem dL_law_1060 : decode cL_law 1060 = .ok (.aload_n 1, 1) := by decide +kernel
theorem dL_law_1061 : decode cL_law 1061 = .ok (.aload_n 0, 1) := by decide +kernel
theorem dL_law_1062 : decode cL_law 1062 = .ok (.iload_n 3, 1) := by decide +kernel
theorem dL_law_1063 : decode cL_law 1063 = .ok (.iconst 1, 1) := by decide +kernel
theorem dL_law_1064 : decode cL_law 1064 = .ok (.iadd, 1) := by decide +kernel
theorem dL_law_1065 : decode cL_law 1065 = .ok (.iaload, 1) := by decide +kernel
theorem dL_law_1066 : decode cL_law 1066 = .ok (.aload_n 0, 1) := by decide +kernel
theorem dL_law_1067 : decode cL_law 1067 = .ok (.iload_n 3, 1) := by decide +kernel
theorem dL_law_1068 : decode cL_law 1068 = .ok (.iconst 2, 1) := by decide +kernel
theorem dL_law_1069 : decode cL_law 1069 = .ok (.iadd, 1) := by decide +kernel
theorem dL_law_1070 : decode cL_law 1070 = .ok (.iaload, 1) := by decide +kernel
theorem dL_law_1071 : decode cL_law 1071 = .ok (.i2l, 1) := by decide +kernel
theorem dL_law_1072 : decode cL_law 1072 = .ok (.bipush 32, 2) := by decide +kernel
theorem dL_law_1074 : decode cL_law 1074 = .ok (.lshl, 1) := by decide +kernel
theorem dL_law_1075 : decode cL_law 1075 = .ok (.aload_n 0, 1) := by decide +kernel
theorem dL_law_1076 : decode cL_law 1076 = .ok (.iload_n 3, 1) := by decide +kernel
theorem dL_law_1077 : decode cL_law 1077 = .ok (.iconst 3, 1) := by decide +kernel
theorem dL_law_1078 : decode cL_law 1078 = .ok (.iadd, 1) := by decide +kernel
theorem dL_law_1079 : decode cL_law 1079 = .ok (.iaload, 1) := by decide +kernel
theorem dL_law_1080 : decode cL_law 1080 = .ok (.i2l, 1) := by decide +kernel
theorem dL_law_1081 : decode cL_law 1081 = .ok (.ldc2_w 65, 3) := by decide +kernel
theorem dL_law_1084 : decode cL_law 1084 = .ok (.land, 1) := by decide +kernel
theorem dL_law_1085 : decode cL_law 1085 = .ok (.lor, 1) := by decide +kernel
theorem dL_law_1086 : decode cL_law 1086 = .ok (.invokevirtual 104, 3) := by decide +kernel
theorem dL_law_1089 : decode cL_law 1089 = .ok (.aload_n 2, 1) := by decide +kernel
theorem dL_law_1090 : decode cL_law 1090 = .ok (.aload_n 0, 1) := by decide +kernel
theorem dL_law_1091 : decode cL_law 1091 = .ok (.iload_n 3, 1) := by decide +kernel
theorem dL_law_1092 : decode cL_law 1092 = .ok (.iconst 1, 1) := by decide +kernel
theorem dL_law_1093 : decode cL_law 1093 = .ok (.iadd, 1) := by decide +kernel
theorem dL_law_1094 : decode cL_law 1094 = .ok (.iaload, 1) := by decide +kernel
theorem dL_law_1095 : decode cL_law 1095 = .ok (.aload_n 0, 1) := by decide +kernel
theorem dL_law_1096 : decode cL_law 1096 = .ok (.iload_n 3, 1) := by decide +kernel
theorem dL_law_1097 : decode cL_law 1097 = .ok (.iconst 2, 1) := by decide +kernel
theorem dL_law_1098 : decode cL_law 1098 = .ok (.iadd, 1) := by decide +kernel
theorem dL_law_1099 : decode cL_law 1099 = .ok (.iaload, 1) := by decide +kernel
theorem dL_law_1100 : decode cL_law 1100 = .ok (.i2l, 1) := by decide +kernel
theorem dL_law_1101 : decode cL_law 1101 = .ok (.bipush 32, 2) := by decide +kernel
theorem dL_law_1103 : decode cL_law 1103 = .ok (.lshl, 1) := by decide +kernel
theorem dL_law_1104 : decode cL_law 1104 = .ok (.aload_n 0, 1) := by decide +kernel
theorem dL_law_1105 : decode cL_law 1105 = .ok (.iload_n 3, 1) := by decide +kernel
theorem dL_law_1106 : decode cL_law 1106 = .ok (.iconst 3, 1) := by decide +kernel
theorem dL_law_1107 : decode cL_law 1107 = .ok (.iadd, 1) := by decide +kernel
theorem dL_law_1108 : decode cL_law 1108 = .ok (.iaload, 1) := by decide +kernel
theorem dL_law_1109 : decode cL_law 1109 = .ok (.i2l, 1) := by decide +kernel
theorem dL_law_1110 : decode cL_law 1110 = .ok (.ldc2_w 65, 3) := by decide +kernel
theorem dL_law_1113 : decode cL_law 1113 = .ok (.land, 1) := by decide +kernel
theorem dL_law_1114 : decode cL_law 1114 = .ok (.lor, 1) := by decide +kernel
theorem dL_law_1115 : decode cL_law 1115 = .ok (.invokevirtual 107, 3) := by decide +kernel
theorem dL_law_1118 : decode cL_law 1118 = .ok (.if_icmp .eq 556, 3) := by decide +kernel
theorem dL_law_1121 : decode cL_law 1121 = .ok (.iconst 0, 1) := by decide +kernel
theorem dL_law_1122 : decode cL_law 1122 = .ok (.ireturn, 1) := by decide +kernel
theorem dL_law_1123 : decode cL_law 1123 = .ok (.aload_n 1, 1) := by decide +kernel
theorem dL_law_1124 : decode cL_law 1124 = .ok (.aload_n 0, 1) := by decide +kernel
theorem dL_law_1125 : decode cL_law 1125 = .ok (.iload_n 3, 1) := by decide +kernel
theorem dL_law_1126 : decode cL_law 1126 = .ok (.iconst 1, 1) := by decide +kernel
theorem dL_law_1127 : decode cL_law 1127 = .ok (.iadd, 1) := by decide +kernel
theorem dL_law_1128 : decode cL_law 1128 = .ok (.iaload, 1) := by decide +kernel
theorem dL_law_1129 : decode cL_law 1129 = .ok (.invokevirtual 108, 3) := by decide +kernel
theorem dL_law_1132 : decode cL_law 1132 = .ok (.aload_n 2, 1) := by decide +kernel
theorem dL_law_1133 : decode cL_law 1133 = .ok (.aload_n 0, 1) := by decide +kernel
theorem dL_law_1134 : decode cL_law 1134 = .ok (.iload_n 3, 1) := by decide +kernel
theorem dL_law_1135 : decode cL_law 1135 = .ok (.iconst 1, 1) := by decide +kernel
theorem dL_law_1136 : decode cL_law 1136 = .ok (.iadd, 1) := by decide +kernel
theorem dL_law_1137 : decode cL_law 1137 = .ok (.iaload, 1) := by decide +kernel
theorem dL_law_1138 : decode cL_law 1138 = .ok (.invokevirtual 111, 3) := by decide +kernel
theorem dL_law_1141 : decode cL_law 1141 = .ok (.if_icmp .eq 533, 3) := by decide +kernel
theorem dL_law_1144 : decode cL_law 1144 = .ok (.iconst 0, 1) := by decide +kernel
theorem dL_law_1145 : decode cL_law 1145 = .ok (.ireturn, 1) := by decide +kernel
theorem dL_law_1146 : decode cL_law 1146 = .ok (.aload_n 1, 1) := by decide +kernel
theorem dL_law_1147 : decode cL_law 1147 = .ok (.aload_n 0, 1) := by decide +kernel
theorem dL_law_1148 : decode cL_law 1148 = .ok (.iload_n 3, 1) := by decide +kernel
theorem dL_law_1149 : decode cL_law 1149 = .ok (.iconst 1, 1) := by decide +kernel
theorem dL_law_1150 : decode cL_law 1150 = .ok (.iadd, 1) := by decide +kernel
theorem dL_law_1151 : decode cL_law 1151 = .ok (.iaload, 1) := by decide +kernel
theorem dL_law_1152 : decode cL_law 1152 = .ok (.aload_n 0, 1) := by decide +kernel
theorem dL_law_1153 : decode cL_law 1153 = .ok (.iload_n 3, 1) := by decide +kernel
theorem dL_law_1154 : decode cL_law 1154 = .ok (.iconst 2, 1) := by decide +kernel
theorem dL_law_1155 : decode cL_law 1155 = .ok (.iadd, 1) := by decide +kernel
theorem dL_law_1156 : decode cL_law 1156 = .ok (.iaload, 1) := by decide +kernel
theorem dL_law_1157 : decode cL_law 1157 = .ok (.aload_n 0, 1) := by decide +kernel
theorem dL_law_1158 : decode cL_law 1158 = .ok (.iload_n 3, 1) := by decide +kernel
theorem dL_law_1159 : decode cL_law 1159 = .ok (.iconst 3, 1) := by decide +kernel
theorem dL_law_1160 : decode cL_law 1160 = .ok (.iadd, 1) := by decide +kernel
theorem dL_law_1161 : decode cL_law 1161 = .ok (.iaload, 1) := by decide +kernel
theorem dL_law_1162 : decode cL_law 1162 = .ok (.aload_n 0, 1) := by decide +kernel
theorem dL_law_1163 : decode cL_law 1163 = .ok (.iload_n 3, 1) := by decide +kernel
theorem dL_law_1164 : decode cL_law 1164 = .ok (.iconst 4, 1) := by decide +kernel
theorem dL_law_1165 : decode cL_law 1165 = .ok (.iadd, 1) := by decide +kernel
theorem dL_law_1166 : decode cL_law 1166 = .ok (.iaload, 1) := by decide +kernel
theorem dL_law_1167 : decode cL_law 1167 = .ok (.i2l, 1) := by decide +kernel
theorem dL_law_1168 : decode cL_law 1168 = .ok (.bipush 32, 2) := by decide +kernel
theorem dL_law_1170 : decode cL_law 1170 = .ok (.lshl, 1) := by decide +kernel
theorem dL_law_1171 : decode cL_law 1171 = .ok (.aload_n 0, 1) := by decide +kernel
theorem dL_law_1172 : decode cL_law 1172 = .ok (.iload_n 3, 1) := by decide +kernel
theorem dL_law_1173 : decode cL_law 1173 = .ok (.iconst 5, 1) := by decide +kernel
theorem dL_law_1174 : decode cL_law 1174 = .ok (.iadd, 1) := by decide +kernel
theorem dL_law_1175 : decode cL_law 1175 = .ok (.iaload, 1) := by decide +kernel
theorem dL_law_1176 : decode cL_law 1176 = .ok (.i2l, 1) := by decide +kernel
theorem dL_law_1177 : decode cL_law 1177 = .ok (.ldc2_w 65, 3) := by decide +kernel
theorem dL_law_1180 : decode cL_law 1180 = .ok (.land, 1) := by decide +kernel
theorem dL_law_1181 : decode cL_law 1181 = .ok (.lor, 1) := by decide +kernel
theorem dL_law_1182 : decode cL_law 1182 = .ok (.aload_n 0, 1) := by decide +kernel
theorem dL_law_1183 : decode cL_law 1183 = .ok (.iload_n 3, 1) := by decide +kernel
theorem dL_law_1184 : decode cL_law 1184 = .ok (.bipush 6, 2) := by decide +kernel
theorem dL_law_1186 : decode cL_law 1186 = .ok (.iadd, 1) := by decide +kernel
theorem dL_law_1187 : decode cL_law 1187 = .ok (.iaload, 1) := by decide +kernel
theorem dL_law_1188 : decode cL_law 1188 = .ok (.ifCond .eq 7, 3) := by decide +kernel
theorem dL_law_1191 : decode cL_law 1191 = .ok (.iconst 1, 1) := by decide +kernel
theorem dL_law_1192 : decode cL_law 1192 = .ok (.goto 4, 3) := by decide +kernel
theorem dL_law_1195 : decode cL_law 1195 = .ok (.iconst 0, 1) := by decide +kernel
theorem dL_law_1196 : decode cL_law 1196 = .ok (.invokevirtual 112, 3) := by decide +kernel
theorem dL_law_1199 : decode cL_law 1199 = .ok (.aload_n 2, 1) := by decide +kernel
theorem dL_law_1200 : decode cL_law 1200 = .ok (.aload_n 0, 1) := by decide +kernel
theorem dL_law_1201 : decode cL_law 1201 = .ok (.iload_n 3, 1) := by decide +kernel
theorem dL_law_1202 : decode cL_law 1202 = .ok (.iconst 1, 1) := by decide +kernel
theorem dL_law_1203 : decode cL_law 1203 = .ok (.iadd, 1) := by decide +kernel
theorem dL_law_1204 : decode cL_law 1204 = .ok (.iaload, 1) := by decide +kernel
theorem dL_law_1205 : decode cL_law 1205 = .ok (.aload_n 0, 1) := by decide +kernel
theorem dL_law_1206 : decode cL_law 1206 = .ok (.iload_n 3, 1) := by decide +kernel
theorem dL_law_1207 : decode cL_law 1207 = .ok (.iconst 2, 1) := by decide +kernel
theorem dL_law_1208 : decode cL_law 1208 = .ok (.iadd, 1) := by decide +kernel
theorem dL_law_1209 : decode cL_law 1209 = .ok (.iaload, 1) := by decide +kernel
theorem dL_law_1210 : decode cL_law 1210 = .ok (.aload_n 0, 1) := by decide +kernel
theorem dL_law_1211 : decode cL_law 1211 = .ok (.iload_n 3, 1) := by decide +kernel
theorem dL_law_1212 : decode cL_law 1212 = .ok (.iconst 3, 1) := by decide +kernel
theorem dL_law_1213 : decode cL_law 1213 = .ok (.iadd, 1) := by decide +kernel
theorem dL_law_1214 : decode cL_law 1214 = .ok (.iaload, 1) := by decide +kernel
theorem dL_law_1215 : decode cL_law 1215 = .ok (.aload_n 0, 1) := by decide +kernel
theorem dL_law_1216 : decode cL_law 1216 = .ok (.iload_n 3, 1) := by decide +kernel
theorem dL_law_1217 : decode cL_law 1217 = .ok (.iconst 4, 1) := by decide +kernel
theorem dL_law_1218 : decode cL_law 1218 = .ok (.iadd, 1) := by decide +kernel
theorem dL_law_1219 : decode cL_law 1219 = .ok (.iaload, 1) := by decide +kernel
theorem dL_law_1220 : decode cL_law 1220 = .ok (.i2l, 1) := by decide +kernel
theorem dL_law_1221 : decode cL_law 1221 = .ok (.bipush 32, 2) := by decide +kernel
theorem dL_law_1223 : decode cL_law 1223 = .ok (.lshl, 1) := by decide +kernel
theorem dL_law_1224 : decode cL_law 1224 = .ok (.aload_n 0, 1) := by decide +kernel
theorem dL_law_1225 : decode cL_law 1225 = .ok (.iload_n 3, 1) := by decide +kernel
theorem dL_law_1226 : decode cL_law 1226 = .ok (.iconst 5, 1) := by decide +kernel
theorem dL_law_1227 : decode cL_law 1227 = .ok (.iadd, 1) := by decide +kernel
theorem dL_law_1228 : decode cL_law 1228 = .ok (.iaload, 1) := by decide +kernel
theorem dL_law_1229 : decode cL_law 1229 = .ok (.i2l, 1) := by decide +kernel
theorem dL_law_1230 : decode cL_law 1230 = .ok (.ldc2_w 65, 3) := by decide +kernel
theorem dL_law_1233 : decode cL_law 1233 = .ok (.land, 1) := by decide +kernel
theorem dL_law_1234 : decode cL_law 1234 = .ok (.lor, 1) := by decide +kernel
theorem dL_law_1235 : decode cL_law 1235 = .ok (.aload_n 0, 1) := by decide +kernel
theorem dL_law_1236 : decode cL_law 1236 = .ok (.iload_n 3, 1) := by decide +kernel
theorem dL_law_1237 : decode cL_law 1237 = .ok (.bipush 6, 2) := by decide +kernel
theorem dL_law_1239 : decode cL_law 1239 = .ok (.iadd, 1) := by decide +kernel
theorem dL_law_1240 : decode cL_law 1240 = .ok (.iaload, 1) := by decide +kernel
theorem dL_law_1241 : decode cL_law 1241 = .ok (.ifCond .eq 7, 3) := by decide +kernel
theorem dL_law_1244 : decode cL_law 1244 = .ok (.iconst 1, 1) := by decide +kernel
theorem dL_law_1245 : decode cL_law 1245 = .ok (.goto 4, 3) := by decide +kernel
theorem dL_law_1248 : decode cL_law 1248 = .ok (.iconst 0, 1) := by decide +kernel
theorem dL_law_1249 : decode cL_law 1249 = .ok (.invokevirtual 116, 3) := by decide +kernel
theorem dL_law_1252 : decode cL_law 1252 = .ok (.lcmp, 1) := by decide +kernel
theorem dL_law_1253 : decode cL_law 1253 = .ok (.ifCond .eq 421, 3) := by decide +kernel
theorem dL_law_1256 : decode cL_law 1256 = .ok (.iconst 0, 1) := by decide +kernel
theorem dL_law_1257 : decode cL_law 1257 = .ok (.ireturn, 1) := by decide +kernel
theorem dL_law_1258 : decode cL_law 1258 = .ok (.aload_n 1, 1) := by decide +kernel
theorem dL_law_1259 : decode cL_law 1259 = .ok (.aload_n 0, 1) := by decide +kernel
theorem dL_law_1260 : decode cL_law 1260 = .ok (.iload_n 3, 1) := by decide +kernel
theorem dL_law_1261 : decode cL_law 1261 = .ok (.iconst 1, 1) := by decide +kernel
theorem dL_law_1262 : decode cL_law 1262 = .ok (.iadd, 1) := by decide +kernel
theorem dL_law_1263 : decode cL_law 1263 = .ok (.iaload, 1) := by decide +kernel
theorem dL_law_1264 : decode cL_law 1264 = .ok (.aload_n 0, 1) := by decide +kernel
theorem dL_law_1265 : decode cL_law 1265 = .ok (.iload_n 3, 1) := by decide +kernel
theorem dL_law_1266 : decode cL_law 1266 = .ok (.iconst 2, 1) := by decide +kernel
theorem dL_law_1267 : decode cL_law 1267 = .ok (.iadd, 1) := by decide +kernel
theorem dL_law_1268 : decode cL_law 1268 = .ok (.iaload, 1) := by decide +kernel
theorem dL_law_1269 : decode cL_law 1269 = .ok (.aload_n 0, 1) := by decide +kernel
theorem dL_law_1270 : decode cL_law 1270 = .ok (.iload_n 3, 1) := by decide +kernel
theorem dL_law_1271 : decode cL_law 1271 = .ok (.iconst 3, 1) := by decide +kernel
theorem dL_law_1272 : decode cL_law 1272 = .ok (.iadd, 1) := by decide +kernel
theorem dL_law_1273 : decode cL_law 1273 = .ok (.iaload, 1) := by decide +kernel
theorem dL_law_1274 : decode cL_law 1274 = .ok (.aload_n 0, 1) := by decide +kernel
theorem dL_law_1275 : decode cL_law 1275 = .ok (.iload_n 3, 1) := by decide +kernel
theorem dL_law_1276 : decode cL_law 1276 = .ok (.iconst 4, 1) := by decide +kernel
theorem dL_law_1277 : decode cL_law 1277 = .ok (.iadd, 1) := by decide +kernel
theorem dL_law_1278 : decode cL_law 1278 = .ok (.iaload, 1) := by decide +kernel
theorem dL_law_1279 : decode cL_law 1279 = .ok (.aload_n 0, 1) := by decide +kernel
theorem dL_law_1280 : decode cL_law 1280 = .ok (.iload_n 3, 1) := by decide +kernel
theorem dL_law_1281 : decode cL_law 1281 = .ok (.iconst 5, 1) := by decide +kernel
theorem dL_law_1282 : decode cL_law 1282 = .ok (.iadd, 1) := by decide +kernel
theorem dL_law_1283 : decode cL_law 1283 = .ok (.iaload, 1) := by decide +kernel
theorem dL_law_1284 : decode cL_law 1284 = .ok (.invokevirtual 117, 3) := by decide +kernel
theorem dL_law_1287 : decode cL_law 1287 = .ok (.aload_n 2, 1) := by decide +kernel
theorem dL_law_1288 : decode cL_law 1288 = .ok (.aload_n 0, 1) := by decide +kernel
theorem dL_law_1289 : decode cL_law 1289 = .ok (.iload_n 3, 1) := by decide +kernel
theorem dL_law_1290 : decode cL_law 1290 = .ok (.iconst 1, 1) := by decide +kernel
theorem dL_law_1291 : decode cL_law 1291 = .ok (.iadd, 1) := by decide +kernel
theorem dL_law_1292 : decode cL_law 1292 = .ok (.iaload, 1) := by decide +kernel
theorem dL_law_1293 : decode cL_law 1293 = .ok (.aload_n 0, 1) := by decide +kernel
theorem dL_law_1294 : decode cL_law 1294 = .ok (.iload_n 3, 1) := by decide +kernel
theorem dL_law_1295 : decode cL_law 1295 = .ok (.iconst 2, 1) := by decide +kernel
theorem dL_law_1296 : decode cL_law 1296 = .ok (.iadd, 1) := by decide +kernel
theorem dL_law_1297 : decode cL_law 1297 = .ok (.iaload, 1) := by decide +kernel
theorem dL_law_1298 : decode cL_law 1298 = .ok (.aload_n 0, 1) := by decide +kernel
theorem dL_law_1299 : decode cL_law 1299 = .ok (.iload_n 3, 1) := by decide +kernel
theorem dL_law_1300 : decode cL_law 1300 = .ok (.iconst 3, 1) := by decide +kernel
theorem dL_law_1301 : decode cL_law 1301 = .ok (.iadd, 1) := by decide +kernel
theorem dL_law_1302 : decode cL_law 1302 = .ok (.iaload, 1) := by decide +kernel
theorem dL_law_1303 : decode cL_law 1303 = .ok (.aload_n 0, 1) := by decide +kernel
theorem dL_law_1304 : decode cL_law 1304 = .ok (.iload_n 3, 1) := by decide +kernel
theorem dL_law_1305 : decode cL_law 1305 = .ok (.iconst 4, 1) := by decide +kernel
theorem dL_law_1306 : decode cL_law 1306 = .ok (.iadd, 1) := by decide +kernel
theorem dL_law_1307 : decode cL_law 1307 = .ok (.iaload, 1) := by decide +kernel
theorem dL_law_1308 : decode cL_law 1308 = .ok (.aload_n 0, 1) := by decide +kernel
theorem dL_law_1309 : decode cL_law 1309 = .ok (.iload_n 3, 1) := by decide +kernel
theorem dL_law_1310 : decode cL_law 1310 = .ok (.iconst 5, 1) := by decide +kernel
theorem dL_law_1311 : decode cL_law 1311 = .ok (.iadd, 1) := by decide +kernel
theorem dL_law_1312 : decode cL_law 1312 = .ok (.iaload, 1) := by decide +kernel
theorem dL_law_1313 : decode cL_law 1313 = .ok (.invokevirtual 120, 3) := by decide +kernel
theorem dL_law_1316 : decode cL_law 1316 = .ok (.if_icmp .eq 358, 3) := by decide +kernel
theorem dL_law_1319 : decode cL_law 1319 = .ok (.iconst 0, 1) := by decide +kernel
theorem dL_law_1320 : decode cL_law 1320 = .ok (.ireturn, 1) := by decide +kernel
theorem dL_law_1321 : decode cL_law 1321 = .ok (.aload_n 1, 1) := by decide +kernel
theorem dL_law_1322 : decode cL_law 1322 = .ok (.aload_n 0, 1) := by decide +kernel
theorem dL_law_1323 : decode cL_law 1323 = .ok (.iload_n 3, 1) := by decide +kernel
theorem dL_law_1324 : decode cL_law 1324 = .ok (.iconst 1, 1) := by decide +kernel
theorem dL_law_1325 : decode cL_law 1325 = .ok (.iadd, 1) := by decide +kernel
theorem dL_law_1326 : decode cL_law 1326 = .ok (.iaload, 1) := by decide +kernel
theorem dL_law_1327 : decode cL_law 1327 = .ok (.aload_n 0, 1) := by decide +kernel
theorem dL_law_1328 : decode cL_law 1328 = .ok (.iload_n 3, 1) := by decide +kernel
theorem dL_law_1329 : decode cL_law 1329 = .ok (.iconst 2, 1) := by decide +kernel
theorem dL_law_1330 : decode cL_law 1330 = .ok (.iadd, 1) := by decide +kernel
theorem dL_law_1331 : decode cL_law 1331 = .ok (.iaload, 1) := by decide +kernel
theorem dL_law_1332 : decode cL_law 1332 = .ok (.aload_n 0, 1) := by decide +kernel
theorem dL_law_1333 : decode cL_law 1333 = .ok (.iload_n 3, 1) := by decide +kernel
theorem dL_law_1334 : decode cL_law 1334 = .ok (.iconst 3, 1) := by decide +kernel
theorem dL_law_1335 : decode cL_law 1335 = .ok (.iadd, 1) := by decide +kernel
theorem dL_law_1336 : decode cL_law 1336 = .ok (.iaload, 1) := by decide +kernel
theorem dL_law_1337 : decode cL_law 1337 = .ok (.invokevirtual 121, 3) := by decide +kernel
theorem dL_law_1340 : decode cL_law 1340 = .ok (.aload_n 2, 1) := by decide +kernel
theorem dL_law_1341 : decode cL_law 1341 = .ok (.aload_n 0, 1) := by decide +kernel
theorem dL_law_1342 : decode cL_law 1342 = .ok (.iload_n 3, 1) := by decide +kernel
theorem dL_law_1343 : decode cL_law 1343 = .ok (.iconst 1, 1) := by decide +kernel
theorem dL_law_1344 : decode cL_law 1344 = .ok (.iadd, 1) := by decide +kernel
theorem dL_law_1345 : decode cL_law 1345 = .ok (.iaload, 1) := by decide +kernel
theorem dL_law_1346 : decode cL_law 1346 = .ok (.aload_n 0, 1) := by decide +kernel
theorem dL_law_1347 : decode cL_law 1347 = .ok (.iload_n 3, 1) := by decide +kernel
theorem dL_law_1348 : decode cL_law 1348 = .ok (.iconst 2, 1) := by decide +kernel
theorem dL_law_1349 : decode cL_law 1349 = .ok (.iadd, 1) := by decide +kernel
theorem dL_law_1350 : decode cL_law 1350 = .ok (.iaload, 1) := by decide +kernel
theorem dL_law_1351 : decode cL_law 1351 = .ok (.aload_n 0, 1) := by decide +kernel
theorem dL_law_1352 : decode cL_law 1352 = .ok (.iload_n 3, 1) := by decide +kernel
theorem dL_law_1353 : decode cL_law 1353 = .ok (.iconst 3, 1) := by decide +kernel
theorem dL_law_1354 : decode cL_law 1354 = .ok (.iadd, 1) := by decide +kernel
theorem dL_law_1355 : decode cL_law 1355 = .ok (.iaload, 1) := by decide +kernel
theorem dL_law_1356 : decode cL_law 1356 = .ok (.invokevirtual 124, 3) := by decide +kernel
theorem dL_law_1359 : decode cL_law 1359 = .ok (.if_icmp .eq 315, 3) := by decide +kernel
theorem dL_law_1362 : decode cL_law 1362 = .ok (.iconst 0, 1) := by decide +kernel
theorem dL_law_1363 : decode cL_law 1363 = .ok (.ireturn, 1) := by decide +kernel
theorem dL_law_1364 : decode cL_law 1364 = .ok (.aload_n 1, 1) := by decide +kernel
theorem dL_law_1365 : decode cL_law 1365 = .ok (.aload_n 0, 1) := by decide +kernel
theorem dL_law_1366 : decode cL_law 1366 = .ok (.iload_n 3, 1) := by decide +kernel
theorem dL_law_1367 : decode cL_law 1367 = .ok (.iconst 1, 1) := by decide +kernel
theorem dL_law_1368 : decode cL_law 1368 = .ok (.iadd, 1) := by decide +kernel
theorem dL_law_1369 : decode cL_law 1369 = .ok (.iaload, 1) := by decide +kernel
theorem dL_law_1370 : decode cL_law 1370 = .ok (.aload_n 0, 1) := by decide +kernel
theorem dL_law_1371 : decode cL_law 1371 = .ok (.iload_n 3, 1) := by decide +kernel
theorem dL_law_1372 : decode cL_law 1372 = .ok (.iconst 2, 1) := by decide +kernel
theorem dL_law_1373 : decode cL_law 1373 = .ok (.iadd, 1) := by decide +kernel
theorem dL_law_1374 : decode cL_law 1374 = .ok (.iaload, 1) := by decide +kernel
theorem dL_law_1375 : decode cL_law 1375 = .ok (.aload_n 0, 1) := by decide +kernel
theorem dL_law_1376 : decode cL_law 1376 = .ok (.iload_n 3, 1) := by decide +kernel
theorem dL_law_1377 : decode cL_law 1377 = .ok (.iconst 3, 1) := by decide +kernel
theorem dL_law_1378 : decode cL_law 1378 = .ok (.iadd, 1) := by decide +kernel
theorem dL_law_1379 : decode cL_law 1379 = .ok (.iaload, 1) := by decide +kernel
theorem dL_law_1380 : decode cL_law 1380 = .ok (.invokevirtual 125, 3) := by decide +kernel
theorem dL_law_1383 : decode cL_law 1383 = .ok (.aload_n 2, 1) := by decide +kernel
theorem dL_law_1384 : decode cL_law 1384 = .ok (.aload_n 0, 1) := by decide +kernel
theorem dL_law_1385 : decode cL_law 1385 = .ok (.iload_n 3, 1) := by decide +kernel
theorem dL_law_1386 : decode cL_law 1386 = .ok (.iconst 1, 1) := by decide +kernel
theorem dL_law_1387 : decode cL_law 1387 = .ok (.iadd, 1) := by decide +kernel
theorem dL_law_1388 : decode cL_law 1388 = .ok (.iaload, 1) := by decide +kernel
theorem dL_law_1389 : decode cL_law 1389 = .ok (.aload_n 0, 1) := by decide +kernel
theorem dL_law_1390 : decode cL_law 1390 = .ok (.iload_n 3, 1) := by decide +kernel
theorem dL_law_1391 : decode cL_law 1391 = .ok (.iconst 2, 1) := by decide +kernel
theorem dL_law_1392 : decode cL_law 1392 = .ok (.iadd, 1) := by decide +kernel
theorem dL_law_1393 : decode cL_law 1393 = .ok (.iaload, 1) := by decide +kernel
theorem dL_law_1394 : decode cL_law 1394 = .ok (.aload_n 0, 1) := by decide +kernel
theorem dL_law_1395 : decode cL_law 1395 = .ok (.iload_n 3, 1) := by decide +kernel
theorem dL_law_1396 : decode cL_law 1396 = .ok (.iconst 3, 1) := by decide +kernel
theorem dL_law_1397 : decode cL_law 1397 = .ok (.iadd, 1) := by decide +kernel
theorem dL_law_1398 : decode cL_law 1398 = .ok (.iaload, 1) := by decide +kernel
theorem dL_law_1399 : decode cL_law 1399 = .ok (.invokevirtual 129, 3) := by decide +kernel
theorem dL_law_1402 : decode cL_law 1402 = .ok (.lcmp, 1) := by decide +kernel
theorem dL_law_1403 : decode cL_law 1403 = .ok (.ifCond .eq 271, 3) := by decide +kernel
theorem dL_law_1406 : decode cL_law 1406 = .ok (.iconst 0, 1) := by decide +kernel
theorem dL_law_1407 : decode cL_law 1407 = .ok (.ireturn, 1) := by decide +kernel
theorem dL_law_1408 : decode cL_law 1408 = .ok (.aload_n 1, 1) := by decide +kernel
theorem dL_law_1409 : decode cL_law 1409 = .ok (.aload_n 0, 1) := by decide +kernel
theorem dL_law_1410 : decode cL_law 1410 = .ok (.iload_n 3, 1) := by decide +kernel
theorem dL_law_1411 : decode cL_law 1411 = .ok (.iconst 1, 1) := by decide +kernel
theorem dL_law_1412 : decode cL_law 1412 = .ok (.iadd, 1) := by decide +kernel
theorem dL_law_1413 : decode cL_law 1413 = .ok (.iaload, 1) := by decide +kernel
theorem dL_law_1414 : decode cL_law 1414 = .ok (.aload_n 0, 1) := by decide +kernel
theorem dL_law_1415 : decode cL_law 1415 = .ok (.iload_n 3, 1) := by decide +kernel
theorem dL_law_1416 : decode cL_law 1416 = .ok (.iconst 2, 1) := by decide +kernel
theorem dL_law_1417 : decode cL_law 1417 = .ok (.iadd, 1) := by decide +kernel
theorem dL_law_1418 : decode cL_law 1418 = .ok (.iaload, 1) := by decide +kernel
theorem dL_law_1419 : decode cL_law 1419 = .ok (.aload_n 0, 1) := by decide +kernel
theorem dL_law_1420 : decode cL_law 1420 = .ok (.iload_n 3, 1) := by decide +kernel
theorem dL_law_1421 : decode cL_law 1421 = .ok (.iconst 3, 1) := by decide +kernel
theorem dL_law_1422 : decode cL_law 1422 = .ok (.iadd, 1) := by decide +kernel
theorem dL_law_1423 : decode cL_law 1423 = .ok (.iaload, 1) := by decide +kernel
theorem dL_law_1424 : decode cL_law 1424 = .ok (.invokevirtual 130, 3) := by decide +kernel
theorem dL_law_1427 : decode cL_law 1427 = .ok (.aload_n 2, 1) := by decide +kernel
theorem dL_law_1428 : decode cL_law 1428 = .ok (.aload_n 0, 1) := by decide +kernel
theorem dL_law_1429 : decode cL_law 1429 = .ok (.iload_n 3, 1) := by decide +kernel
theorem dL_law_1430 : decode cL_law 1430 = .ok (.iconst 1, 1) := by decide +kernel
theorem dL_law_1431 : decode cL_law 1431 = .ok (.iadd, 1) := by decide +kernel
theorem dL_law_1432 : decode cL_law 1432 = .ok (.iaload, 1) := by decide +kernel
theorem dL_law_1433 : decode cL_law 1433 = .ok (.aload_n 0, 1) := by decide +kernel
theorem dL_law_1434 : decode cL_law 1434 = .ok (.iload_n 3, 1) := by decide +kernel
theorem dL_law_1435 : decode cL_law 1435 = .ok (.iconst 2, 1) := by decide +kernel
theorem dL_law_1436 : decode cL_law 1436 = .ok (.iadd, 1) := by decide +kernel
theorem dL_law_1437 : decode cL_law 1437 = .ok (.iaload, 1) := by decide +kernel
theorem dL_law_1438 : decode cL_law 1438 = .ok (.aload_n 0, 1) := by decide +kernel
theorem dL_law_1439 : decode cL_law 1439 = .ok (.iload_n 3, 1) := by decide +kernel
theorem dL_law_1440 : decode cL_law 1440 = .ok (.iconst 3, 1) := by decide +kernel
theorem dL_law_1441 : decode cL_law 1441 = .ok (.iadd, 1) := by decide +kernel
theorem dL_law_1442 : decode cL_law 1442 = .ok (.iaload, 1) := by decide +kernel
theorem dL_law_1443 : decode cL_law 1443 = .ok (.invokevirtual 133, 3) := by decide +kernel
theorem dL_law_1446 : decode cL_law 1446 = .ok (.if_icmp .eq 228, 3) := by decide +kernel
theorem dL_law_1449 : decode cL_law 1449 = .ok (.iconst 0, 1) := by decide +kernel
theorem dL_law_1450 : decode cL_law 1450 = .ok (.ireturn, 1) := by decide +kernel
theorem dL_law_1451 : decode cL_law 1451 = .ok (.aload_n 1, 1) := by decide +kernel
theorem dL_law_1452 : decode cL_law 1452 = .ok (.aload_n 0, 1) := by decide +kernel
theorem dL_law_1453 : decode cL_law 1453 = .ok (.iload_n 3, 1) := by decide +kernel
theorem dL_law_1454 : decode cL_law 1454 = .ok (.iconst 1, 1) := by decide +kernel
theorem dL_law_1455 : decode cL_law 1455 = .ok (.iadd, 1) := by decide +kernel
theorem dL_law_1456 : decode cL_law 1456 = .ok (.iaload, 1) := by decide +kernel
theorem dL_law_1457 : decode cL_law 1457 = .ok (.aload_n 0, 1) := by decide +kernel
theorem dL_law_1458 : decode cL_law 1458 = .ok (.iload_n 3, 1) := by decide +kernel
theorem dL_law_1459 : decode cL_law 1459 = .ok (.iconst 2, 1) := by decide +kernel
theorem dL_law_1460 : decode cL_law 1460 = .ok (.iadd, 1) := by decide +kernel
theorem dL_law_1461 : decode cL_law 1461 = .ok (.iaload, 1) := by decide +kernel
theorem dL_law_1462 : decode cL_law 1462 = .ok (.invokevirtual 134, 3) := by decide +kernel
theorem dL_law_1465 : decode cL_law 1465 = .ok (.aload_n 2, 1) := by decide +kernel
theorem dL_law_1466 : decode cL_law 1466 = .ok (.aload_n 0, 1) := by decide +kernel
theorem dL_law_1467 : decode cL_law 1467 = .ok (.iload_n 3, 1) := by decide +kernel
theorem dL_law_1468 : decode cL_law 1468 = .ok (.iconst 1, 1) := by decide +kernel
theorem dL_law_1469 : decode cL_law 1469 = .ok (.iadd, 1) := by decide +kernel
theorem dL_law_1470 : decode cL_law 1470 = .ok (.iaload, 1) := by decide +kernel
theorem dL_law_1471 : decode cL_law 1471 = .ok (.aload_n 0, 1) := by decide +kernel
theorem dL_law_1472 : decode cL_law 1472 = .ok (.iload_n 3, 1) := by decide +kernel
theorem dL_law_1473 : decode cL_law 1473 = .ok (.iconst 2, 1) := by decide +kernel
theorem dL_law_1474 : decode cL_law 1474 = .ok (.iadd, 1) := by decide +kernel
theorem dL_law_1475 : decode cL_law 1475 = .ok (.iaload, 1) := by decide +kernel
theorem dL_law_1476 : decode cL_law 1476 = .ok (.invokevirtual 138, 3) := by decide +kernel
theorem dL_law_1479 : decode cL_law 1479 = .ok (.lcmp, 1) := by decide +kernel
theorem dL_law_1480 : decode cL_law 1480 = .ok (.ifCond .eq 194, 3) := by decide +kernel
theorem dL_law_1483 : decode cL_law 1483 = .ok (.iconst 0, 1) := by decide +kernel
theorem dL_law_1484 : decode cL_law 1484 = .ok (.ireturn, 1) := by decide +kernel
theorem dL_law_1485 : decode cL_law 1485 = .ok (.aload_n 1, 1) := by decide +kernel
theorem dL_law_1486 : decode cL_law 1486 = .ok (.aload_n 0, 1) := by decide +kernel
theorem dL_law_1487 : decode cL_law 1487 = .ok (.iload_n 3, 1) := by decide +kernel
theorem dL_law_1488 : decode cL_law 1488 = .ok (.iconst 1, 1) := by decide +kernel
theorem dL_law_1489 : decode cL_law 1489 = .ok (.iadd, 1) := by decide +kernel
theorem dL_law_1490 : decode cL_law 1490 = .ok (.iaload, 1) := by decide +kernel
theorem dL_law_1491 : decode cL_law 1491 = .ok (.aload_n 0, 1) := by decide +kernel
theorem dL_law_1492 : decode cL_law 1492 = .ok (.iload_n 3, 1) := by decide +kernel
theorem dL_law_1493 : decode cL_law 1493 = .ok (.iconst 2, 1) := by decide +kernel
theorem dL_law_1494 : decode cL_law 1494 = .ok (.iadd, 1) := by decide +kernel
theorem dL_law_1495 : decode cL_law 1495 = .ok (.iaload, 1) := by decide +kernel
theorem dL_law_1496 : decode cL_law 1496 = .ok (.aload_n 0, 1) := by decide +kernel
theorem dL_law_1497 : decode cL_law 1497 = .ok (.iload_n 3, 1) := by decide +kernel
theorem dL_law_1498 : decode cL_law 1498 = .ok (.iconst 3, 1) := by decide +kernel
theorem dL_law_1499 : decode cL_law 1499 = .ok (.iadd, 1) := by decide +kernel
theorem dL_law_1500 : decode cL_law 1500 = .ok (.iaload, 1) := by decide +kernel
theorem dL_law_1501 : decode cL_law 1501 = .ok (.invokevirtual 139, 3) := by decide +kernel
theorem dL_law_1504 : decode cL_law 1504 = .ok (.aload_n 2, 1) := by decide +kernel
theorem dL_law_1505 : decode cL_law 1505 = .ok (.aload_n 0, 1) := by decide +kernel
theorem dL_law_1506 : decode cL_law 1506 = .ok (.iload_n 3, 1) := by decide +kernel
theorem dL_law_1507 : decode cL_law 1507 = .ok (.iconst 1, 1) := by decide +kernel
theorem dL_law_1508 : decode cL_law 1508 = .ok (.iadd, 1) := by decide +kernel
theorem dL_law_1509 : decode cL_law 1509 = .ok (.iaload, 1) := by decide +kernel
theorem dL_law_1510 : decode cL_law 1510 = .ok (.aload_n 0, 1) := by decide +kernel
theorem dL_law_1511 : decode cL_law 1511 = .ok (.iload_n 3, 1) := by decide +kernel
theorem dL_law_1512 : decode cL_law 1512 = .ok (.iconst 2, 1) := by decide +kernel
theorem dL_law_1513 : decode cL_law 1513 = .ok (.iadd, 1) := by decide +kernel
theorem dL_law_1514 : decode cL_law 1514 = .ok (.iaload, 1) := by decide +kernel
theorem dL_law_1515 : decode cL_law 1515 = .ok (.aload_n 0, 1) := by decide +kernel
theorem dL_law_1516 : decode cL_law 1516 = .ok (.iload_n 3, 1) := by decide +kernel
theorem dL_law_1517 : decode cL_law 1517 = .ok (.iconst 3, 1) := by decide +kernel
theorem dL_law_1518 : decode cL_law 1518 = .ok (.iadd, 1) := by decide +kernel
theorem dL_law_1519 : decode cL_law 1519 = .ok (.iaload, 1) := by decide +kernel
theorem dL_law_1520 : decode cL_law 1520 = .ok (.invokevirtual 142, 3) := by decide +kernel
theorem dL_law_1523 : decode cL_law 1523 = .ok (.if_icmp .eq 151, 3) := by decide +kernel
theorem dL_law_1526 : decode cL_law 1526 = .ok (.iconst 0, 1) := by decide +kernel
theorem dL_law_1527 : decode cL_law 1527 = .ok (.ireturn, 1) := by decide +kernel
theorem dL_law_1528 : decode cL_law 1528 = .ok (.aload_n 1, 1) := by decide +kernel
theorem dL_law_1529 : decode cL_law 1529 = .ok (.aload_n 0, 1) := by decide +kernel
theorem dL_law_1530 : decode cL_law 1530 = .ok (.iload_n 3, 1) := by decide +kernel
theorem dL_law_1531 : decode cL_law 1531 = .ok (.iconst 1, 1) := by decide +kernel
theorem dL_law_1532 : decode cL_law 1532 = .ok (.iadd, 1) := by decide +kernel
theorem dL_law_1533 : decode cL_law 1533 = .ok (.iaload, 1) := by decide +kernel
theorem dL_law_1534 : decode cL_law 1534 = .ok (.aload_n 0, 1) := by decide +kernel
theorem dL_law_1535 : decode cL_law 1535 = .ok (.iload_n 3, 1) := by decide +kernel
theorem dL_law_1536 : decode cL_law 1536 = .ok (.iconst 2, 1) := by decide +kernel
theorem dL_law_1537 : decode cL_law 1537 = .ok (.iadd, 1) := by decide +kernel
theorem dL_law_1538 : decode cL_law 1538 = .ok (.iaload, 1) := by decide +kernel
theorem dL_law_1539 : decode cL_law 1539 = .ok (.aload_n 0, 1) := by decide +kernel
theorem dL_law_1540 : decode cL_law 1540 = .ok (.iload_n 3, 1) := by decide +kernel
theorem dL_law_1541 : decode cL_law 1541 = .ok (.iconst 3, 1) := by decide +kernel
theorem dL_law_1542 : decode cL_law 1542 = .ok (.iadd, 1) := by decide +kernel
theorem dL_law_1543 : decode cL_law 1543 = .ok (.iaload, 1) := by decide +kernel
theorem dL_law_1544 : decode cL_law 1544 = .ok (.invokevirtual 143, 3) := by decide +kernel
theorem dL_law_1547 : decode cL_law 1547 = .ok (.aload_n 2, 1) := by decide +kernel
theorem dL_law_1548 : decode cL_law 1548 = .ok (.aload_n 0, 1) := by decide +kernel
theorem dL_law_1549 : decode cL_law 1549 = .ok (.iload_n 3, 1) := by decide +kernel
theorem dL_law_1550 : decode cL_law 1550 = .ok (.iconst 1, 1) := by decide +kernel
theorem dL_law_1551 : decode cL_law 1551 = .ok (.iadd, 1) := by decide +kernel
theorem dL_law_1552 : decode cL_law 1552 = .ok (.iaload, 1) := by decide +kernel
theorem dL_law_1553 : decode cL_law 1553 = .ok (.aload_n 0, 1) := by decide +kernel
theorem dL_law_1554 : decode cL_law 1554 = .ok (.iload_n 3, 1) := by decide +kernel
theorem dL_law_1555 : decode cL_law 1555 = .ok (.iconst 2, 1) := by decide +kernel
theorem dL_law_1556 : decode cL_law 1556 = .ok (.iadd, 1) := by decide +kernel
theorem dL_law_1557 : decode cL_law 1557 = .ok (.iaload, 1) := by decide +kernel
theorem dL_law_1558 : decode cL_law 1558 = .ok (.aload_n 0, 1) := by decide +kernel
theorem dL_law_1559 : decode cL_law 1559 = .ok (.iload_n 3, 1) := by decide +kernel
theorem dL_law_1560 : decode cL_law 1560 = .ok (.iconst 3, 1) := by decide +kernel
theorem dL_law_1561 : decode cL_law 1561 = .ok (.iadd, 1) := by decide +kernel
theorem dL_law_1562 : decode cL_law 1562 = .ok (.iaload, 1) := by decide +kernel
theorem dL_law_1563 : decode cL_law 1563 = .ok (.invokevirtual 146, 3) := by decide +kernel
theorem dL_law_1566 : decode cL_law 1566 = .ok (.lcmp, 1) := by decide +kernel
theorem dL_law_1567 : decode cL_law 1567 = .ok (.ifCond .eq 107, 3) := by decide +kernel
theorem dL_law_1570 : decode cL_law 1570 = .ok (.iconst 0, 1) := by decide +kernel
theorem dL_law_1571 : decode cL_law 1571 = .ok (.ireturn, 1) := by decide +kernel
theorem dL_law_1572 : decode cL_law 1572 = .ok (.aload_n 1, 1) := by decide +kernel
theorem dL_law_1573 : decode cL_law 1573 = .ok (.aload_n 0, 1) := by decide +kernel
theorem dL_law_1574 : decode cL_law 1574 = .ok (.iload_n 3, 1) := by decide +kernel
theorem dL_law_1575 : decode cL_law 1575 = .ok (.iconst 1, 1) := by decide +kernel
theorem dL_law_1576 : decode cL_law 1576 = .ok (.iadd, 1) := by decide +kernel
theorem dL_law_1577 : decode cL_law 1577 = .ok (.iaload, 1) := by decide +kernel
theorem dL_law_1578 : decode cL_law 1578 = .ok (.aload_n 0, 1) := by decide +kernel
theorem dL_law_1579 : decode cL_law 1579 = .ok (.iload_n 3, 1) := by decide +kernel
theorem dL_law_1580 : decode cL_law 1580 = .ok (.iconst 2, 1) := by decide +kernel
theorem dL_law_1581 : decode cL_law 1581 = .ok (.iadd, 1) := by decide +kernel
theorem dL_law_1582 : decode cL_law 1582 = .ok (.iaload, 1) := by decide +kernel
theorem dL_law_1583 : decode cL_law 1583 = .ok (.aload_n 0, 1) := by decide +kernel
theorem dL_law_1584 : decode cL_law 1584 = .ok (.iload_n 3, 1) := by decide +kernel
theorem dL_law_1585 : decode cL_law 1585 = .ok (.iconst 3, 1) := by decide +kernel
theorem dL_law_1586 : decode cL_law 1586 = .ok (.iadd, 1) := by decide +kernel
theorem dL_law_1587 : decode cL_law 1587 = .ok (.iaload, 1) := by decide +kernel
theorem dL_law_1588 : decode cL_law 1588 = .ok (.aload_n 0, 1) := by decide +kernel
theorem dL_law_1589 : decode cL_law 1589 = .ok (.iload_n 3, 1) := by decide +kernel
theorem dL_law_1590 : decode cL_law 1590 = .ok (.iconst 4, 1) := by decide +kernel
theorem dL_law_1591 : decode cL_law 1591 = .ok (.iadd, 1) := by decide +kernel
theorem dL_law_1592 : decode cL_law 1592 = .ok (.iaload, 1) := by decide +kernel
theorem dL_law_1593 : decode cL_law 1593 = .ok (.invokevirtual 147, 3) := by decide +kernel
theorem dL_law_1596 : decode cL_law 1596 = .ok (.aload_n 2, 1) := by decide +kernel
theorem dL_law_1597 : decode cL_law 1597 = .ok (.aload_n 0, 1) := by decide +kernel
theorem dL_law_1598 : decode cL_law 1598 = .ok (.iload_n 3, 1) := by decide +kernel
theorem dL_law_1599 : decode cL_law 1599 = .ok (.iconst 1, 1) := by decide +kernel
theorem dL_law_1600 : decode cL_law 1600 = .ok (.iadd, 1) := by decide +kernel
theorem dL_law_1601 : decode cL_law 1601 = .ok (.iaload, 1) := by decide +kernel
theorem dL_law_1602 : decode cL_law 1602 = .ok (.aload_n 0, 1) := by decide +kernel
theorem dL_law_1603 : decode cL_law 1603 = .ok (.iload_n 3, 1) := by decide +kernel
theorem dL_law_1604 : decode cL_law 1604 = .ok (.iconst 2, 1) := by decide +kernel
theorem dL_law_1605 : decode cL_law 1605 = .ok (.iadd, 1) := by decide +kernel
theorem dL_law_1606 : decode cL_law 1606 = .ok (.iaload, 1) := by decide +kernel
theorem dL_law_1607 : decode cL_law 1607 = .ok (.aload_n 0, 1) := by decide +kernel
theorem dL_law_1608 : decode cL_law 1608 = .ok (.iload_n 3, 1) := by decide +kernel
theorem dL_law_1609 : decode cL_law 1609 = .ok (.iconst 3, 1) := by decide +kernel
theorem dL_law_1610 : decode cL_law 1610 = .ok (.iadd, 1) := by decide +kernel
theorem dL_law_1611 : decode cL_law 1611 = .ok (.iaload, 1) := by decide +kernel
theorem dL_law_1612 : decode cL_law 1612 = .ok (.aload_n 0, 1) := by decide +kernel
theorem dL_law_1613 : decode cL_law 1613 = .ok (.iload_n 3, 1) := by decide +kernel
theorem dL_law_1614 : decode cL_law 1614 = .ok (.iconst 4, 1) := by decide +kernel
theorem dL_law_1615 : decode cL_law 1615 = .ok (.iadd, 1) := by decide +kernel
theorem dL_law_1616 : decode cL_law 1616 = .ok (.iaload, 1) := by decide +kernel
theorem dL_law_1617 : decode cL_law 1617 = .ok (.invokevirtual 150, 3) := by decide +kernel
theorem dL_law_1620 : decode cL_law 1620 = .ok (.if_icmp .eq 54, 3) := by decide +kernel
theorem dL_law_1623 : decode cL_law 1623 = .ok (.iconst 0, 1) := by decide +kernel
theorem dL_law_1624 : decode cL_law 1624 = .ok (.ireturn, 1) := by decide +kernel
theorem dL_law_1625 : decode cL_law 1625 = .ok (.aload_n 1, 1) := by decide +kernel
theorem dL_law_1626 : decode cL_law 1626 = .ok (.invokevirtual 151, 3) := by decide +kernel
theorem dL_law_1629 : decode cL_law 1629 = .ok (.aload_n 2, 1) := by decide +kernel
theorem dL_law_1630 : decode cL_law 1630 = .ok (.invokevirtual 154, 3) := by decide +kernel
theorem dL_law_1633 : decode cL_law 1633 = .ok (.if_icmp .eq 41, 3) := by decide +kernel
theorem dL_law_1636 : decode cL_law 1636 = .ok (.iconst 0, 1) := by decide +kernel
theorem dL_law_1637 : decode cL_law 1637 = .ok (.ireturn, 1) := by decide +kernel
theorem dL_law_1638 : decode cL_law 1638 = .ok (.aload_n 1, 1) := by decide +kernel
theorem dL_law_1639 : decode cL_law 1639 = .ok (.invokevirtual 155, 3) := by decide +kernel
theorem dL_law_1642 : decode cL_law 1642 = .ok (.aload_n 2, 1) := by decide +kernel
theorem dL_law_1643 : decode cL_law 1643 = .ok (.invokevirtual 158, 3) := by decide +kernel
theorem dL_law_1646 : decode cL_law 1646 = .ok (.if_icmp .eq 28, 3) := by decide +kernel
theorem dL_law_1649 : decode cL_law 1649 = .ok (.iconst 0, 1) := by decide +kernel
theorem dL_law_1650 : decode cL_law 1650 = .ok (.ireturn, 1) := by decide +kernel
theorem dL_law_1651 : decode cL_law 1651 = .ok (.aload_n 1, 1) := by decide +kernel
theorem dL_law_1652 : decode cL_law 1652 = .ok (.aload_n 0, 1) := by decide +kernel
theorem dL_law_1653 : decode cL_law 1653 = .ok (.iload_n 3, 1) := by decide +kernel
theorem dL_law_1654 : decode cL_law 1654 = .ok (.iconst 1, 1) := by decide +kernel
theorem dL_law_1655 : decode cL_law 1655 = .ok (.iadd, 1) := by decide +kernel
theorem dL_law_1656 : decode cL_law 1656 = .ok (.iaload, 1) := by decide +kernel
theorem dL_law_1657 : decode cL_law 1657 = .ok (.invokevirtual 159, 3) := by decide +kernel
theorem dL_law_1660 : decode cL_law 1660 = .ok (.aload_n 2, 1) := by decide +kernel
theorem dL_law_1661 : decode cL_law 1661 = .ok (.aload_n 0, 1) := by decide +kernel
theorem dL_law_1662 : decode cL_law 1662 = .ok (.iload_n 3, 1) := by decide +kernel
theorem dL_law_1663 : decode cL_law 1663 = .ok (.iconst 1, 1) := by decide +kernel
theorem dL_law_1664 : decode cL_law 1664 = .ok (.iadd, 1) := by decide +kernel
theorem dL_law_1665 : decode cL_law 1665 = .ok (.iaload, 1) := by decide +kernel
theorem dL_law_1666 : decode cL_law 1666 = .ok (.invokevirtual 162, 3) := by decide +kernel
theorem dL_law_1669 : decode cL_law 1669 = .ok (.if_icmp .eq 5, 3) := by decide +kernel
theorem dL_law_1672 : decode cL_law 1672 = .ok (.iconst 0, 1) := by decide +kernel
theorem dL_law_1673 : decode cL_law 1673 = .ok (.ireturn, 1) := by decide +kernel
theorem dL_law_1674 : decode cL_law 1674 = .ok (.iinc 3 7, 3) := by decide +kernel
theorem dL_law_1677 : decode cL_law 1677 = .ok (.goto (-1659), 3) := by decide +kernel
theorem dL_law_1680 : decode cL_law 1680 = .ok (.iconst 1, 1) := by decide +kernel
theorem dL_law_1681 : decode cL_law 1681 = .ok (.ireturn, 1) := by decide +kernel
