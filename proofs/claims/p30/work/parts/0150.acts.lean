theorem dL_acts_0 : decode cL_acts 0 = .ok (.iload 5, 2) := by decide +kernel
theorem dL_acts_2 : decode cL_acts 2 = .ok (.bipush 24, 2) := by decide +kernel
theorem dL_acts_4 : decode cL_acts 4 = .ok (.invokestatic 142, 3) := by decide +kernel
theorem dL_acts_7 : decode cL_acts 7 = .ok (.istore 7, 2) := by decide +kernel
theorem dL_acts_9 : decode cL_acts 9 = .ok (.iload 6, 2) := by decide +kernel
theorem dL_acts_11 : decode cL_acts 11 = .ok (.iload 6, 2) := by decide +kernel
theorem dL_acts_13 : decode cL_acts 13 = .ok (.bipush 20, 2) := by decide +kernel
theorem dL_acts_15 : decode cL_acts 15 = .ok (.ishr, 1) := by decide +kernel
theorem dL_acts_16 : decode cL_acts 16 = .ok (.iconst 4, 1) := by decide +kernel
theorem dL_acts_17 : decode cL_acts 17 = .ok (.invokestatic 142, 3) := by decide +kernel
theorem dL_acts_20 : decode cL_acts 20 = .ok (.ifCond .ne 8, 3) := by decide +kernel
theorem dL_acts_23 : decode cL_acts 23 = .ok (.bipush 16, 2) := by decide +kernel
theorem dL_acts_25 : decode cL_acts 25 = .ok (.goto 5, 3) := by decide +kernel
theorem dL_acts_28 : decode cL_acts 28 = .ok (.bipush 6, 2) := by decide +kernel
theorem dL_acts_30 : decode cL_acts 30 = .ok (.invokestatic 142, 3) := by decide +kernel
theorem dL_acts_33 : decode cL_acts 33 = .ok (.istore 8, 2) := by decide +kernel
theorem dL_acts_35 : decode cL_acts 35 = .ok (.aload_n 0, 1) := by decide +kernel
theorem dL_acts_36 : decode cL_acts 36 = .ok (.iload 8, 2) := by decide +kernel
theorem dL_acts_38 : decode cL_acts 38 = .ok (.invokestatic 109, 3) := by decide +kernel
theorem dL_acts_41 : decode cL_acts 41 = .ok (.istore 9, 2) := by decide +kernel
theorem dL_acts_43 : decode cL_acts 43 = .ok (.iload 7, 2) := by decide +kernel
theorem dL_acts_45 : decode cL_acts 45 = .ok (.iconst 3, 1) := by decide +kernel
theorem dL_acts_46 : decode cL_acts 46 = .ok (.if_icmp .ge 251, 3) := by decide +kernel
theorem dL_acts_49 : decode cL_acts 49 = .ok (.iload 6, 2) := by decide +kernel
theorem dL_acts_51 : decode cL_acts 51 = .ok (.bipush 8, 2) := by decide +kernel
theorem dL_acts_53 : decode cL_acts 53 = .ok (.invokestatic 142, 3) := by decide +kernel
theorem dL_acts_56 : decode cL_acts 56 = .ok (.istore 10, 2) := by decide +kernel
theorem dL_acts_58 : decode cL_acts 58 = .ok (.iconst 5, 1) := by decide +kernel
theorem dL_acts_59 : decode cL_acts 59 = .ok (.newarray .int, 2) := by decide +kernel
theorem dL_acts_61 : decode cL_acts 61 = .ok (.astore 11, 2) := by decide +kernel
theorem dL_acts_63 : decode cL_acts 63 = .ok (.aload 11, 2) := by decide +kernel
theorem dL_acts_65 : decode cL_acts 65 = .ok (.iconst 0, 1) := by decide +kernel
theorem dL_acts_66 : decode cL_acts 66 = .ok (.iload 6, 2) := by decide +kernel
theorem dL_acts_68 : decode cL_acts 68 = .ok (.iconst 3, 1) := by decide +kernel
theorem dL_acts_69 : decode cL_acts 69 = .ok (.ishr, 1) := by decide +kernel
theorem dL_acts_70 : decode cL_acts 70 = .ok (.bipush 10, 2) := by decide +kernel
theorem dL_acts_72 : decode cL_acts 72 = .ok (.invokestatic 142, 3) := by decide +kernel
theorem dL_acts_75 : decode cL_acts 75 = .ok (.iastore, 1) := by decide +kernel
theorem dL_acts_76 : decode cL_acts 76 = .ok (.aload 11, 2) := by decide +kernel
theorem dL_acts_78 : decode cL_acts 78 = .ok (.iconst 1, 1) := by decide +kernel
theorem dL_acts_79 : decode cL_acts 79 = .ok (.iload 6, 2) := by decide +kernel
theorem dL_acts_81 : decode cL_acts 81 = .ok (.bipush 7, 2) := by decide +kernel
theorem dL_acts_83 : decode cL_acts 83 = .ok (.ishr, 1) := by decide +kernel
theorem dL_acts_84 : decode cL_acts 84 = .ok (.bipush 60, 2) := by decide +kernel
theorem dL_acts_86 : decode cL_acts 86 = .ok (.invokestatic 142, 3) := by decide +kernel
theorem dL_acts_89 : decode cL_acts 89 = .ok (.iastore, 1) := by decide +kernel
theorem dL_acts_90 : decode cL_acts 90 = .ok (.aload 11, 2) := by decide +kernel
theorem dL_acts_92 : decode cL_acts 92 = .ok (.iconst 2, 1) := by decide +kernel
theorem dL_acts_93 : decode cL_acts 93 = .ok (.bipush 15, 2) := by decide +kernel
theorem dL_acts_95 : decode cL_acts 95 = .ok (.iconst 1, 1) := by decide +kernel
theorem dL_acts_96 : decode cL_acts 96 = .ok (.iload 6, 2) := by decide +kernel
theorem dL_acts_98 : decode cL_acts 98 = .ok (.bipush 13, 2) := by decide +kernel
theorem dL_acts_100 : decode cL_acts 100 = .ok (.ishr, 1) := by decide +kernel
theorem dL_acts_101 : decode cL_acts 101 = .ok (.bipush 6, 2) := by decide +kernel
theorem dL_acts_103 : decode cL_acts 103 = .ok (.invokestatic 142, 3) := by decide +kernel
theorem dL_acts_106 : decode cL_acts 106 = .ok (.ishl, 1) := by decide +kernel
theorem dL_acts_107 : decode cL_acts 107 = .ok (.iconst (-1), 1) := by decide +kernel
theorem dL_acts_108 : decode cL_acts 108 = .ok (.ixor, 1) := by decide +kernel
theorem dL_acts_109 : decode cL_acts 109 = .ok (.iand, 1) := by decide +kernel
theorem dL_acts_110 : decode cL_acts 110 = .ok (.iastore, 1) := by decide +kernel
theorem dL_acts_111 : decode cL_acts 111 = .ok (.aload 11, 2) := by decide +kernel
theorem dL_acts_113 : decode cL_acts 113 = .ok (.iconst 3, 1) := by decide +kernel
theorem dL_acts_114 : decode cL_acts 114 = .ok (.iload 6, 2) := by decide +kernel
theorem dL_acts_116 : decode cL_acts 116 = .ok (.bipush 16, 2) := by decide +kernel
theorem dL_acts_118 : decode cL_acts 118 = .ok (.ishr, 1) := by decide +kernel
theorem dL_acts_119 : decode cL_acts 119 = .ok (.iconst 3, 1) := by decide +kernel
theorem dL_acts_120 : decode cL_acts 120 = .ok (.invokestatic 142, 3) := by decide +kernel
theorem dL_acts_123 : decode cL_acts 123 = .ok (.ifCond .ne 15, 3) := by decide +kernel
theorem dL_acts_126 : decode cL_acts 126 = .ok (.iload 6, 2) := by decide +kernel
theorem dL_acts_128 : decode cL_acts 128 = .ok (.bipush 18, 2) := by decide +kernel
theorem dL_acts_130 : decode cL_acts 130 = .ok (.ishr, 1) := by decide +kernel
theorem dL_acts_131 : decode cL_acts 131 = .ok (.iconst 4, 1) := by decide +kernel
theorem dL_acts_132 : decode cL_acts 132 = .ok (.invokestatic 142, 3) := by decide +kernel
theorem dL_acts_135 : decode cL_acts 135 = .ok (.goto 4, 3) := by decide +kernel
theorem dL_acts_138 : decode cL_acts 138 = .ok (.iconst 0, 1) := by decide +kernel
theorem dL_acts_139 : decode cL_acts 139 = .ok (.iastore, 1) := by decide +kernel
theorem dL_acts_140 : decode cL_acts 140 = .ok (.aload 11, 2) := by decide +kernel
theorem dL_acts_142 : decode cL_acts 142 = .ok (.iconst 4, 1) := by decide +kernel
theorem dL_acts_143 : decode cL_acts 143 = .ok (.iload 6, 2) := by decide +kernel
theorem dL_acts_145 : decode cL_acts 145 = .ok (.bipush 20, 2) := by decide +kernel
theorem dL_acts_147 : decode cL_acts 147 = .ok (.ishr, 1) := by decide +kernel
theorem dL_acts_148 : decode cL_acts 148 = .ok (.iconst 3, 1) := by decide +kernel
theorem dL_acts_149 : decode cL_acts 149 = .ok (.invokestatic 142, 3) := by decide +kernel
theorem dL_acts_152 : decode cL_acts 152 = .ok (.ifCond .ne 17, 3) := by decide +kernel
theorem dL_acts_155 : decode cL_acts 155 = .ok (.iconst 1, 1) := by decide +kernel
theorem dL_acts_156 : decode cL_acts 156 = .ok (.iload 6, 2) := by decide +kernel
theorem dL_acts_158 : decode cL_acts 158 = .ok (.bipush 22, 2) := by decide +kernel
theorem dL_acts_160 : decode cL_acts 160 = .ok (.ishr, 1) := by decide +kernel
theorem dL_acts_161 : decode cL_acts 161 = .ok (.iconst 4, 1) := by decide +kernel
theorem dL_acts_162 : decode cL_acts 162 = .ok (.invokestatic 142, 3) := by decide +kernel
theorem dL_acts_165 : decode cL_acts 165 = .ok (.ishl, 1) := by decide +kernel
theorem dL_acts_166 : decode cL_acts 166 = .ok (.goto 4, 3) := by decide +kernel
theorem dL_acts_169 : decode cL_acts 169 = .ok (.iconst 0, 1) := by decide +kernel
theorem dL_acts_170 : decode cL_acts 170 = .ok (.iastore, 1) := by decide +kernel
theorem dL_acts_171 : decode cL_acts 171 = .ok (.aload_n 3, 1) := by decide +kernel
theorem dL_acts_172 : decode cL_acts 172 = .ok (.bipush 6, 2) := by decide +kernel
theorem dL_acts_174 : decode cL_acts 174 = .ok (.iload 10, 2) := by decide +kernel
theorem dL_acts_176 : decode cL_acts 176 = .ok (.imul, 1) := by decide +kernel
theorem dL_acts_177 : decode cL_acts 177 = .ok (.iconst 5, 1) := by decide +kernel
theorem dL_acts_178 : decode cL_acts 178 = .ok (.iadd, 1) := by decide +kernel
theorem dL_acts_179 : decode cL_acts 179 = .ok (.aload_n 3, 1) := by decide +kernel
theorem dL_acts_180 : decode cL_acts 180 = .ok (.bipush 6, 2) := by decide +kernel
theorem dL_acts_182 : decode cL_acts 182 = .ok (.iload 10, 2) := by decide +kernel
theorem dL_acts_184 : decode cL_acts 184 = .ok (.imul, 1) := by decide +kernel
theorem dL_acts_185 : decode cL_acts 185 = .ok (.iaload, 1) := by decide +kernel
theorem dL_acts_186 : decode cL_acts 186 = .ok (.ifCond .ge 7, 3) := by decide +kernel
theorem dL_acts_189 : decode cL_acts 189 = .ok (.iconst 2, 1) := by decide +kernel
theorem dL_acts_190 : decode cL_acts 190 = .ok (.goto 12, 3) := by decide +kernel
theorem dL_acts_193 : decode cL_acts 193 = .ok (.aload_n 3, 1) := by decide +kernel
theorem dL_acts_194 : decode cL_acts 194 = .ok (.bipush 6, 2) := by decide +kernel
theorem dL_acts_196 : decode cL_acts 196 = .ok (.iload 10, 2) := by decide +kernel
theorem dL_acts_198 : decode cL_acts 198 = .ok (.imul, 1) := by decide +kernel
theorem dL_acts_199 : decode cL_acts 199 = .ok (.iconst 5, 1) := by decide +kernel
theorem dL_acts_200 : decode cL_acts 200 = .ok (.iadd, 1) := by decide +kernel
theorem dL_acts_201 : decode cL_acts 201 = .ok (.iaload, 1) := by decide +kernel
theorem dL_acts_202 : decode cL_acts 202 = .ok (.iastore, 1) := by decide +kernel
theorem dL_acts_203 : decode cL_acts 203 = .ok (.iconst 0, 1) := by decide +kernel
theorem dL_acts_204 : decode cL_acts 204 = .ok (.istore 12, 2) := by decide +kernel
theorem dL_acts_206 : decode cL_acts 206 = .ok (.iload 12, 2) := by decide +kernel
theorem dL_acts_208 : decode cL_acts 208 = .ok (.iconst 5, 1) := by decide +kernel
theorem dL_acts_209 : decode cL_acts 209 = .ok (.if_icmp .ge 24, 3) := by decide +kernel
theorem dL_acts_212 : decode cL_acts 212 = .ok (.aload_n 3, 1) := by decide +kernel
theorem dL_acts_213 : decode cL_acts 213 = .ok (.bipush 6, 2) := by decide +kernel
theorem dL_acts_215 : decode cL_acts 215 = .ok (.iload 10, 2) := by decide +kernel
theorem dL_acts_217 : decode cL_acts 217 = .ok (.imul, 1) := by decide +kernel
theorem dL_acts_218 : decode cL_acts 218 = .ok (.iload 12, 2) := by decide +kernel
theorem dL_acts_220 : decode cL_acts 220 = .ok (.iadd, 1) := by decide +kernel
theorem dL_acts_221 : decode cL_acts 221 = .ok (.aload 11, 2) := by decide +kernel
theorem dL_acts_223 : decode cL_acts 223 = .ok (.iload 12, 2) := by decide +kernel
theorem dL_acts_225 : decode cL_acts 225 = .ok (.iaload, 1) := by decide +kernel
theorem dL_acts_226 : decode cL_acts 226 = .ok (.iastore, 1) := by decide +kernel
theorem dL_acts_227 : decode cL_acts 227 = .ok (.iinc 12 1, 3) := by decide +kernel
theorem dL_acts_230 : decode cL_acts 230 = .ok (.goto (-24), 3) := by decide +kernel
theorem dL_acts_233 : decode cL_acts 233 = .ok (.aload_n 0, 1) := by decide +kernel
theorem dL_acts_234 : decode cL_acts 234 = .ok (.iload 10, 2) := by decide +kernel
theorem dL_acts_236 : decode cL_acts 236 = .ok (.aload 11, 2) := by decide +kernel
theorem dL_acts_238 : decode cL_acts 238 = .ok (.iconst 0, 1) := by decide +kernel
theorem dL_acts_239 : decode cL_acts 239 = .ok (.iaload, 1) := by decide +kernel
theorem dL_acts_240 : decode cL_acts 240 = .ok (.aload 11, 2) := by decide +kernel
theorem dL_acts_242 : decode cL_acts 242 = .ok (.iconst 1, 1) := by decide +kernel
theorem dL_acts_243 : decode cL_acts 243 = .ok (.iaload, 1) := by decide +kernel
theorem dL_acts_244 : decode cL_acts 244 = .ok (.aload 11, 2) := by decide +kernel
theorem dL_acts_246 : decode cL_acts 246 = .ok (.iconst 2, 1) := by decide +kernel
theorem dL_acts_247 : decode cL_acts 247 = .ok (.iaload, 1) := by decide +kernel
theorem dL_acts_248 : decode cL_acts 248 = .ok (.aload 11, 2) := by decide +kernel
theorem dL_acts_250 : decode cL_acts 250 = .ok (.iconst 3, 1) := by decide +kernel
theorem dL_acts_251 : decode cL_acts 251 = .ok (.iaload, 1) := by decide +kernel
theorem dL_acts_252 : decode cL_acts 252 = .ok (.aload 11, 2) := by decide +kernel
theorem dL_acts_254 : decode cL_acts 254 = .ok (.iconst 4, 1) := by decide +kernel
theorem dL_acts_255 : decode cL_acts 255 = .ok (.iaload, 1) := by decide +kernel
theorem dL_acts_256 : decode cL_acts 256 = .ok (.invokestatic 145, 3) := by decide +kernel
theorem dL_acts_259 : decode cL_acts 259 = .ok (.ifCond .ne 36, 3) := by decide +kernel
theorem dL_acts_262 : decode cL_acts 262 = .ok (.aload_n 1, 1) := by decide +kernel
theorem dL_acts_263 : decode cL_acts 263 = .ok (.iload 10, 2) := by decide +kernel
theorem dL_acts_265 : decode cL_acts 265 = .ok (.aload 11, 2) := by decide +kernel
theorem dL_acts_267 : decode cL_acts 267 = .ok (.iconst 0, 1) := by decide +kernel
theorem dL_acts_268 : decode cL_acts 268 = .ok (.iaload, 1) := by decide +kernel
theorem dL_acts_269 : decode cL_acts 269 = .ok (.aload 11, 2) := by decide +kernel
theorem dL_acts_271 : decode cL_acts 271 = .ok (.iconst 1, 1) := by decide +kernel
theorem dL_acts_272 : decode cL_acts 272 = .ok (.iaload, 1) := by decide +kernel
theorem dL_acts_273 : decode cL_acts 273 = .ok (.aload 11, 2) := by decide +kernel
theorem dL_acts_275 : decode cL_acts 275 = .ok (.iconst 2, 1) := by decide +kernel
theorem dL_acts_276 : decode cL_acts 276 = .ok (.iaload, 1) := by decide +kernel
theorem dL_acts_277 : decode cL_acts 277 = .ok (.aload 11, 2) := by decide +kernel
theorem dL_acts_279 : decode cL_acts 279 = .ok (.iconst 3, 1) := by decide +kernel
theorem dL_acts_280 : decode cL_acts 280 = .ok (.iaload, 1) := by decide +kernel
theorem dL_acts_281 : decode cL_acts 281 = .ok (.aload 11, 2) := by decide +kernel
theorem dL_acts_283 : decode cL_acts 283 = .ok (.iconst 4, 1) := by decide +kernel
theorem dL_acts_284 : decode cL_acts 284 = .ok (.iaload, 1) := by decide +kernel
theorem dL_acts_285 : decode cL_acts 285 = .ok (.invokestatic 145, 3) := by decide +kernel
theorem dL_acts_288 : decode cL_acts 288 = .ok (.ifCond .ne 7, 3) := by decide +kernel
theorem dL_acts_291 : decode cL_acts 291 = .ok (.iconst 1, 1) := by decide +kernel
theorem dL_acts_292 : decode cL_acts 292 = .ok (.goto 4, 3) := by decide +kernel
theorem dL_acts_295 : decode cL_acts 295 = .ok (.iconst 0, 1) := by decide +kernel
theorem dL_acts_296 : decode cL_acts 296 = .ok (.ireturn, 1) := by decide +kernel
theorem dL_acts_297 : decode cL_acts 297 = .ok (.iload 7, 2) := by decide +kernel
theorem dL_acts_299 : decode cL_acts 299 = .ok (.iconst 3, 1) := by decide +kernel
theorem dL_acts_300 : decode cL_acts 300 = .ok (.if_icmp .ne 172, 3) := by decide +kernel
theorem dL_acts_303 : decode cL_acts 303 = .ok (.iload 6, 2) := by decide +kernel
theorem dL_acts_305 : decode cL_acts 305 = .ok (.bipush 8, 2) := by decide +kernel
theorem dL_acts_307 : decode cL_acts 307 = .ok (.invokestatic 142, 3) := by decide +kernel
theorem dL_acts_310 : decode cL_acts 310 = .ok (.istore 10, 2) := by decide +kernel
theorem dL_acts_312 : decode cL_acts 312 = .ok (.iload 6, 2) := by decide +kernel
theorem dL_acts_314 : decode cL_acts 314 = .ok (.iconst 3, 1) := by decide +kernel
theorem dL_acts_315 : decode cL_acts 315 = .ok (.ishr, 1) := by decide +kernel
theorem dL_acts_316 : decode cL_acts 316 = .ok (.iconst 3, 1) := by decide +kernel
theorem dL_acts_317 : decode cL_acts 317 = .ok (.invokestatic 142, 3) := by decide +kernel
theorem dL_acts_320 : decode cL_acts 320 = .ok (.ifCond .ne 7, 3) := by decide +kernel
theorem dL_acts_323 : decode cL_acts 323 = .ok (.iconst 1, 1) := by decide +kernel
theorem dL_acts_324 : decode cL_acts 324 = .ok (.goto 4, 3) := by decide +kernel
theorem dL_acts_327 : decode cL_acts 327 = .ok (.iconst 0, 1) := by decide +kernel
theorem dL_acts_328 : decode cL_acts 328 = .ok (.istore 11, 2) := by decide +kernel
theorem dL_acts_330 : decode cL_acts 330 = .ok (.aload_n 3, 1) := by decide +kernel
theorem dL_acts_331 : decode cL_acts 331 = .ok (.bipush 6, 2) := by decide +kernel
theorem dL_acts_333 : decode cL_acts 333 = .ok (.iload 10, 2) := by decide +kernel
theorem dL_acts_335 : decode cL_acts 335 = .ok (.imul, 1) := by decide +kernel
theorem dL_acts_336 : decode cL_acts 336 = .ok (.iaload, 1) := by decide +kernel
theorem dL_acts_337 : decode cL_acts 337 = .ok (.ifCond .ge 8, 3) := by decide +kernel
theorem dL_acts_340 : decode cL_acts 340 = .ok (.ldc 18, 2) := by decide +kernel
theorem dL_acts_342 : decode cL_acts 342 = .ok (.goto 21, 3) := by decide +kernel
theorem dL_acts_345 : decode cL_acts 345 = .ok (.iload 11, 2) := by decide +kernel
theorem dL_acts_347 : decode cL_acts 347 = .ok (.ifCond .eq 7, 3) := by decide +kernel
theorem dL_acts_350 : decode cL_acts 350 = .ok (.iconst 0, 1) := by decide +kernel
theorem dL_acts_351 : decode cL_acts 351 = .ok (.goto 12, 3) := by decide +kernel
theorem dL_acts_354 : decode cL_acts 354 = .ok (.aload_n 3, 1) := by decide +kernel
theorem dL_acts_355 : decode cL_acts 355 = .ok (.bipush 6, 2) := by decide +kernel
theorem dL_acts_357 : decode cL_acts 357 = .ok (.iload 10, 2) := by decide +kernel
theorem dL_acts_359 : decode cL_acts 359 = .ok (.imul, 1) := by decide +kernel
theorem dL_acts_360 : decode cL_acts 360 = .ok (.iconst 5, 1) := by decide +kernel
theorem dL_acts_361 : decode cL_acts 361 = .ok (.iadd, 1) := by decide +kernel
theorem dL_acts_362 : decode cL_acts 362 = .ok (.iaload, 1) := by decide +kernel
theorem dL_acts_363 : decode cL_acts 363 = .ok (.istore 12, 2) := by decide +kernel
theorem dL_acts_365 : decode cL_acts 365 = .ok (.iconst 1, 1) := by decide +kernel
theorem dL_acts_366 : decode cL_acts 366 = .ok (.iload 6, 2) := by decide +kernel
theorem dL_acts_368 : decode cL_acts 368 = .ok (.iconst 5, 1) := by decide +kernel
theorem dL_acts_369 : decode cL_acts 369 = .ok (.ishr, 1) := by decide +kernel
theorem dL_acts_370 : decode cL_acts 370 = .ok (.bipush 24, 2) := by decide +kernel
theorem dL_acts_372 : decode cL_acts 372 = .ok (.invokestatic 142, 3) := by decide +kernel
theorem dL_acts_375 : decode cL_acts 375 = .ok (.iadd, 1) := by decide +kernel
theorem dL_acts_376 : decode cL_acts 376 = .ok (.istore 13, 2) := by decide +kernel
theorem dL_acts_378 : decode cL_acts 378 = .ok (.aload_n 3, 1) := by decide +kernel
theorem dL_acts_379 : decode cL_acts 379 = .ok (.bipush 6, 2) := by decide +kernel
theorem dL_acts_381 : decode cL_acts 381 = .ok (.iload 10, 2) := by decide +kernel
theorem dL_acts_383 : decode cL_acts 383 = .ok (.imul, 1) := by decide +kernel
theorem dL_acts_384 : decode cL_acts 384 = .ok (.iconst 5, 1) := by decide +kernel
theorem dL_acts_385 : decode cL_acts 385 = .ok (.iadd, 1) := by decide +kernel
theorem dL_acts_386 : decode cL_acts 386 = .ok (.iload 13, 2) := by decide +kernel
theorem dL_acts_388 : decode cL_acts 388 = .ok (.iastore, 1) := by decide +kernel
theorem dL_acts_389 : decode cL_acts 389 = .ok (.aload_n 3, 1) := by decide +kernel
theorem dL_acts_390 : decode cL_acts 390 = .ok (.bipush 6, 2) := by decide +kernel
theorem dL_acts_392 : decode cL_acts 392 = .ok (.iload 10, 2) := by decide +kernel
theorem dL_acts_394 : decode cL_acts 394 = .ok (.imul, 1) := by decide +kernel
theorem dL_acts_395 : decode cL_acts 395 = .ok (.iload 11, 2) := by decide +kernel
theorem dL_acts_397 : decode cL_acts 397 = .ok (.ifCond .eq 7, 3) := by decide +kernel
theorem dL_acts_400 : decode cL_acts 400 = .ok (.iconst (-1), 1) := by decide +kernel
theorem dL_acts_401 : decode cL_acts 401 = .ok (.goto 10, 3) := by decide +kernel
theorem dL_acts_404 : decode cL_acts 404 = .ok (.aload_n 3, 1) := by decide +kernel
theorem dL_acts_405 : decode cL_acts 405 = .ok (.bipush 6, 2) := by decide +kernel
theorem dL_acts_407 : decode cL_acts 407 = .ok (.iload 10, 2) := by decide +kernel
theorem dL_acts_409 : decode cL_acts 409 = .ok (.imul, 1) := by decide +kernel
theorem dL_acts_410 : decode cL_acts 410 = .ok (.iaload, 1) := by decide +kernel
theorem dL_acts_411 : decode cL_acts 411 = .ok (.iastore, 1) := by decide +kernel
theorem dL_acts_412 : decode cL_acts 412 = .ok (.iload 11, 2) := by decide +kernel
theorem dL_acts_414 : decode cL_acts 414 = .ok (.ifCond .eq 12, 3) := by decide +kernel
theorem dL_acts_417 : decode cL_acts 417 = .ok (.aload_n 0, 1) := by decide +kernel
theorem dL_acts_418 : decode cL_acts 418 = .ok (.iload 10, 2) := by decide +kernel
theorem dL_acts_420 : decode cL_acts 420 = .ok (.invokestatic 148, 3) := by decide +kernel
theorem dL_acts_423 : decode cL_acts 423 = .ok (.goto 11, 3) := by decide +kernel
theorem dL_acts_426 : decode cL_acts 426 = .ok (.aload_n 0, 1) := by decide +kernel
theorem dL_acts_427 : decode cL_acts 427 = .ok (.iload 10, 2) := by decide +kernel
theorem dL_acts_429 : decode cL_acts 429 = .ok (.iload 13, 2) := by decide +kernel
theorem dL_acts_431 : decode cL_acts 431 = .ok (.invokestatic 150, 3) := by decide +kernel
theorem dL_acts_434 : decode cL_acts 434 = .ok (.iload 12, 2) := by decide +kernel
theorem dL_acts_436 : decode cL_acts 436 = .ok (.if_icmp .ne 34, 3) := by decide +kernel
theorem dL_acts_439 : decode cL_acts 439 = .ok (.iload 11, 2) := by decide +kernel
theorem dL_acts_441 : decode cL_acts 441 = .ok (.ifCond .eq 12, 3) := by decide +kernel
theorem dL_acts_444 : decode cL_acts 444 = .ok (.aload_n 1, 1) := by decide +kernel
theorem dL_acts_445 : decode cL_acts 445 = .ok (.iload 10, 2) := by decide +kernel
theorem dL_acts_447 : decode cL_acts 447 = .ok (.invokestatic 148, 3) := by decide +kernel
theorem dL_acts_450 : decode cL_acts 450 = .ok (.goto 11, 3) := by decide +kernel
theorem dL_acts_453 : decode cL_acts 453 = .ok (.aload_n 1, 1) := by decide +kernel
theorem dL_acts_454 : decode cL_acts 454 = .ok (.iload 10, 2) := by decide +kernel
theorem dL_acts_456 : decode cL_acts 456 = .ok (.iload 13, 2) := by decide +kernel
theorem dL_acts_458 : decode cL_acts 458 = .ok (.invokestatic 150, 3) := by decide +kernel
theorem dL_acts_461 : decode cL_acts 461 = .ok (.iload 12, 2) := by decide +kernel
theorem dL_acts_463 : decode cL_acts 463 = .ok (.if_icmp .ne 7, 3) := by decide +kernel
theorem dL_acts_466 : decode cL_acts 466 = .ok (.iconst 1, 1) := by decide +kernel
theorem dL_acts_467 : decode cL_acts 467 = .ok (.goto 4, 3) := by decide +kernel
theorem dL_acts_470 : decode cL_acts 470 = .ok (.iconst 0, 1) := by decide +kernel
theorem dL_acts_471 : decode cL_acts 471 = .ok (.ireturn, 1) := by decide +kernel
theorem dL_acts_472 : decode cL_acts 472 = .ok (.iload 7, 2) := by decide +kernel
theorem dL_acts_474 : decode cL_acts 474 = .ok (.iconst 4, 1) := by decide +kernel
theorem dL_acts_475 : decode cL_acts 475 = .ok (.if_icmp .ne 69, 3) := by decide +kernel
theorem dL_acts_478 : decode cL_acts 478 = .ok (.iload 6, 2) := by decide +kernel
theorem dL_acts_480 : decode cL_acts 480 = .ok (.iconst 4, 1) := by decide +kernel
theorem dL_acts_481 : decode cL_acts 481 = .ok (.invokestatic 142, 3) := by decide +kernel
theorem dL_acts_484 : decode cL_acts 484 = .ok (.istore 10, 2) := by decide +kernel
theorem dL_acts_486 : decode cL_acts 486 = .ok (.aload 4, 2) := by decide +kernel
theorem dL_acts_488 : decode cL_acts 488 = .ok (.iload 10, 2) := by decide +kernel
theorem dL_acts_490 : decode cL_acts 490 = .ok (.iaload, 1) := by decide +kernel
theorem dL_acts_491 : decode cL_acts 491 = .ok (.istore 11, 2) := by decide +kernel
theorem dL_acts_493 : decode cL_acts 493 = .ok (.aload 4, 2) := by decide +kernel
theorem dL_acts_495 : decode cL_acts 495 = .ok (.iload 10, 2) := by decide +kernel
theorem dL_acts_497 : decode cL_acts 497 = .ok (.iload 6, 2) := by decide +kernel
theorem dL_acts_499 : decode cL_acts 499 = .ok (.iconst 2, 1) := by decide +kernel
theorem dL_acts_500 : decode cL_acts 500 = .ok (.ishr, 1) := by decide +kernel
theorem dL_acts_501 : decode cL_acts 501 = .ok (.iconst 5, 1) := by decide +kernel
theorem dL_acts_502 : decode cL_acts 502 = .ok (.invokestatic 142, 3) := by decide +kernel
theorem dL_acts_505 : decode cL_acts 505 = .ok (.iastore, 1) := by decide +kernel
theorem dL_acts_506 : decode cL_acts 506 = .ok (.aload_n 0, 1) := by decide +kernel
theorem dL_acts_507 : decode cL_acts 507 = .ok (.iload 10, 2) := by decide +kernel
theorem dL_acts_509 : decode cL_acts 509 = .ok (.aload 4, 2) := by decide +kernel
theorem dL_acts_511 : decode cL_acts 511 = .ok (.iload 10, 2) := by decide +kernel
theorem dL_acts_513 : decode cL_acts 513 = .ok (.iaload, 1) := by decide +kernel
theorem dL_acts_514 : decode cL_acts 514 = .ok (.invokestatic 152, 3) := by decide +kernel
theorem dL_acts_517 : decode cL_acts 517 = .ok (.iload 11, 2) := by decide +kernel
theorem dL_acts_519 : decode cL_acts 519 = .ok (.if_icmp .ne 23, 3) := by decide +kernel
theorem dL_acts_522 : decode cL_acts 522 = .ok (.aload_n 1, 1) := by decide +kernel
theorem dL_acts_523 : decode cL_acts 523 = .ok (.iload 10, 2) := by decide +kernel
theorem dL_acts_525 : decode cL_acts 525 = .ok (.aload 4, 2) := by decide +kernel
theorem dL_acts_527 : decode cL_acts 527 = .ok (.iload 10, 2) := by decide +kernel
theorem dL_acts_529 : decode cL_acts 529 = .ok (.iaload, 1) := by decide +kernel
theorem dL_acts_530 : decode cL_acts 530 = .ok (.invokestatic 152, 3) := by decide +kernel
theorem dL_acts_533 : decode cL_acts 533 = .ok (.iload 11, 2) := by decide +kernel
theorem dL_acts_535 : decode cL_acts 535 = .ok (.if_icmp .ne 7, 3) := by decide +kernel
theorem dL_acts_538 : decode cL_acts 538 = .ok (.iconst 1, 1) := by decide +kernel
theorem dL_acts_539 : decode cL_acts 539 = .ok (.goto 4, 3) := by decide +kernel
theorem dL_acts_542 : decode cL_acts 542 = .ok (.iconst 0, 1) := by decide +kernel
theorem dL_acts_543 : decode cL_acts 543 = .ok (.ireturn, 1) := by decide +kernel
theorem dL_acts_544 : decode cL_acts 544 = .ok (.iload 7, 2) := by decide +kernel
theorem dL_acts_546 : decode cL_acts 546 = .ok (.iconst 5, 1) := by decide +kernel
theorem dL_acts_547 : decode cL_acts 547 = .ok (.if_icmp .ne 67, 3) := by decide +kernel
theorem dL_acts_550 : decode cL_acts 550 = .ok (.aload 4, 2) := by decide +kernel
theorem dL_acts_552 : decode cL_acts 552 = .ok (.iconst 4, 1) := by decide +kernel
theorem dL_acts_553 : decode cL_acts 553 = .ok (.iconst 1, 1) := by decide +kernel
theorem dL_acts_554 : decode cL_acts 554 = .ok (.iload 6, 2) := by decide +kernel
theorem dL_acts_556 : decode cL_acts 556 = .ok (.bipush 6, 2) := by decide +kernel
theorem dL_acts_558 : decode cL_acts 558 = .ok (.invokestatic 142, 3) := by decide +kernel
theorem dL_acts_561 : decode cL_acts 561 = .ok (.iadd, 1) := by decide +kernel
theorem dL_acts_562 : decode cL_acts 562 = .ok (.iastore, 1) := by decide +kernel
theorem dL_acts_563 : decode cL_acts 563 = .ok (.aload 4, 2) := by decide +kernel
theorem dL_acts_565 : decode cL_acts 565 = .ok (.iconst 5, 1) := by decide +kernel
theorem dL_acts_566 : decode cL_acts 566 = .ok (.iconst 1, 1) := by decide +kernel
theorem dL_acts_567 : decode cL_acts 567 = .ok (.iload 6, 2) := by decide +kernel
theorem dL_acts_569 : decode cL_acts 569 = .ok (.iconst 3, 1) := by decide +kernel
theorem dL_acts_570 : decode cL_acts 570 = .ok (.ishr, 1) := by decide +kernel
theorem dL_acts_571 : decode cL_acts 571 = .ok (.bipush 9, 2) := by decide +kernel
theorem dL_acts_573 : decode cL_acts 573 = .ok (.invokestatic 142, 3) := by decide +kernel
theorem dL_acts_576 : decode cL_acts 576 = .ok (.iadd, 1) := by decide +kernel
theorem dL_acts_577 : decode cL_acts 577 = .ok (.iastore, 1) := by decide +kernel
theorem dL_acts_578 : decode cL_acts 578 = .ok (.aload_n 0, 1) := by decide +kernel
theorem dL_acts_579 : decode cL_acts 579 = .ok (.aload 4, 2) := by decide +kernel
theorem dL_acts_581 : decode cL_acts 581 = .ok (.iconst 4, 1) := by decide +kernel
theorem dL_acts_582 : decode cL_acts 582 = .ok (.iaload, 1) := by decide +kernel
theorem dL_acts_583 : decode cL_acts 583 = .ok (.aload 4, 2) := by decide +kernel
theorem dL_acts_585 : decode cL_acts 585 = .ok (.iconst 5, 1) := by decide +kernel
theorem dL_acts_586 : decode cL_acts 586 = .ok (.iaload, 1) := by decide +kernel
theorem dL_acts_587 : decode cL_acts 587 = .ok (.invokestatic 154, 3) := by decide +kernel
theorem dL_acts_590 : decode cL_acts 590 = .ok (.ifCond .ne 22, 3) := by decide +kernel
theorem dL_acts_593 : decode cL_acts 593 = .ok (.aload_n 1, 1) := by decide +kernel
theorem dL_acts_594 : decode cL_acts 594 = .ok (.aload 4, 2) := by decide +kernel
theorem dL_acts_596 : decode cL_acts 596 = .ok (.iconst 4, 1) := by decide +kernel
theorem dL_acts_597 : decode cL_acts 597 = .ok (.iaload, 1) := by decide +kernel
theorem dL_acts_598 : decode cL_acts 598 = .ok (.aload 4, 2) := by decide +kernel
theorem dL_acts_600 : decode cL_acts 600 = .ok (.iconst 5, 1) := by decide +kernel
theorem dL_acts_601 : decode cL_acts 601 = .ok (.iaload, 1) := by decide +kernel
theorem dL_acts_602 : decode cL_acts 602 = .ok (.invokestatic 154, 3) := by decide +kernel
theorem dL_acts_605 : decode cL_acts 605 = .ok (.ifCond .ne 7, 3) := by decide +kernel
theorem dL_acts_608 : decode cL_acts 608 = .ok (.iconst 1, 1) := by decide +kernel
theorem dL_acts_609 : decode cL_acts 609 = .ok (.goto 4, 3) := by decide +kernel
theorem dL_acts_612 : decode cL_acts 612 = .ok (.iconst 0, 1) := by decide +kernel
theorem dL_acts_613 : decode cL_acts 613 = .ok (.ireturn, 1) := by decide +kernel
theorem dL_acts_614 : decode cL_acts 614 = .ok (.iload 7, 2) := by decide +kernel
theorem dL_acts_616 : decode cL_acts 616 = .ok (.bipush 11, 2) := by decide +kernel
theorem dL_acts_618 : decode cL_acts 618 = .ok (.if_icmp .ge 260, 3) := by decide +kernel
theorem dL_acts_621 : decode cL_acts 621 = .ok (.iload 6, 2) := by decide +kernel
theorem dL_acts_623 : decode cL_acts 623 = .ok (.iconst 4, 1) := by decide +kernel
theorem dL_acts_624 : decode cL_acts 624 = .ok (.ishr, 1) := by decide +kernel
theorem dL_acts_625 : decode cL_acts 625 = .ok (.iconst 4, 1) := by decide +kernel
theorem dL_acts_626 : decode cL_acts 626 = .ok (.invokestatic 142, 3) := by decide +kernel
theorem dL_acts_629 : decode cL_acts 629 = .ok (.iconst 2, 1) := by decide +kernel
theorem dL_acts_630 : decode cL_acts 630 = .ok (.idiv, 1) := by decide +kernel
theorem dL_acts_631 : decode cL_acts 631 = .ok (.istore 10, 2) := by decide +kernel
theorem dL_acts_633 : decode cL_acts 633 = .ok (.iload 6, 2) := by decide +kernel
theorem dL_acts_635 : decode cL_acts 635 = .ok (.bipush 6, 2) := by decide +kernel
theorem dL_acts_637 : decode cL_acts 637 = .ok (.ishr, 1) := by decide +kernel
theorem dL_acts_638 : decode cL_acts 638 = .ok (.bipush 100, 2) := by decide +kernel
theorem dL_acts_640 : decode cL_acts 640 = .ok (.invokestatic 142, 3) := by decide +kernel
theorem dL_acts_643 : decode cL_acts 643 = .ok (.istore 11, 2) := by decide +kernel
theorem dL_acts_645 : decode cL_acts 645 = .ok (.iload 6, 2) := by decide +kernel
theorem dL_acts_647 : decode cL_acts 647 = .ok (.bipush 13, 2) := by decide +kernel
theorem dL_acts_649 : decode cL_acts 649 = .ok (.ishr, 1) := by decide +kernel
theorem dL_acts_650 : decode cL_acts 650 = .ok (.iconst 4, 1) := by decide +kernel
theorem dL_acts_651 : decode cL_acts 651 = .ok (.invokestatic 142, 3) := by decide +kernel
theorem dL_acts_654 : decode cL_acts 654 = .ok (.istore 12, 2) := by decide +kernel
theorem dL_acts_656 : decode cL_acts 656 = .ok (.iload 6, 2) := by decide +kernel
theorem dL_acts_658 : decode cL_acts 658 = .ok (.bipush 15, 2) := by decide +kernel
theorem dL_acts_660 : decode cL_acts 660 = .ok (.ishr, 1) := by decide +kernel
theorem dL_acts_661 : decode cL_acts 661 = .ok (.bipush 16, 2) := by decide +kernel
theorem dL_acts_663 : decode cL_acts 663 = .ok (.invokestatic 142, 3) := by decide +kernel
theorem dL_acts_666 : decode cL_acts 666 = .ok (.istore 13, 2) := by decide +kernel
theorem dL_acts_668 : decode cL_acts 668 = .ok (.aload_n 2, 1) := by decide +kernel
theorem dL_acts_669 : decode cL_acts 669 = .ok (.iconst 4, 1) := by decide +kernel
theorem dL_acts_670 : decode cL_acts 670 = .ok (.iload 8, 2) := by decide +kernel
theorem dL_acts_672 : decode cL_acts 672 = .ok (.imul, 1) := by decide +kernel
theorem dL_acts_673 : decode cL_acts 673 = .ok (.iload 10, 2) := by decide +kernel
theorem dL_acts_675 : decode cL_acts 675 = .ok (.iastore, 1) := by decide +kernel
theorem dL_acts_676 : decode cL_acts 676 = .ok (.aload_n 2, 1) := by decide +kernel
theorem dL_acts_677 : decode cL_acts 677 = .ok (.iconst 4, 1) := by decide +kernel
theorem dL_acts_678 : decode cL_acts 678 = .ok (.iload 8, 2) := by decide +kernel
theorem dL_acts_680 : decode cL_acts 680 = .ok (.imul, 1) := by decide +kernel
theorem dL_acts_681 : decode cL_acts 681 = .ok (.iconst 1, 1) := by decide +kernel
theorem dL_acts_682 : decode cL_acts 682 = .ok (.iadd, 1) := by decide +kernel
theorem dL_acts_683 : decode cL_acts 683 = .ok (.iload 11, 2) := by decide +kernel
theorem dL_acts_685 : decode cL_acts 685 = .ok (.iastore, 1) := by decide +kernel
theorem dL_acts_686 : decode cL_acts 686 = .ok (.aload_n 2, 1) := by decide +kernel
theorem dL_acts_687 : decode cL_acts 687 = .ok (.iconst 4, 1) := by decide +kernel
theorem dL_acts_688 : decode cL_acts 688 = .ok (.iload 8, 2) := by decide +kernel
theorem dL_acts_690 : decode cL_acts 690 = .ok (.imul, 1) := by decide +kernel
theorem dL_acts_691 : decode cL_acts 691 = .ok (.iconst 2, 1) := by decide +kernel
theorem dL_acts_692 : decode cL_acts 692 = .ok (.iadd, 1) := by decide +kernel
theorem dL_acts_693 : decode cL_acts 693 = .ok (.iload 12, 2) := by decide +kernel
theorem dL_acts_695 : decode cL_acts 695 = .ok (.iastore, 1) := by decide +kernel
theorem dL_acts_696 : decode cL_acts 696 = .ok (.aload_n 2, 1) := by decide +kernel
theorem dL_acts_697 : decode cL_acts 697 = .ok (.iconst 4, 1) := by decide +kernel
theorem dL_acts_698 : decode cL_acts 698 = .ok (.iload 8, 2) := by decide +kernel
theorem dL_acts_700 : decode cL_acts 700 = .ok (.imul, 1) := by decide +kernel
theorem dL_acts_701 : decode cL_acts 701 = .ok (.iconst 3, 1) := by decide +kernel
theorem dL_acts_702 : decode cL_acts 702 = .ok (.iadd, 1) := by decide +kernel
theorem dL_acts_703 : decode cL_acts 703 = .ok (.iload 13, 2) := by decide +kernel
theorem dL_acts_705 : decode cL_acts 705 = .ok (.iastore, 1) := by decide +kernel
theorem dL_acts_706 : decode cL_acts 706 = .ok (.aload_n 0, 1) := by decide +kernel
theorem dL_acts_707 : decode cL_acts 707 = .ok (.iload 8, 2) := by decide +kernel
theorem dL_acts_709 : decode cL_acts 709 = .ok (.invokestatic 122, 3) := by decide +kernel
theorem dL_acts_712 : decode cL_acts 712 = .ok (.istore 14, 2) := by decide +kernel
theorem dL_acts_714 : decode cL_acts 714 = .ok (.aload_n 0, 1) := by decide +kernel
theorem dL_acts_715 : decode cL_acts 715 = .ok (.iload 8, 2) := by decide +kernel
theorem dL_acts_717 : decode cL_acts 717 = .ok (.iload 10, 2) := by decide +kernel
theorem dL_acts_719 : decode cL_acts 719 = .ok (.iload 11, 2) := by decide +kernel
theorem dL_acts_721 : decode cL_acts 721 = .ok (.iload 12, 2) := by decide +kernel
theorem dL_acts_723 : decode cL_acts 723 = .ok (.iload 13, 2) := by decide +kernel
theorem dL_acts_725 : decode cL_acts 725 = .ok (.invokestatic 156, 3) := by decide +kernel
theorem dL_acts_728 : decode cL_acts 728 = .ok (.istore 15, 2) := by decide +kernel
theorem dL_acts_730 : decode cL_acts 730 = .ok (.iload 9, 2) := by decide +kernel
theorem dL_acts_732 : decode cL_acts 732 = .ok (.ifCond .ne 17, 3) := by decide +kernel
theorem dL_acts_735 : decode cL_acts 735 = .ok (.iload 15, 2) := by decide +kernel
theorem dL_acts_737 : decode cL_acts 737 = .ok (.iconst 1, 1) := by decide +kernel
theorem dL_acts_738 : decode cL_acts 738 = .ok (.if_icmp .ne 7, 3) := by decide +kernel
theorem dL_acts_741 : decode cL_acts 741 = .ok (.iconst 1, 1) := by decide +kernel
theorem dL_acts_742 : decode cL_acts 742 = .ok (.goto 93, 3) := by decide +kernel
theorem dL_acts_745 : decode cL_acts 745 = .ok (.iconst 0, 1) := by decide +kernel
theorem dL_acts_746 : decode cL_acts 746 = .ok (.goto 89, 3) := by decide +kernel
theorem dL_acts_749 : decode cL_acts 749 = .ok (.iload 9, 2) := by decide +kernel
theorem dL_acts_751 : decode cL_acts 751 = .ok (.iconst 3, 1) := by decide +kernel
theorem dL_acts_752 : decode cL_acts 752 = .ok (.if_icmp .ne 46, 3) := by decide +kernel
theorem dL_acts_755 : decode cL_acts 755 = .ok (.aload_n 0, 1) := by decide +kernel
theorem dL_acts_756 : decode cL_acts 756 = .ok (.iload 8, 2) := by decide +kernel
theorem dL_acts_758 : decode cL_acts 758 = .ok (.invokestatic 122, 3) := by decide +kernel
theorem dL_acts_761 : decode cL_acts 761 = .ok (.iload 14, 2) := by decide +kernel
theorem dL_acts_763 : decode cL_acts 763 = .ok (.iconst 1, 1) := by decide +kernel
theorem dL_acts_764 : decode cL_acts 764 = .ok (.iadd, 1) := by decide +kernel
theorem dL_acts_765 : decode cL_acts 765 = .ok (.if_icmp .ne 29, 3) := by decide +kernel
theorem dL_acts_768 : decode cL_acts 768 = .ok (.iload 15, 2) := by decide +kernel
theorem dL_acts_770 : decode cL_acts 770 = .ok (.iload 14, 2) := by decide +kernel
theorem dL_acts_772 : decode cL_acts 772 = .ok (.iconst 1, 1) := by decide +kernel
theorem dL_acts_773 : decode cL_acts 773 = .ok (.iadd, 1) := by decide +kernel
theorem dL_acts_774 : decode cL_acts 774 = .ok (.aload 4, 2) := by decide +kernel
theorem dL_acts_776 : decode cL_acts 776 = .ok (.iconst 5, 1) := by decide +kernel
theorem dL_acts_777 : decode cL_acts 777 = .ok (.iaload, 1) := by decide +kernel
theorem dL_acts_778 : decode cL_acts 778 = .ok (.if_icmp .lt 8, 3) := by decide +kernel
theorem dL_acts_781 : decode cL_acts 781 = .ok (.bipush 7, 2) := by decide +kernel
theorem dL_acts_783 : decode cL_acts 783 = .ok (.goto 4, 3) := by decide +kernel
theorem dL_acts_786 : decode cL_acts 786 = .ok (.iconst 4, 1) := by decide +kernel
theorem dL_acts_787 : decode cL_acts 787 = .ok (.if_icmp .ne 7, 3) := by decide +kernel
theorem dL_acts_790 : decode cL_acts 790 = .ok (.iconst 1, 1) := by decide +kernel
theorem dL_acts_791 : decode cL_acts 791 = .ok (.goto 44, 3) := by decide +kernel
theorem dL_acts_794 : decode cL_acts 794 = .ok (.iconst 0, 1) := by decide +kernel
theorem dL_acts_795 : decode cL_acts 795 = .ok (.goto 40, 3) := by decide +kernel
theorem dL_acts_798 : decode cL_acts 798 = .ok (.iload 9, 2) := by decide +kernel
theorem dL_acts_800 : decode cL_acts 800 = .ok (.iconst 2, 1) := by decide +kernel
theorem dL_acts_801 : decode cL_acts 801 = .ok (.if_icmp .ne 22, 3) := by decide +kernel
theorem dL_acts_804 : decode cL_acts 804 = .ok (.iload 15, 2) := by decide +kernel
theorem dL_acts_806 : decode cL_acts 806 = .ok (.ifCond .le 13, 3) := by decide +kernel
theorem dL_acts_809 : decode cL_acts 809 = .ok (.iload 15, 2) := by decide +kernel
theorem dL_acts_811 : decode cL_acts 811 = .ok (.iconst 4, 1) := by decide +kernel
theorem dL_acts_812 : decode cL_acts 812 = .ok (.if_icmp .ge 7, 3) := by decide +kernel
theorem dL_acts_815 : decode cL_acts 815 = .ok (.iconst 1, 1) := by decide +kernel
theorem dL_acts_816 : decode cL_acts 816 = .ok (.goto 19, 3) := by decide +kernel
theorem dL_acts_819 : decode cL_acts 819 = .ok (.iconst 0, 1) := by decide +kernel
theorem dL_acts_820 : decode cL_acts 820 = .ok (.goto 15, 3) := by decide +kernel
theorem dL_acts_823 : decode cL_acts 823 = .ok (.iload 15, 2) := by decide +kernel
theorem dL_acts_825 : decode cL_acts 825 = .ok (.iload 9, 2) := by decide +kernel
theorem dL_acts_827 : decode cL_acts 827 = .ok (.if_icmp .ne 7, 3) := by decide +kernel
theorem dL_acts_830 : decode cL_acts 830 = .ok (.iconst 1, 1) := by decide +kernel
theorem dL_acts_831 : decode cL_acts 831 = .ok (.goto 4, 3) := by decide +kernel
theorem dL_acts_834 : decode cL_acts 834 = .ok (.iconst 0, 1) := by decide +kernel
theorem dL_acts_835 : decode cL_acts 835 = .ok (.istore 16, 2) := by decide +kernel
theorem dL_acts_837 : decode cL_acts 837 = .ok (.iload 16, 2) := by decide +kernel
theorem dL_acts_839 : decode cL_acts 839 = .ok (.ifCond .eq 37, 3) := by decide +kernel
theorem dL_acts_842 : decode cL_acts 842 = .ok (.aload_n 1, 1) := by decide +kernel
theorem dL_acts_843 : decode cL_acts 843 = .ok (.iload 8, 2) := by decide +kernel
theorem dL_acts_845 : decode cL_acts 845 = .ok (.iload 10, 2) := by decide +kernel
theorem dL_acts_847 : decode cL_acts 847 = .ok (.iload 11, 2) := by decide +kernel
theorem dL_acts_849 : decode cL_acts 849 = .ok (.iload 12, 2) := by decide +kernel
theorem dL_acts_851 : decode cL_acts 851 = .ok (.iload 13, 2) := by decide +kernel
theorem dL_acts_853 : decode cL_acts 853 = .ok (.invokestatic 156, 3) := by decide +kernel
theorem dL_acts_856 : decode cL_acts 856 = .ok (.iload 15, 2) := by decide +kernel
theorem dL_acts_858 : decode cL_acts 858 = .ok (.if_icmp .ne 18, 3) := by decide +kernel
theorem dL_acts_861 : decode cL_acts 861 = .ok (.iload 15, 2) := by decide +kernel
theorem dL_acts_863 : decode cL_acts 863 = .ok (.aload_n 0, 1) := by decide +kernel
theorem dL_acts_864 : decode cL_acts 864 = .ok (.iload 8, 2) := by decide +kernel
theorem dL_acts_866 : decode cL_acts 866 = .ok (.invokestatic 109, 3) := by decide +kernel
theorem dL_acts_869 : decode cL_acts 869 = .ok (.if_icmp .ne 7, 3) := by decide +kernel
theorem dL_acts_872 : decode cL_acts 872 = .ok (.iconst 1, 1) := by decide +kernel
theorem dL_acts_873 : decode cL_acts 873 = .ok (.goto 4, 3) := by decide +kernel
theorem dL_acts_876 : decode cL_acts 876 = .ok (.iconst 0, 1) := by decide +kernel
theorem dL_acts_877 : decode cL_acts 877 = .ok (.ireturn, 1) := by decide +kernel
theorem dL_acts_878 : decode cL_acts 878 = .ok (.iload 7, 2) := by decide +kernel
theorem dL_acts_880 : decode cL_acts 880 = .ok (.bipush 16, 2) := by decide +kernel
theorem dL_acts_882 : decode cL_acts 882 = .ok (.if_icmp .ge 95, 3) := by decide +kernel
theorem dL_acts_885 : decode cL_acts 885 = .ok (.iload 9, 2) := by decide +kernel
theorem dL_acts_887 : decode cL_acts 887 = .ok (.iconst 1, 1) := by decide +kernel
theorem dL_acts_888 : decode cL_acts 888 = .ok (.if_icmp .ne 18, 3) := by decide +kernel
theorem dL_acts_891 : decode cL_acts 891 = .ok (.aload_n 0, 1) := by decide +kernel
theorem dL_acts_892 : decode cL_acts 892 = .ok (.aload_n 2, 1) := by decide +kernel
theorem dL_acts_893 : decode cL_acts 893 = .ok (.aload_n 3, 1) := by decide +kernel
theorem dL_acts_894 : decode cL_acts 894 = .ok (.iload 8, 2) := by decide +kernel
theorem dL_acts_896 : decode cL_acts 896 = .ok (.invokestatic 131, 3) := by decide +kernel
theorem dL_acts_899 : decode cL_acts 899 = .ok (.ifCond .lt 7, 3) := by decide +kernel
theorem dL_acts_902 : decode cL_acts 902 = .ok (.iconst 1, 1) := by decide +kernel
theorem dL_acts_903 : decode cL_acts 903 = .ok (.goto 4, 3) := by decide +kernel
theorem dL_acts_906 : decode cL_acts 906 = .ok (.iconst 0, 1) := by decide +kernel
theorem dL_acts_907 : decode cL_acts 907 = .ok (.istore 10, 2) := by decide +kernel
theorem dL_acts_909 : decode cL_acts 909 = .ok (.aload_n 0, 1) := by decide +kernel
theorem dL_acts_910 : decode cL_acts 910 = .ok (.iload 8, 2) := by decide +kernel
theorem dL_acts_912 : decode cL_acts 912 = .ok (.invokestatic 159, 3) := by decide +kernel
theorem dL_acts_915 : decode cL_acts 915 = .ok (.istore 11, 2) := by decide +kernel
theorem dL_acts_917 : decode cL_acts 917 = .ok (.aload_n 1, 1) := by decide +kernel
theorem dL_acts_918 : decode cL_acts 918 = .ok (.iload 8, 2) := by decide +kernel
theorem dL_acts_920 : decode cL_acts 920 = .ok (.invokestatic 159, 3) := by decide +kernel
theorem dL_acts_923 : decode cL_acts 923 = .ok (.iload 11, 2) := by decide +kernel
theorem dL_acts_925 : decode cL_acts 925 = .ok (.if_icmp .ne 50, 3) := by decide +kernel
theorem dL_acts_928 : decode cL_acts 928 = .ok (.iload 10, 2) := by decide +kernel
theorem dL_acts_930 : decode cL_acts 930 = .ok (.ifCond .eq 18, 3) := by decide +kernel
theorem dL_acts_933 : decode cL_acts 933 = .ok (.iload 11, 2) := by decide +kernel
theorem dL_acts_935 : decode cL_acts 935 = .ok (.iconst 2, 1) := by decide +kernel
theorem dL_acts_936 : decode cL_acts 936 = .ok (.if_icmp .eq 19, 3) := by decide +kernel
theorem dL_acts_939 : decode cL_acts 939 = .ok (.iload 11, 2) := by decide +kernel
theorem dL_acts_941 : decode cL_acts 941 = .ok (.iconst 3, 1) := by decide +kernel
theorem dL_acts_942 : decode cL_acts 942 = .ok (.if_icmp .ne 33, 3) := by decide +kernel
theorem dL_acts_945 : decode cL_acts 945 = .ok (.goto 10, 3) := by decide +kernel
theorem dL_acts_948 : decode cL_acts 948 = .ok (.iload 11, 2) := by decide +kernel
theorem dL_acts_950 : decode cL_acts 950 = .ok (.ldc 47, 2) := by decide +kernel
theorem dL_acts_952 : decode cL_acts 952 = .ok (.if_icmp .ne 23, 3) := by decide +kernel
theorem dL_acts_955 : decode cL_acts 955 = .ok (.iload 10, 2) := by decide +kernel
theorem dL_acts_957 : decode cL_acts 957 = .ok (.ifCond .eq 14, 3) := by decide +kernel
theorem dL_acts_960 : decode cL_acts 960 = .ok (.iload 11, 2) := by decide +kernel
theorem dL_acts_962 : decode cL_acts 962 = .ok (.aload_n 0, 1) := by decide +kernel
theorem dL_acts_963 : decode cL_acts 963 = .ok (.iload 8, 2) := by decide +kernel
theorem dL_acts_965 : decode cL_acts 965 = .ok (.invokestatic 109, 3) := by decide +kernel
theorem dL_acts_968 : decode cL_acts 968 = .ok (.if_icmp .ne 7, 3) := by decide +kernel
theorem dL_acts_971 : decode cL_acts 971 = .ok (.iconst 1, 1) := by decide +kernel
theorem dL_acts_972 : decode cL_acts 972 = .ok (.goto 4, 3) := by decide +kernel
theorem dL_acts_975 : decode cL_acts 975 = .ok (.iconst 0, 1) := by decide +kernel
theorem dL_acts_976 : decode cL_acts 976 = .ok (.ireturn, 1) := by decide +kernel
theorem dL_acts_977 : decode cL_acts 977 = .ok (.iload 7, 2) := by decide +kernel
theorem dL_acts_979 : decode cL_acts 979 = .ok (.bipush 16, 2) := by decide +kernel
theorem dL_acts_981 : decode cL_acts 981 = .ok (.if_icmp .ne 66, 3) := by decide +kernel
theorem dL_acts_984 : decode cL_acts 984 = .ok (.iload 9, 2) := by decide +kernel
theorem dL_acts_986 : decode cL_acts 986 = .ok (.iconst 2, 1) := by decide +kernel
theorem dL_acts_987 : decode cL_acts 987 = .ok (.if_icmp .eq 9, 3) := by decide +kernel
theorem dL_acts_990 : decode cL_acts 990 = .ok (.iload 9, 2) := by decide +kernel
theorem dL_acts_992 : decode cL_acts 992 = .ok (.iconst 4, 1) := by decide +kernel
theorem dL_acts_993 : decode cL_acts 993 = .ok (.if_icmp .ne 7, 3) := by decide +kernel
theorem dL_acts_996 : decode cL_acts 996 = .ok (.iconst 0, 1) := by decide +kernel
theorem dL_acts_997 : decode cL_acts 997 = .ok (.goto 5, 3) := by decide +kernel
theorem dL_acts_1000 : decode cL_acts 1000 = .ok (.ldc 47, 2) := by decide +kernel
theorem dL_acts_1002 : decode cL_acts 1002 = .ok (.istore 10, 2) := by decide +kernel
theorem dL_acts_1004 : decode cL_acts 1004 = .ok (.aload_n 0, 1) := by decide +kernel
theorem dL_acts_1005 : decode cL_acts 1005 = .ok (.iload 8, 2) := by decide +kernel
theorem dL_acts_1007 : decode cL_acts 1007 = .ok (.invokestatic 161, 3) := by decide +kernel
theorem dL_acts_1010 : decode cL_acts 1010 = .ok (.iload 10, 2) := by decide +kernel
theorem dL_acts_1012 : decode cL_acts 1012 = .ok (.if_icmp .ne 33, 3) := by decide +kernel
theorem dL_acts_1015 : decode cL_acts 1015 = .ok (.aload_n 1, 1) := by decide +kernel
theorem dL_acts_1016 : decode cL_acts 1016 = .ok (.iload 8, 2) := by decide +kernel
theorem dL_acts_1018 : decode cL_acts 1018 = .ok (.invokestatic 161, 3) := by decide +kernel
theorem dL_acts_1021 : decode cL_acts 1021 = .ok (.iload 10, 2) := by decide +kernel
theorem dL_acts_1023 : decode cL_acts 1023 = .ok (.if_icmp .ne 22, 3) := by decide +kernel
theorem dL_acts_1026 : decode cL_acts 1026 = .ok (.iload 10, 2) := by decide +kernel
theorem dL_acts_1028 : decode cL_acts 1028 = .ok (.ifCond .lt 13, 3) := by decide +kernel
theorem dL_acts_1031 : decode cL_acts 1031 = .ok (.aload_n 0, 1) := by decide +kernel
theorem dL_acts_1032 : decode cL_acts 1032 = .ok (.iload 8, 2) := by decide +kernel
theorem dL_acts_1034 : decode cL_acts 1034 = .ok (.invokestatic 109, 3) := by decide +kernel
theorem dL_acts_1037 : decode cL_acts 1037 = .ok (.iconst 1, 1) := by decide +kernel
theorem dL_acts_1038 : decode cL_acts 1038 = .ok (.if_icmp .ne 7, 3) := by decide +kernel
theorem dL_acts_1041 : decode cL_acts 1041 = .ok (.iconst 1, 1) := by decide +kernel
theorem dL_acts_1042 : decode cL_acts 1042 = .ok (.goto 4, 3) := by decide +kernel
theorem dL_acts_1045 : decode cL_acts 1045 = .ok (.iconst 0, 1) := by decide +kernel
theorem dL_acts_1046 : decode cL_acts 1046 = .ok (.ireturn, 1) := by decide +kernel
theorem dL_acts_1047 : decode cL_acts 1047 = .ok (.iload 7, 2) := by decide +kernel
theorem dL_acts_1049 : decode cL_acts 1049 = .ok (.bipush 21, 2) := by decide +kernel
theorem dL_acts_1051 : decode cL_acts 1051 = .ok (.if_icmp .ge 133, 3) := by decide +kernel
theorem dL_acts_1054 : decode cL_acts 1054 = .ok (.iload 6, 2) := by decide +kernel
theorem dL_acts_1056 : decode cL_acts 1056 = .ok (.iconst 4, 1) := by decide +kernel
theorem dL_acts_1057 : decode cL_acts 1057 = .ok (.ishr, 1) := by decide +kernel
theorem dL_acts_1058 : decode cL_acts 1058 = .ok (.iconst 3, 1) := by decide +kernel
theorem dL_acts_1059 : decode cL_acts 1059 = .ok (.invokestatic 142, 3) := by decide +kernel
theorem dL_acts_1062 : decode cL_acts 1062 = .ok (.ifCond .le 7, 3) := by decide +kernel
theorem dL_acts_1065 : decode cL_acts 1065 = .ok (.iconst 1, 1) := by decide +kernel
theorem dL_acts_1066 : decode cL_acts 1066 = .ok (.goto 4, 3) := by decide +kernel
theorem dL_acts_1069 : decode cL_acts 1069 = .ok (.iconst 0, 1) := by decide +kernel
theorem dL_acts_1070 : decode cL_acts 1070 = .ok (.istore 10, 2) := by decide +kernel
theorem dL_acts_1072 : decode cL_acts 1072 = .ok (.aload_n 0, 1) := by decide +kernel
theorem dL_acts_1073 : decode cL_acts 1073 = .ok (.iload 8, 2) := by decide +kernel
theorem dL_acts_1075 : decode cL_acts 1075 = .ok (.invokestatic 122, 3) := by decide +kernel
theorem dL_acts_1078 : decode cL_acts 1078 = .ok (.istore 11, 2) := by decide +kernel
theorem dL_acts_1080 : decode cL_acts 1080 = .ok (.iload 9, 2) := by decide +kernel
theorem dL_acts_1082 : decode cL_acts 1082 = .ok (.iconst 3, 1) := by decide +kernel
theorem dL_acts_1083 : decode cL_acts 1083 = .ok (.if_icmp .eq 8, 3) := by decide +kernel
theorem dL_acts_1086 : decode cL_acts 1086 = .ok (.ldc 47, 2) := by decide +kernel
theorem dL_acts_1088 : decode cL_acts 1088 = .ok (.goto 29, 3) := by decide +kernel
theorem dL_acts_1091 : decode cL_acts 1091 = .ok (.iload 10, 2) := by decide +kernel
theorem dL_acts_1093 : decode cL_acts 1093 = .ok (.ifCond .eq 7, 3) := by decide +kernel
theorem dL_acts_1096 : decode cL_acts 1096 = .ok (.iconst 5, 1) := by decide +kernel
theorem dL_acts_1097 : decode cL_acts 1097 = .ok (.goto 20, 3) := by decide +kernel
theorem dL_acts_1100 : decode cL_acts 1100 = .ok (.iload 11, 2) := by decide +kernel
theorem dL_acts_1102 : decode cL_acts 1102 = .ok (.iconst 1, 1) := by decide +kernel
theorem dL_acts_1103 : decode cL_acts 1103 = .ok (.iadd, 1) := by decide +kernel
theorem dL_acts_1104 : decode cL_acts 1104 = .ok (.aload 4, 2) := by decide +kernel
theorem dL_acts_1106 : decode cL_acts 1106 = .ok (.iconst 5, 1) := by decide +kernel
theorem dL_acts_1107 : decode cL_acts 1107 = .ok (.iaload, 1) := by decide +kernel
theorem dL_acts_1108 : decode cL_acts 1108 = .ok (.if_icmp .lt 8, 3) := by decide +kernel
theorem dL_acts_1111 : decode cL_acts 1111 = .ok (.bipush 7, 2) := by decide +kernel
theorem dL_acts_1113 : decode cL_acts 1113 = .ok (.goto 4, 3) := by decide +kernel
theorem dL_acts_1116 : decode cL_acts 1116 = .ok (.iconst 4, 1) := by decide +kernel
theorem dL_acts_1117 : decode cL_acts 1117 = .ok (.istore 12, 2) := by decide +kernel
theorem dL_acts_1119 : decode cL_acts 1119 = .ok (.aload_n 0, 1) := by decide +kernel
theorem dL_acts_1120 : decode cL_acts 1120 = .ok (.iload 8, 2) := by decide +kernel
theorem dL_acts_1122 : decode cL_acts 1122 = .ok (.iload 10, 2) := by decide +kernel
theorem dL_acts_1124 : decode cL_acts 1124 = .ok (.invokestatic 163, 3) := by decide +kernel
theorem dL_acts_1127 : decode cL_acts 1127 = .ok (.iload 12, 2) := by decide +kernel
theorem dL_acts_1129 : decode cL_acts 1129 = .ok (.if_icmp .ne 53, 3) := by decide +kernel
theorem dL_acts_1132 : decode cL_acts 1132 = .ok (.aload_n 1, 1) := by decide +kernel
theorem dL_acts_1133 : decode cL_acts 1133 = .ok (.iload 8, 2) := by decide +kernel
theorem dL_acts_1135 : decode cL_acts 1135 = .ok (.iload 10, 2) := by decide +kernel
theorem dL_acts_1137 : decode cL_acts 1137 = .ok (.invokestatic 163, 3) := by decide +kernel
theorem dL_acts_1140 : decode cL_acts 1140 = .ok (.iload 12, 2) := by decide +kernel
theorem dL_acts_1142 : decode cL_acts 1142 = .ok (.if_icmp .ne 40, 3) := by decide +kernel
theorem dL_acts_1145 : decode cL_acts 1145 = .ok (.aload_n 0, 1) := by decide +kernel
theorem dL_acts_1146 : decode cL_acts 1146 = .ok (.iload 8, 2) := by decide +kernel
theorem dL_acts_1148 : decode cL_acts 1148 = .ok (.invokestatic 122, 3) := by decide +kernel
theorem dL_acts_1151 : decode cL_acts 1151 = .ok (.iload 9, 2) := by decide +kernel
theorem dL_acts_1153 : decode cL_acts 1153 = .ok (.iconst 3, 1) := by decide +kernel
theorem dL_acts_1154 : decode cL_acts 1154 = .ok (.if_icmp .eq 8, 3) := by decide +kernel
theorem dL_acts_1157 : decode cL_acts 1157 = .ok (.iload 11, 2) := by decide +kernel
theorem dL_acts_1159 : decode cL_acts 1159 = .ok (.goto 16, 3) := by decide +kernel
theorem dL_acts_1162 : decode cL_acts 1162 = .ok (.iload 10, 2) := by decide +kernel
theorem dL_acts_1164 : decode cL_acts 1164 = .ok (.ifCond .eq 7, 3) := by decide +kernel
theorem dL_acts_1167 : decode cL_acts 1167 = .ok (.iconst 0, 1) := by decide +kernel
theorem dL_acts_1168 : decode cL_acts 1168 = .ok (.goto 7, 3) := by decide +kernel
theorem dL_acts_1171 : decode cL_acts 1171 = .ok (.iload 11, 2) := by decide +kernel
theorem dL_acts_1173 : decode cL_acts 1173 = .ok (.iconst 1, 1) := by decide +kernel
theorem dL_acts_1174 : decode cL_acts 1174 = .ok (.iadd, 1) := by decide +kernel
theorem dL_acts_1175 : decode cL_acts 1175 = .ok (.if_icmp .ne 7, 3) := by decide +kernel
theorem dL_acts_1178 : decode cL_acts 1178 = .ok (.iconst 1, 1) := by decide +kernel
theorem dL_acts_1179 : decode cL_acts 1179 = .ok (.goto 4, 3) := by decide +kernel
theorem dL_acts_1182 : decode cL_acts 1182 = .ok (.iconst 0, 1) := by decide +kernel
theorem dL_acts_1183 : decode cL_acts 1183 = .ok (.ireturn, 1) := by decide +kernel
theorem dL_acts_1184 : decode cL_acts 1184 = .ok (.iload 7, 2) := by decide +kernel
theorem dL_acts_1186 : decode cL_acts 1186 = .ok (.bipush 21, 2) := by decide +kernel
theorem dL_acts_1188 : decode cL_acts 1188 = .ok (.if_icmp .ne 127, 3) := by decide +kernel
theorem dL_acts_1191 : decode cL_acts 1191 = .ok (.iload 6, 2) := by decide +kernel
theorem dL_acts_1193 : decode cL_acts 1193 = .ok (.iconst 4, 1) := by decide +kernel
theorem dL_acts_1194 : decode cL_acts 1194 = .ok (.ishr, 1) := by decide +kernel
theorem dL_acts_1195 : decode cL_acts 1195 = .ok (.iconst 3, 1) := by decide +kernel
theorem dL_acts_1196 : decode cL_acts 1196 = .ok (.invokestatic 142, 3) := by decide +kernel
theorem dL_acts_1199 : decode cL_acts 1199 = .ok (.ifCond .ne 7, 3) := by decide +kernel
theorem dL_acts_1202 : decode cL_acts 1202 = .ok (.iconst 0, 1) := by decide +kernel
theorem dL_acts_1203 : decode cL_acts 1203 = .ok (.goto 13, 3) := by decide +kernel
theorem dL_acts_1206 : decode cL_acts 1206 = .ok (.iload 6, 2) := by decide +kernel
theorem dL_acts_1208 : decode cL_acts 1208 = .ok (.bipush 6, 2) := by decide +kernel
theorem dL_acts_1210 : decode cL_acts 1210 = .ok (.ishr, 1) := by decide +kernel
theorem dL_acts_1211 : decode cL_acts 1211 = .ok (.bipush 49, 2) := by decide +kernel
theorem dL_acts_1213 : decode cL_acts 1213 = .ok (.invokestatic 142, 3) := by decide +kernel
theorem dL_acts_1216 : decode cL_acts 1216 = .ok (.istore 10, 2) := by decide +kernel
theorem dL_acts_1218 : decode cL_acts 1218 = .ok (.iload 9, 2) := by decide +kernel
theorem dL_acts_1220 : decode cL_acts 1220 = .ok (.iconst 5, 1) := by decide +kernel
theorem dL_acts_1221 : decode cL_acts 1221 = .ok (.if_icmp .ne 7, 3) := by decide +kernel
theorem dL_acts_1224 : decode cL_acts 1224 = .ok (.iconst 0, 1) := by decide +kernel
theorem dL_acts_1225 : decode cL_acts 1225 = .ok (.goto 5, 3) := by decide +kernel
theorem dL_acts_1228 : decode cL_acts 1228 = .ok (.ldc 47, 2) := by decide +kernel
theorem dL_acts_1230 : decode cL_acts 1230 = .ok (.istore 11, 2) := by decide +kernel
theorem dL_acts_1232 : decode cL_acts 1232 = .ok (.aload_n 0, 1) := by decide +kernel
theorem dL_acts_1233 : decode cL_acts 1233 = .ok (.invokevirtual 103, 3) := by decide +kernel
theorem dL_acts_1236 : decode cL_acts 1236 = .ok (.istore 12, 2) := by decide +kernel
theorem dL_acts_1238 : decode cL_acts 1238 = .ok (.aload_n 0, 1) := by decide +kernel
theorem dL_acts_1239 : decode cL_acts 1239 = .ok (.iload 8, 2) := by decide +kernel
theorem dL_acts_1241 : decode cL_acts 1241 = .ok (.iload 10, 2) := by decide +kernel
theorem dL_acts_1243 : decode cL_acts 1243 = .ok (.invokestatic 166, 3) := by decide +kernel
theorem dL_acts_1246 : decode cL_acts 1246 = .ok (.iload 11, 2) := by decide +kernel
theorem dL_acts_1248 : decode cL_acts 1248 = .ok (.if_icmp .ne 65, 3) := by decide +kernel
theorem dL_acts_1251 : decode cL_acts 1251 = .ok (.aload_n 1, 1) := by decide +kernel
theorem dL_acts_1252 : decode cL_acts 1252 = .ok (.iload 8, 2) := by decide +kernel
theorem dL_acts_1254 : decode cL_acts 1254 = .ok (.iload 10, 2) := by decide +kernel
theorem dL_acts_1256 : decode cL_acts 1256 = .ok (.invokestatic 166, 3) := by decide +kernel
theorem dL_acts_1259 : decode cL_acts 1259 = .ok (.iload 11, 2) := by decide +kernel
theorem dL_acts_1261 : decode cL_acts 1261 = .ok (.if_icmp .ne 52, 3) := by decide +kernel
theorem dL_acts_1264 : decode cL_acts 1264 = .ok (.iload 11, 2) := by decide +kernel
theorem dL_acts_1266 : decode cL_acts 1266 = .ok (.ifCond .lt 43, 3) := by decide +kernel
theorem dL_acts_1269 : decode cL_acts 1269 = .ok (.aload_n 0, 1) := by decide +kernel
theorem dL_acts_1270 : decode cL_acts 1270 = .ok (.iload 8, 2) := by decide +kernel
theorem dL_acts_1272 : decode cL_acts 1272 = .ok (.invokestatic 109, 3) := by decide +kernel
theorem dL_acts_1275 : decode cL_acts 1275 = .ok (.iload 10, 2) := by decide +kernel
theorem dL_acts_1277 : decode cL_acts 1277 = .ok (.ifCond .ne 7, 3) := by decide +kernel
theorem dL_acts_1280 : decode cL_acts 1280 = .ok (.iconst 1, 1) := by decide +kernel
theorem dL_acts_1281 : decode cL_acts 1281 = .ok (.goto 5, 3) := by decide +kernel
theorem dL_acts_1284 : decode cL_acts 1284 = .ok (.bipush 6, 2) := by decide +kernel
theorem dL_acts_1286 : decode cL_acts 1286 = .ok (.if_icmp .ne 27, 3) := by decide +kernel
theorem dL_acts_1289 : decode cL_acts 1289 = .ok (.aload_n 0, 1) := by decide +kernel
theorem dL_acts_1290 : decode cL_acts 1290 = .ok (.invokevirtual 103, 3) := by decide +kernel
theorem dL_acts_1293 : decode cL_acts 1293 = .ok (.iload 12, 2) := by decide +kernel
theorem dL_acts_1295 : decode cL_acts 1295 = .ok (.iload 10, 2) := by decide +kernel
theorem dL_acts_1297 : decode cL_acts 1297 = .ok (.ifCond .ne 7, 3) := by decide +kernel
theorem dL_acts_1300 : decode cL_acts 1300 = .ok (.iconst 1, 1) := by decide +kernel
theorem dL_acts_1301 : decode cL_acts 1301 = .ok (.goto 4, 3) := by decide +kernel
theorem dL_acts_1304 : decode cL_acts 1304 = .ok (.iconst 0, 1) := by decide +kernel
theorem dL_acts_1305 : decode cL_acts 1305 = .ok (.iadd, 1) := by decide +kernel
theorem dL_acts_1306 : decode cL_acts 1306 = .ok (.if_icmp .ne 7, 3) := by decide +kernel
theorem dL_acts_1309 : decode cL_acts 1309 = .ok (.iconst 1, 1) := by decide +kernel
theorem dL_acts_1310 : decode cL_acts 1310 = .ok (.goto 4, 3) := by decide +kernel
theorem dL_acts_1313 : decode cL_acts 1313 = .ok (.iconst 0, 1) := by decide +kernel
theorem dL_acts_1314 : decode cL_acts 1314 = .ok (.ireturn, 1) := by decide +kernel
theorem dL_acts_1315 : decode cL_acts 1315 = .ok (.iload 7, 2) := by decide +kernel
theorem dL_acts_1317 : decode cL_acts 1317 = .ok (.bipush 22, 2) := by decide +kernel
theorem dL_acts_1319 : decode cL_acts 1319 = .ok (.if_icmp .ne 7, 3) := by decide +kernel
theorem dL_acts_1322 : decode cL_acts 1322 = .ok (.iconst 1, 1) := by decide +kernel
theorem dL_acts_1323 : decode cL_acts 1323 = .ok (.goto 4, 3) := by decide +kernel
theorem dL_acts_1326 : decode cL_acts 1326 = .ok (.iconst 0, 1) := by decide +kernel
theorem dL_acts_1327 : decode cL_acts 1327 = .ok (.istore 10, 2) := by decide +kernel
theorem dL_acts_1329 : decode cL_acts 1329 = .ok (.iload 9, 2) := by decide +kernel
theorem dL_acts_1331 : decode cL_acts 1331 = .ok (.iload 10, 2) := by decide +kernel
theorem dL_acts_1333 : decode cL_acts 1333 = .ok (.ifCond .eq 8, 3) := by decide +kernel
theorem dL_acts_1336 : decode cL_acts 1336 = .ok (.bipush 6, 2) := by decide +kernel
theorem dL_acts_1338 : decode cL_acts 1338 = .ok (.goto 5, 3) := by decide +kernel
theorem dL_acts_1341 : decode cL_acts 1341 = .ok (.bipush 7, 2) := by decide +kernel
theorem dL_acts_1343 : decode cL_acts 1343 = .ok (.if_icmp .ne 7, 3) := by decide +kernel
theorem dL_acts_1346 : decode cL_acts 1346 = .ok (.iconst 0, 1) := by decide +kernel
theorem dL_acts_1347 : decode cL_acts 1347 = .ok (.goto 5, 3) := by decide +kernel
theorem dL_acts_1350 : decode cL_acts 1350 = .ok (.ldc 47, 2) := by decide +kernel
theorem dL_acts_1352 : decode cL_acts 1352 = .ok (.istore 11, 2) := by decide +kernel
theorem dL_acts_1354 : decode cL_acts 1354 = .ok (.iload 10, 2) := by decide +kernel
theorem dL_acts_1356 : decode cL_acts 1356 = .ok (.ifCond .eq 12, 3) := by decide +kernel
theorem dL_acts_1359 : decode cL_acts 1359 = .ok (.aload_n 0, 1) := by decide +kernel
theorem dL_acts_1360 : decode cL_acts 1360 = .ok (.iload 8, 2) := by decide +kernel
theorem dL_acts_1362 : decode cL_acts 1362 = .ok (.invokestatic 168, 3) := by decide +kernel
theorem dL_acts_1365 : decode cL_acts 1365 = .ok (.goto 9, 3) := by decide +kernel
theorem dL_acts_1368 : decode cL_acts 1368 = .ok (.aload_n 0, 1) := by decide +kernel
theorem dL_acts_1369 : decode cL_acts 1369 = .ok (.iload 8, 2) := by decide +kernel
theorem dL_acts_1371 : decode cL_acts 1371 = .ok (.invokestatic 170, 3) := by decide +kernel
theorem dL_acts_1374 : decode cL_acts 1374 = .ok (.iload 11, 2) := by decide +kernel
theorem dL_acts_1376 : decode cL_acts 1376 = .ok (.if_icmp .ne 65, 3) := by decide +kernel
theorem dL_acts_1379 : decode cL_acts 1379 = .ok (.iload 10, 2) := by decide +kernel
theorem dL_acts_1381 : decode cL_acts 1381 = .ok (.ifCond .eq 12, 3) := by decide +kernel
theorem dL_acts_1384 : decode cL_acts 1384 = .ok (.aload_n 1, 1) := by decide +kernel
theorem dL_acts_1385 : decode cL_acts 1385 = .ok (.iload 8, 2) := by decide +kernel
theorem dL_acts_1387 : decode cL_acts 1387 = .ok (.invokestatic 168, 3) := by decide +kernel
theorem dL_acts_1390 : decode cL_acts 1390 = .ok (.goto 9, 3) := by decide +kernel
theorem dL_acts_1393 : decode cL_acts 1393 = .ok (.aload_n 1, 1) := by decide +kernel
theorem dL_acts_1394 : decode cL_acts 1394 = .ok (.iload 8, 2) := by decide +kernel
theorem dL_acts_1396 : decode cL_acts 1396 = .ok (.invokestatic 170, 3) := by decide +kernel
theorem dL_acts_1399 : decode cL_acts 1399 = .ok (.iload 11, 2) := by decide +kernel
theorem dL_acts_1401 : decode cL_acts 1401 = .ok (.if_icmp .ne 40, 3) := by decide +kernel
theorem dL_acts_1404 : decode cL_acts 1404 = .ok (.iload 11, 2) := by decide +kernel
theorem dL_acts_1406 : decode cL_acts 1406 = .ok (.ifCond .lt 31, 3) := by decide +kernel
theorem dL_acts_1409 : decode cL_acts 1409 = .ok (.aload_n 0, 1) := by decide +kernel
theorem dL_acts_1410 : decode cL_acts 1410 = .ok (.iload 8, 2) := by decide +kernel
theorem dL_acts_1412 : decode cL_acts 1412 = .ok (.invokestatic 109, 3) := by decide +kernel
theorem dL_acts_1415 : decode cL_acts 1415 = .ok (.iload 10, 2) := by decide +kernel
theorem dL_acts_1417 : decode cL_acts 1417 = .ok (.ifCond .eq 7, 3) := by decide +kernel
theorem dL_acts_1420 : decode cL_acts 1420 = .ok (.iconst 5, 1) := by decide +kernel
theorem dL_acts_1421 : decode cL_acts 1421 = .ok (.goto 4, 3) := by decide +kernel
theorem dL_acts_1424 : decode cL_acts 1424 = .ok (.iconst 1, 1) := by decide +kernel
theorem dL_acts_1425 : decode cL_acts 1425 = .ok (.if_icmp .ne 16, 3) := by decide +kernel
theorem dL_acts_1428 : decode cL_acts 1428 = .ok (.aload_n 0, 1) := by decide +kernel
theorem dL_acts_1429 : decode cL_acts 1429 = .ok (.iload 8, 2) := by decide +kernel
theorem dL_acts_1431 : decode cL_acts 1431 = .ok (.invokestatic 122, 3) := by decide +kernel
theorem dL_acts_1434 : decode cL_acts 1434 = .ok (.ifCond .ne 7, 3) := by decide +kernel
theorem dL_acts_1437 : decode cL_acts 1437 = .ok (.iconst 1, 1) := by decide +kernel
theorem dL_acts_1438 : decode cL_acts 1438 = .ok (.goto 4, 3) := by decide +kernel
theorem dL_acts_1441 : decode cL_acts 1441 = .ok (.iconst 0, 1) := by decide +kernel
theorem dL_acts_1442 : decode cL_acts 1442 = .ok (.ireturn, 1) := by decide +kernel
set_option maxRecDepth 20000 in
theorem ggL_law_X3_init : GoodIn wsL_law wsX3_init := goodIn_r _ [8, 9, 10, 11, 12, 13, 14, 15, 3, 16, 17, 18, 19, 20, 21, 22, 23, 24, 25, 26, 27, 28, 29, 30, 31, 32, 33, 34, 35, 36, 37, 38, 39, 40, 41, 42, 43, 44, 45, 46, 47, 48, 49, 50, 51, 52, 53, 54, 55, 56, 57, 58, 59, 60, 61, 428, 429, 430, 431, 432, 433, 434, 435, 436, 437, 438, 439, 440, 441, 442, 443, 444, 445, 446, 447, 448, 449, 450, 451, 452, 453, 454, 455, 456, 457] (by decide +kernel) (by decide +kernel)
set_option maxRecDepth 20000 in
theorem gL_law_X3_init : GoodIn wsL_law (wsX3_init) := ggL_law_X3_init
set_option maxRecDepth 20000 in
theorem ggL_law_X3_nextChange : GoodIn wsL_law wsX3_nextChange := goodIn_r _ [65, 13, 66, 23, 67, 68, 69, 27, 70, 40, 428, 429, 430, 431, 432, 433, 434, 435, 436, 440, 441, 442, 443, 444, 445, 446, 447, 448, 449] (by decide +kernel) (by decide +kernel)
set_option maxRecDepth 20000 in
theorem gL_law_X3_nextChange : GoodIn wsL_law (wsV RL 137 RX3 yX3_nextChange wsX3_nextChange) := goodIn_app (goodIn_of _ (by decide +kernel)) ggL_law_X3_nextChange
set_option maxRecDepth 20000 in
theorem ggL_law_X3_entries : GoodIn wsL_law wsX3_entries := goodIn_r _ [74, 20, 75, 76, 77, 19, 78, 35, 33, 79, 80, 81, 82, 428, 429, 430, 431, 432, 433, 434, 435, 436, 437, 438, 439] (by decide +kernel) (by decide +kernel)
set_option maxRecDepth 20000 in
theorem gL_law_X3_entries : GoodIn wsL_law (wsV RL 106 RX3 yX3_entries wsX3_entries) := goodIn_app (goodIn_of _ (by decide +kernel)) ggL_law_X3_entries
set_option maxRecDepth 20000 in
theorem ggL_law_X3_wipes : GoodIn wsL_law wsX3_wipes := goodIn_r _ [86, 24, 428, 429, 430, 431, 432, 433, 434, 435, 436] (by decide +kernel) (by decide +kernel)
set_option maxRecDepth 20000 in
theorem gL_law_X3_wipes : GoodIn wsL_law (wsV RL 103 RX3 yX3_wipes wsX3_wipes) := goodIn_app (goodIn_of _ (by decide +kernel)) ggL_law_X3_wipes
set_option maxRecDepth 20000 in
theorem ggL_law_X3_now : GoodIn wsL_law wsX3_now := goodIn_r _ [90, 23, 428, 429, 430, 431, 432, 433, 434, 435, 436] (by decide +kernel) (by decide +kernel)
set_option maxRecDepth 20000 in
theorem gL_law_X3_now : GoodIn wsL_law (wsV RL 99 RX3 yX3_now wsX3_now) := goodIn_app (goodIn_of _ (by decide +kernel)) ggL_law_X3_now
set_option maxRecDepth 20000 in
theorem ggL_law_L_at : GoodIn wsL_law wsL_at := goodIn_r _ [94, 95, 96] (by decide +kernel) (by decide +kernel)
set_option maxRecDepth 20000 in
theorem gL_law_L_at : GoodIn wsL_law (va_wsS RL 173 yL_at wsL_at) := goodIn_app (goodIn_of _ (by decide +kernel)) ggL_law_L_at
set_option maxRecDepth 20000 in
theorem ggL_law_L_low : GoodIn wsL_law wsL_low := goodIn_r _ [99, 100] (by decide +kernel) (by decide +kernel)
set_option maxRecDepth 20000 in
theorem gL_law_L_low : GoodIn wsL_law (va_wsS RL 142 yL_low wsL_low) := goodIn_app (goodIn_of _ (by decide +kernel)) ggL_law_L_low
set_option maxRecDepth 20000 in
theorem ggL_law_L_passes : GoodIn wsL_law wsL_passes := goodIn_ca (goodIn_r _ [103, 62, 63, 64, 2, 65, 13, 66, 23, 67, 68, 69, 27, 70, 40, 87, 88, 89, 90, 104, 105, 93, 106, 107, 5, 108, 109, 110, 111, 20, 112, 113, 114, 115, 116, 117, 118, 119, 120, 121, 122, 123, 124, 125, 126, 127, 128, 129, 47, 130, 131, 132, 133, 134, 22, 21, 135, 136, 137, 138, 139, 140, 141, 142, 143, 19, 144, 33, 34, 35, 145, 146, 147, 148, 149, 150, 151, 152, 24, 153, 154, 155, 156, 157, 158, 159, 160, 161, 162, 163, 164, 165, 25, 166, 167, 168, 169, 16, 170, 171, 172, 173, 174, 175, 176, 177, 178, 179, 180, 181, 182, 183, 184, 185, 186, 41, 187, 188, 189, 190, 191, 192, 193, 194, 195, 196, 197, 198, 199, 200, 201, 15, 202, 203, 204, 205, 29, 206, 54, 207, 208, 56, 57, 209, 210, 58, 59, 428, 429, 430, 431, 432, 433, 434, 435, 436, 440, 441, 442, 443, 444, 445, 446, 447, 448, 449, 437, 438, 439, 450, 451, 452, 453, 454, 455, 456, 457] (by decide +kernel) (by decide +kernel)) (goodIn_sub (fun _ h => List.mem_append_left _ (List.mem_append_left _ (List.mem_append_right _ h))) (by decide +kernel))
set_option maxRecDepth 20000 in
theorem gL_law_L_passes : GoodIn wsL_law (va_wsS RL 177 yL_passes wsL_passes) := goodIn_app (goodIn_of _ (by decide +kernel)) ggL_law_L_passes
