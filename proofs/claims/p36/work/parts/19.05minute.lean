abbrev rm_Law_minute : Room := { frames := 9, cells := 0, slots := 0, locals := 218 }
theorem d_Law_minute_0 : decode b_Law_minute 0 = .ok (.aload_n 0, 1) := by decide +kernel
theorem d_Law_minute_1 : decode b_Law_minute 1 = .ok (.getfield 10, 3) := by decide +kernel
theorem d_Law_minute_4 : decode b_Law_minute 4 = .ok (.invokevirtual 156, 3) := by decide +kernel
theorem d_Law_minute_7 : decode b_Law_minute 7 = .ok (.istore_n 1, 1) := by decide +kernel
theorem d_Law_minute_8 : decode b_Law_minute 8 = .ok (.aload_n 0, 1) := by decide +kernel
theorem d_Law_minute_9 : decode b_Law_minute 9 = .ok (.getfield 10, 3) := by decide +kernel
theorem d_Law_minute_12 : decode b_Law_minute 12 = .ok (.invokevirtual 160, 3) := by decide +kernel
theorem d_Law_minute_15 : decode b_Law_minute 15 = .ok (.istore_n 2, 1) := by decide +kernel
theorem d_Law_minute_16 : decode b_Law_minute 16 = .ok (.aload_n 0, 1) := by decide +kernel
theorem d_Law_minute_17 : decode b_Law_minute 17 = .ok (.getfield 10, 3) := by decide +kernel
theorem d_Law_minute_20 : decode b_Law_minute 20 = .ok (.bipush 8, 2) := by decide +kernel
theorem d_Law_minute_22 : decode b_Law_minute 22 = .ok (.invokestatic 144, 3) := by decide +kernel
theorem d_Law_minute_25 : decode b_Law_minute 25 = .ok (.istore_n 3, 1) := by decide +kernel
theorem d_Law_minute_26 : decode b_Law_minute 26 = .ok (.aload_n 0, 1) := by decide +kernel
theorem d_Law_minute_27 : decode b_Law_minute 27 = .ok (.getfield 10, 3) := by decide +kernel
theorem d_Law_minute_30 : decode b_Law_minute 30 = .ok (.bipush 10, 2) := by decide +kernel
theorem d_Law_minute_32 : decode b_Law_minute 32 = .ok (.invokestatic 144, 3) := by decide +kernel
theorem d_Law_minute_35 : decode b_Law_minute 35 = .ok (.istore 4, 2) := by decide +kernel
theorem d_Law_minute_37 : decode b_Law_minute 37 = .ok (.aload_n 0, 1) := by decide +kernel
theorem d_Law_minute_38 : decode b_Law_minute 38 = .ok (.getfield 10, 3) := by decide +kernel
theorem d_Law_minute_41 : decode b_Law_minute 41 = .ok (.iconst 1, 1) := by decide +kernel
theorem d_Law_minute_42 : decode b_Law_minute 42 = .ok (.iconst 3, 1) := by decide +kernel
theorem d_Law_minute_43 : decode b_Law_minute 43 = .ok (.invokestatic 162, 3) := by decide +kernel
theorem d_Law_minute_46 : decode b_Law_minute 46 = .ok (.istore 5, 2) := by decide +kernel
theorem d_Law_minute_48 : decode b_Law_minute 48 = .ok (.aload_n 0, 1) := by decide +kernel
theorem d_Law_minute_49 : decode b_Law_minute 49 = .ok (.getfield 10, 3) := by decide +kernel
theorem d_Law_minute_52 : decode b_Law_minute 52 = .ok (.iconst 1, 1) := by decide +kernel
theorem d_Law_minute_53 : decode b_Law_minute 53 = .ok (.iconst 1, 1) := by decide +kernel
theorem d_Law_minute_54 : decode b_Law_minute 54 = .ok (.invokestatic 162, 3) := by decide +kernel
theorem d_Law_minute_57 : decode b_Law_minute 57 = .ok (.istore 6, 2) := by decide +kernel
theorem d_Law_minute_59 : decode b_Law_minute 59 = .ok (.aload_n 0, 1) := by decide +kernel
theorem d_Law_minute_60 : decode b_Law_minute 60 = .ok (.getfield 10, 3) := by decide +kernel
theorem d_Law_minute_63 : decode b_Law_minute 63 = .ok (.iconst 1, 1) := by decide +kernel
theorem d_Law_minute_64 : decode b_Law_minute 64 = .ok (.iconst 2, 1) := by decide +kernel
theorem d_Law_minute_65 : decode b_Law_minute 65 = .ok (.invokestatic 162, 3) := by decide +kernel
theorem d_Law_minute_68 : decode b_Law_minute 68 = .ok (.istore 7, 2) := by decide +kernel
theorem d_Law_minute_70 : decode b_Law_minute 70 = .ok (.iconst 0, 1) := by decide +kernel
theorem d_Law_minute_71 : decode b_Law_minute 71 = .ok (.istore 8, 2) := by decide +kernel
theorem d_Law_minute_73 : decode b_Law_minute 73 = .ok (.iconst 0, 1) := by decide +kernel
theorem d_Law_minute_74 : decode b_Law_minute 74 = .ok (.istore 9, 2) := by decide +kernel
theorem d_Law_minute_76 : decode b_Law_minute 76 = .ok (.iconst 0, 1) := by decide +kernel
theorem d_Law_minute_77 : decode b_Law_minute 77 = .ok (.istore 10, 2) := by decide +kernel
theorem d_Law_minute_79 : decode b_Law_minute 79 = .ok (.iconst 0, 1) := by decide +kernel
theorem d_Law_minute_80 : decode b_Law_minute 80 = .ok (.istore 11, 2) := by decide +kernel
theorem d_Law_minute_82 : decode b_Law_minute 82 = .ok (.dconst 0, 1) := by decide +kernel
theorem d_Law_minute_83 : decode b_Law_minute 83 = .ok (.dstore 12, 2) := by decide +kernel
theorem d_Law_minute_85 : decode b_Law_minute 85 = .ok (.iload_n 3, 1) := by decide +kernel
theorem d_Law_minute_86 : decode b_Law_minute 86 = .ok (.ifCond .le 20, 3) := by decide +kernel
theorem d_Law_minute_89 : decode b_Law_minute 89 = .ok (.iload_n 3, 1) := by decide +kernel
theorem d_Law_minute_90 : decode b_Law_minute 90 = .ok (.aload_n 0, 1) := by decide +kernel
theorem d_Law_minute_91 : decode b_Law_minute 91 = .ok (.getfield 10, 3) := by decide +kernel
theorem d_Law_minute_94 : decode b_Law_minute 94 = .ok (.iconst 5, 1) := by decide +kernel
theorem d_Law_minute_95 : decode b_Law_minute 95 = .ok (.invokestatic 144, 3) := by decide +kernel
theorem d_Law_minute_98 : decode b_Law_minute 98 = .ok (.irem, 1) := by decide +kernel
theorem d_Law_minute_99 : decode b_Law_minute 99 = .ok (.ifCond .ne 7, 3) := by decide +kernel
theorem d_Law_minute_102 : decode b_Law_minute 102 = .ok (.iconst 1, 1) := by decide +kernel
theorem d_Law_minute_103 : decode b_Law_minute 103 = .ok (.goto 4, 3) := by decide +kernel
theorem d_Law_minute_106 : decode b_Law_minute 106 = .ok (.iconst 0, 1) := by decide +kernel
theorem d_Law_minute_107 : decode b_Law_minute 107 = .ok (.istore 14, 2) := by decide +kernel
theorem d_Law_minute_109 : decode b_Law_minute 109 = .ok (.iconst 0, 1) := by decide +kernel
theorem d_Law_minute_110 : decode b_Law_minute 110 = .ok (.istore 15, 2) := by decide +kernel
theorem d_Law_minute_112 : decode b_Law_minute 112 = .ok (.iload 15, 2) := by decide +kernel
theorem d_Law_minute_114 : decode b_Law_minute 114 = .ok (.aload_n 0, 1) := by decide +kernel
theorem d_Law_minute_115 : decode b_Law_minute 115 = .ok (.getfield 10, 3) := by decide +kernel
theorem d_Law_minute_118 : decode b_Law_minute 118 = .ok (.bipush 6, 2) := by decide +kernel
theorem d_Law_minute_120 : decode b_Law_minute 120 = .ok (.invokestatic 144, 3) := by decide +kernel
theorem d_Law_minute_123 : decode b_Law_minute 123 = .ok (.if_icmp .ge 175, 3) := by decide +kernel
theorem d_Law_minute_126 : decode b_Law_minute 126 = .ok (.aload_n 0, 1) := by decide +kernel
theorem d_Law_minute_127 : decode b_Law_minute 127 = .ok (.getfield 10, 3) := by decide +kernel
theorem d_Law_minute_130 : decode b_Law_minute 130 = .ok (.iload 15, 2) := by decide +kernel
theorem d_Law_minute_132 : decode b_Law_minute 132 = .ok (.iconst 3, 1) := by decide +kernel
theorem d_Law_minute_133 : decode b_Law_minute 133 = .ok (.invokestatic 152, 3) := by decide +kernel
theorem d_Law_minute_136 : decode b_Law_minute 136 = .ok (.istore 16, 2) := by decide +kernel
theorem d_Law_minute_138 : decode b_Law_minute 138 = .ok (.iload 11, 2) := by decide +kernel
theorem d_Law_minute_140 : decode b_Law_minute 140 = .ok (.iload 14, 2) := by decide +kernel
theorem d_Law_minute_142 : decode b_Law_minute 142 = .ok (.ifCond .eq 26, 3) := by decide +kernel
theorem d_Law_minute_145 : decode b_Law_minute 145 = .ok (.sipush 999, 3) := by decide +kernel
theorem d_Law_minute_148 : decode b_Law_minute 148 = .ok (.iload 16, 2) := by decide +kernel
theorem d_Law_minute_150 : decode b_Law_minute 150 = .ok (.aload_n 0, 1) := by decide +kernel
theorem d_Law_minute_151 : decode b_Law_minute 151 = .ok (.getfield 10, 3) := by decide +kernel
theorem d_Law_minute_154 : decode b_Law_minute 154 = .ok (.iconst 2, 1) := by decide +kernel
theorem d_Law_minute_155 : decode b_Law_minute 155 = .ok (.invokestatic 144, 3) := by decide +kernel
theorem d_Law_minute_158 : decode b_Law_minute 158 = .ok (.iadd, 1) := by decide +kernel
theorem d_Law_minute_159 : decode b_Law_minute 159 = .ok (.invokestatic 164, 3) := by decide +kernel
theorem d_Law_minute_162 : decode b_Law_minute 162 = .ok (.iload 16, 2) := by decide +kernel
theorem d_Law_minute_164 : decode b_Law_minute 164 = .ok (.isub, 1) := by decide +kernel
theorem d_Law_minute_165 : decode b_Law_minute 165 = .ok (.goto 4, 3) := by decide +kernel
theorem d_Law_minute_168 : decode b_Law_minute 168 = .ok (.iconst 0, 1) := by decide +kernel
theorem d_Law_minute_169 : decode b_Law_minute 169 = .ok (.iadd, 1) := by decide +kernel
theorem d_Law_minute_170 : decode b_Law_minute 170 = .ok (.istore 11, 2) := by decide +kernel
theorem d_Law_minute_172 : decode b_Law_minute 172 = .ok (.iload 8, 2) := by decide +kernel
theorem d_Law_minute_174 : decode b_Law_minute 174 = .ok (.iload 16, 2) := by decide +kernel
theorem d_Law_minute_176 : decode b_Law_minute 176 = .ok (.iadd, 1) := by decide +kernel
theorem d_Law_minute_177 : decode b_Law_minute 177 = .ok (.istore 8, 2) := by decide +kernel
theorem d_Law_minute_179 : decode b_Law_minute 179 = .ok (.iload 9, 2) := by decide +kernel
theorem d_Law_minute_181 : decode b_Law_minute 181 = .ok (.aload_n 0, 1) := by decide +kernel
theorem d_Law_minute_182 : decode b_Law_minute 182 = .ok (.getfield 10, 3) := by decide +kernel
theorem d_Law_minute_185 : decode b_Law_minute 185 = .ok (.iload 15, 2) := by decide +kernel
theorem d_Law_minute_187 : decode b_Law_minute 187 = .ok (.bipush 10, 2) := by decide +kernel
theorem d_Law_minute_189 : decode b_Law_minute 189 = .ok (.invokestatic 152, 3) := by decide +kernel
theorem d_Law_minute_192 : decode b_Law_minute 192 = .ok (.invokestatic 167, 3) := by decide +kernel
theorem d_Law_minute_195 : decode b_Law_minute 195 = .ok (.iadd, 1) := by decide +kernel
theorem d_Law_minute_196 : decode b_Law_minute 196 = .ok (.istore 9, 2) := by decide +kernel
theorem d_Law_minute_198 : decode b_Law_minute 198 = .ok (.iload 10, 2) := by decide +kernel
theorem d_Law_minute_200 : decode b_Law_minute 200 = .ok (.aload_n 0, 1) := by decide +kernel
theorem d_Law_minute_201 : decode b_Law_minute 201 = .ok (.getfield 10, 3) := by decide +kernel
theorem d_Law_minute_204 : decode b_Law_minute 204 = .ok (.iload 15, 2) := by decide +kernel
theorem d_Law_minute_206 : decode b_Law_minute 206 = .ok (.bipush 11, 2) := by decide +kernel
theorem d_Law_minute_208 : decode b_Law_minute 208 = .ok (.invokestatic 152, 3) := by decide +kernel
theorem d_Law_minute_211 : decode b_Law_minute 211 = .ok (.invokestatic 167, 3) := by decide +kernel
theorem d_Law_minute_214 : decode b_Law_minute 214 = .ok (.iadd, 1) := by decide +kernel
theorem d_Law_minute_215 : decode b_Law_minute 215 = .ok (.istore 10, 2) := by decide +kernel
theorem d_Law_minute_217 : decode b_Law_minute 217 = .ok (.aload_n 0, 1) := by decide +kernel
theorem d_Law_minute_218 : decode b_Law_minute 218 = .ok (.getfield 10, 3) := by decide +kernel
theorem d_Law_minute_221 : decode b_Law_minute 221 = .ok (.iload 15, 2) := by decide +kernel
theorem d_Law_minute_223 : decode b_Law_minute 223 = .ok (.invokestatic 172, 3) := by decide +kernel
theorem d_Law_minute_226 : decode b_Law_minute 226 = .ok (.dstore 17, 2) := by decide +kernel
theorem d_Law_minute_228 : decode b_Law_minute 228 = .ok (.dload 17, 2) := by decide +kernel
theorem d_Law_minute_230 : decode b_Law_minute 230 = .ok (.dconst 0, 1) := by decide +kernel
theorem d_Law_minute_231 : decode b_Law_minute 231 = .ok (.dcmp .l, 1) := by decide +kernel
theorem d_Law_minute_232 : decode b_Law_minute 232 = .ok (.ifCond .le 7, 3) := by decide +kernel
theorem d_Law_minute_235 : decode b_Law_minute 235 = .ok (.iconst 1, 1) := by decide +kernel
theorem d_Law_minute_236 : decode b_Law_minute 236 = .ok (.goto 4, 3) := by decide +kernel
theorem d_Law_minute_239 : decode b_Law_minute 239 = .ok (.iconst 0, 1) := by decide +kernel
theorem d_Law_minute_240 : decode b_Law_minute 240 = .ok (.iload_n 1, 1) := by decide +kernel
theorem d_Law_minute_241 : decode b_Law_minute 241 = .ok (.iload 15, 2) := by decide +kernel
theorem d_Law_minute_243 : decode b_Law_minute 243 = .ok (.ishr, 1) := by decide +kernel
theorem d_Law_minute_244 : decode b_Law_minute 244 = .ok (.iconst 1, 1) := by decide +kernel
theorem d_Law_minute_245 : decode b_Law_minute 245 = .ok (.iand, 1) := by decide +kernel
theorem d_Law_minute_246 : decode b_Law_minute 246 = .ok (.iconst 1, 1) := by decide +kernel
theorem d_Law_minute_247 : decode b_Law_minute 247 = .ok (.if_icmp .ne 7, 3) := by decide +kernel
theorem d_Law_minute_250 : decode b_Law_minute 250 = .ok (.iconst 1, 1) := by decide +kernel
theorem d_Law_minute_251 : decode b_Law_minute 251 = .ok (.goto 4, 3) := by decide +kernel
theorem d_Law_minute_254 : decode b_Law_minute 254 = .ok (.iconst 0, 1) := by decide +kernel
theorem d_Law_minute_255 : decode b_Law_minute 255 = .ok (.if_icmp .ne 28, 3) := by decide +kernel
theorem d_Law_minute_258 : decode b_Law_minute 258 = .ok (.iload_n 1, 1) := by decide +kernel
theorem d_Law_minute_259 : decode b_Law_minute 259 = .ok (.iload 15, 2) := by decide +kernel
theorem d_Law_minute_261 : decode b_Law_minute 261 = .ok (.ishr, 1) := by decide +kernel
theorem d_Law_minute_262 : decode b_Law_minute 262 = .ok (.iconst 1, 1) := by decide +kernel
theorem d_Law_minute_263 : decode b_Law_minute 263 = .ok (.iand, 1) := by decide +kernel
theorem d_Law_minute_264 : decode b_Law_minute 264 = .ok (.iconst 1, 1) := by decide +kernel
theorem d_Law_minute_265 : decode b_Law_minute 265 = .ok (.if_icmp .ne 20, 3) := by decide +kernel
theorem d_Law_minute_268 : decode b_Law_minute 268 = .ok (.aload_n 0, 1) := by decide +kernel
theorem d_Law_minute_269 : decode b_Law_minute 269 = .ok (.getfield 10, 3) := by decide +kernel
theorem d_Law_minute_272 : decode b_Law_minute 272 = .ok (.iload 15, 2) := by decide +kernel
theorem d_Law_minute_274 : decode b_Law_minute 274 = .ok (.bipush 7, 2) := by decide +kernel
theorem d_Law_minute_276 : decode b_Law_minute 276 = .ok (.invokestatic 152, 3) := by decide +kernel
theorem d_Law_minute_279 : decode b_Law_minute 279 = .ok (.iconst 1, 1) := by decide +kernel
theorem d_Law_minute_280 : decode b_Law_minute 280 = .ok (.if_icmp .ne 5, 3) := by decide +kernel
theorem d_Law_minute_283 : decode b_Law_minute 283 = .ok (.iconst 0, 1) := by decide +kernel
theorem d_Law_minute_284 : decode b_Law_minute 284 = .ok (.ireturn, 1) := by decide +kernel
theorem d_Law_minute_285 : decode b_Law_minute 285 = .ok (.dload 12, 2) := by decide +kernel
theorem d_Law_minute_287 : decode b_Law_minute 287 = .ok (.dload 17, 2) := by decide +kernel
theorem d_Law_minute_289 : decode b_Law_minute 289 = .ok (.dadd, 1) := by decide +kernel
theorem d_Law_minute_290 : decode b_Law_minute 290 = .ok (.dstore 12, 2) := by decide +kernel
theorem d_Law_minute_292 : decode b_Law_minute 292 = .ok (.iinc 15 1, 3) := by decide +kernel
theorem d_Law_minute_295 : decode b_Law_minute 295 = .ok (.goto (-183), 3) := by decide +kernel
theorem d_Law_minute_298 : decode b_Law_minute 298 = .ok (.iload_n 2, 1) := by decide +kernel
theorem d_Law_minute_299 : decode b_Law_minute 299 = .ok (.ifCond .lt 7, 3) := by decide +kernel
theorem d_Law_minute_302 : decode b_Law_minute 302 = .ok (.iconst 1, 1) := by decide +kernel
theorem d_Law_minute_303 : decode b_Law_minute 303 = .ok (.goto 4, 3) := by decide +kernel
theorem d_Law_minute_306 : decode b_Law_minute 306 = .ok (.iconst 0, 1) := by decide +kernel
theorem d_Law_minute_307 : decode b_Law_minute 307 = .ok (.iload_n 1, 1) := by decide +kernel
theorem d_Law_minute_308 : decode b_Law_minute 308 = .ok (.ifCond .eq 7, 3) := by decide +kernel
theorem d_Law_minute_311 : decode b_Law_minute 311 = .ok (.iconst 1, 1) := by decide +kernel
theorem d_Law_minute_312 : decode b_Law_minute 312 = .ok (.goto 4, 3) := by decide +kernel
theorem d_Law_minute_315 : decode b_Law_minute 315 = .ok (.iconst 0, 1) := by decide +kernel
theorem d_Law_minute_316 : decode b_Law_minute 316 = .ok (.if_icmp .ne 37, 3) := by decide +kernel
theorem d_Law_minute_319 : decode b_Law_minute 319 = .ok (.iload_n 2, 1) := by decide +kernel
theorem d_Law_minute_320 : decode b_Law_minute 320 = .ok (.ifCond .lt 11, 3) := by decide +kernel
theorem d_Law_minute_323 : decode b_Law_minute 323 = .ok (.iload_n 1, 1) := by decide +kernel
theorem d_Law_minute_324 : decode b_Law_minute 324 = .ok (.iload_n 2, 1) := by decide +kernel
theorem d_Law_minute_325 : decode b_Law_minute 325 = .ok (.ishr, 1) := by decide +kernel
theorem d_Law_minute_326 : decode b_Law_minute 326 = .ok (.iconst 1, 1) := by decide +kernel
theorem d_Law_minute_327 : decode b_Law_minute 327 = .ok (.iand, 1) := by decide +kernel
theorem d_Law_minute_328 : decode b_Law_minute 328 = .ok (.ifCond .eq 25, 3) := by decide +kernel
theorem d_Law_minute_331 : decode b_Law_minute 331 = .ok (.iload_n 2, 1) := by decide +kernel
theorem d_Law_minute_332 : decode b_Law_minute 332 = .ok (.ifCond .lt 23, 3) := by decide +kernel
theorem d_Law_minute_335 : decode b_Law_minute 335 = .ok (.dload 12, 2) := by decide +kernel
theorem d_Law_minute_337 : decode b_Law_minute 337 = .ok (.ldc2_w 175, 3) := by decide +kernel
theorem d_Law_minute_340 : decode b_Law_minute 340 = .ok (.dcmp .g, 1) := by decide +kernel
theorem d_Law_minute_341 : decode b_Law_minute 341 = .ok (.ifCond .lt 12, 3) := by decide +kernel
theorem d_Law_minute_344 : decode b_Law_minute 344 = .ok (.dload 12, 2) := by decide +kernel
theorem d_Law_minute_346 : decode b_Law_minute 346 = .ok (.ldc2_w 177, 3) := by decide +kernel
theorem d_Law_minute_349 : decode b_Law_minute 349 = .ok (.dcmp .l, 1) := by decide +kernel
theorem d_Law_minute_350 : decode b_Law_minute 350 = .ok (.ifCond .le 5, 3) := by decide +kernel
theorem d_Law_minute_353 : decode b_Law_minute 353 = .ok (.iconst 0, 1) := by decide +kernel
theorem d_Law_minute_354 : decode b_Law_minute 354 = .ok (.ireturn, 1) := by decide +kernel
theorem d_Law_minute_355 : decode b_Law_minute 355 = .ok (.iload_n 2, 1) := by decide +kernel
theorem d_Law_minute_356 : decode b_Law_minute 356 = .ok (.ifCond .ge 7, 3) := by decide +kernel
theorem d_Law_minute_359 : decode b_Law_minute 359 = .ok (.iconst 0, 1) := by decide +kernel
theorem d_Law_minute_360 : decode b_Law_minute 360 = .ok (.goto 13, 3) := by decide +kernel
theorem d_Law_minute_363 : decode b_Law_minute 363 = .ok (.aload_n 0, 1) := by decide +kernel
theorem d_Law_minute_364 : decode b_Law_minute 364 = .ok (.getfield 10, 3) := by decide +kernel
theorem d_Law_minute_367 : decode b_Law_minute 367 = .ok (.iload_n 2, 1) := by decide +kernel
theorem d_Law_minute_368 : decode b_Law_minute 368 = .ok (.bipush 14, 2) := by decide +kernel
theorem d_Law_minute_370 : decode b_Law_minute 370 = .ok (.invokestatic 152, 3) := by decide +kernel
theorem d_Law_minute_373 : decode b_Law_minute 373 = .ok (.istore 15, 2) := by decide +kernel
theorem d_Law_minute_375 : decode b_Law_minute 375 = .ok (.aload_n 0, 1) := by decide +kernel
theorem d_Law_minute_376 : decode b_Law_minute 376 = .ok (.getfield 10, 3) := by decide +kernel
theorem d_Law_minute_379 : decode b_Law_minute 379 = .ok (.iconst 1, 1) := by decide +kernel
theorem d_Law_minute_380 : decode b_Law_minute 380 = .ok (.invokestatic 179, 3) := by decide +kernel
theorem d_Law_minute_383 : decode b_Law_minute 383 = .ok (.istore 16, 2) := by decide +kernel
theorem d_Law_minute_385 : decode b_Law_minute 385 = .ok (.iload 16, 2) := by decide +kernel
theorem d_Law_minute_387 : decode b_Law_minute 387 = .ok (.iload_n 2, 1) := by decide +kernel
theorem d_Law_minute_388 : decode b_Law_minute 388 = .ok (.ifCond .ge 7, 3) := by decide +kernel
theorem d_Law_minute_391 : decode b_Law_minute 391 = .ok (.iconst 0, 1) := by decide +kernel
theorem d_Law_minute_392 : decode b_Law_minute 392 = .ok (.goto 4, 3) := by decide +kernel
theorem d_Law_minute_395 : decode b_Law_minute 395 = .ok (.iconst 1, 1) := by decide +kernel
theorem d_Law_minute_396 : decode b_Law_minute 396 = .ok (.if_icmp .ne 35, 3) := by decide +kernel
theorem d_Law_minute_399 : decode b_Law_minute 399 = .ok (.aload_n 0, 1) := by decide +kernel
theorem d_Law_minute_400 : decode b_Law_minute 400 = .ok (.getfield 10, 3) := by decide +kernel
theorem d_Law_minute_403 : decode b_Law_minute 403 = .ok (.bipush 10, 2) := by decide +kernel
theorem d_Law_minute_405 : decode b_Law_minute 405 = .ok (.invokestatic 144, 3) := by decide +kernel
theorem d_Law_minute_408 : decode b_Law_minute 408 = .ok (.iload 4, 2) := by decide +kernel
theorem d_Law_minute_410 : decode b_Law_minute 410 = .ok (.iload 16, 2) := by decide +kernel
theorem d_Law_minute_412 : decode b_Law_minute 412 = .ok (.iadd, 1) := by decide +kernel
theorem d_Law_minute_413 : decode b_Law_minute 413 = .ok (.if_icmp .ne 18, 3) := by decide +kernel
theorem d_Law_minute_416 : decode b_Law_minute 416 = .ok (.aload_n 0, 1) := by decide +kernel
theorem d_Law_minute_417 : decode b_Law_minute 417 = .ok (.getfield 10, 3) := by decide +kernel
theorem d_Law_minute_420 : decode b_Law_minute 420 = .ok (.bipush 8, 2) := by decide +kernel
theorem d_Law_minute_422 : decode b_Law_minute 422 = .ok (.invokestatic 144, 3) := by decide +kernel
theorem d_Law_minute_425 : decode b_Law_minute 425 = .ok (.iload_n 3, 1) := by decide +kernel
theorem d_Law_minute_426 : decode b_Law_minute 426 = .ok (.iconst 1, 1) := by decide +kernel
theorem d_Law_minute_427 : decode b_Law_minute 427 = .ok (.iadd, 1) := by decide +kernel
theorem d_Law_minute_428 : decode b_Law_minute 428 = .ok (.if_icmp .eq 5, 3) := by decide +kernel
theorem d_Law_minute_431 : decode b_Law_minute 431 = .ok (.iconst 0, 1) := by decide +kernel
theorem d_Law_minute_432 : decode b_Law_minute 432 = .ok (.ireturn, 1) := by decide +kernel
theorem d_Law_minute_433 : decode b_Law_minute 433 = .ok (.iconst 0, 1) := by decide +kernel
theorem d_Law_minute_434 : decode b_Law_minute 434 = .ok (.istore 17, 2) := by decide +kernel
theorem d_Law_minute_436 : decode b_Law_minute 436 = .ok (.iload 17, 2) := by decide +kernel
theorem d_Law_minute_438 : decode b_Law_minute 438 = .ok (.aload_n 0, 1) := by decide +kernel
theorem d_Law_minute_439 : decode b_Law_minute 439 = .ok (.getfield 10, 3) := by decide +kernel
theorem d_Law_minute_442 : decode b_Law_minute 442 = .ok (.bipush 6, 2) := by decide +kernel
theorem d_Law_minute_444 : decode b_Law_minute 444 = .ok (.invokestatic 144, 3) := by decide +kernel
theorem d_Law_minute_447 : decode b_Law_minute 447 = .ok (.if_icmp .ge 62, 3) := by decide +kernel
theorem d_Law_minute_450 : decode b_Law_minute 450 = .ok (.iload 8, 2) := by decide +kernel
theorem d_Law_minute_452 : decode b_Law_minute 452 = .ok (.aload_n 0, 1) := by decide +kernel
theorem d_Law_minute_453 : decode b_Law_minute 453 = .ok (.getfield 10, 3) := by decide +kernel
theorem d_Law_minute_456 : decode b_Law_minute 456 = .ok (.iload 17, 2) := by decide +kernel
theorem d_Law_minute_458 : decode b_Law_minute 458 = .ok (.iconst 3, 1) := by decide +kernel
theorem d_Law_minute_459 : decode b_Law_minute 459 = .ok (.invokestatic 152, 3) := by decide +kernel
theorem d_Law_minute_462 : decode b_Law_minute 462 = .ok (.isub, 1) := by decide +kernel
theorem d_Law_minute_463 : decode b_Law_minute 463 = .ok (.istore 8, 2) := by decide +kernel
theorem d_Law_minute_465 : decode b_Law_minute 465 = .ok (.iload 9, 2) := by decide +kernel
theorem d_Law_minute_467 : decode b_Law_minute 467 = .ok (.aload_n 0, 1) := by decide +kernel
theorem d_Law_minute_468 : decode b_Law_minute 468 = .ok (.getfield 10, 3) := by decide +kernel
theorem d_Law_minute_471 : decode b_Law_minute 471 = .ok (.iload 17, 2) := by decide +kernel
theorem d_Law_minute_473 : decode b_Law_minute 473 = .ok (.bipush 10, 2) := by decide +kernel
theorem d_Law_minute_475 : decode b_Law_minute 475 = .ok (.invokestatic 152, 3) := by decide +kernel
theorem d_Law_minute_478 : decode b_Law_minute 478 = .ok (.invokestatic 167, 3) := by decide +kernel
theorem d_Law_minute_481 : decode b_Law_minute 481 = .ok (.isub, 1) := by decide +kernel
theorem d_Law_minute_482 : decode b_Law_minute 482 = .ok (.istore 9, 2) := by decide +kernel
theorem d_Law_minute_484 : decode b_Law_minute 484 = .ok (.iload 10, 2) := by decide +kernel
theorem d_Law_minute_486 : decode b_Law_minute 486 = .ok (.aload_n 0, 1) := by decide +kernel
theorem d_Law_minute_487 : decode b_Law_minute 487 = .ok (.getfield 10, 3) := by decide +kernel
theorem d_Law_minute_490 : decode b_Law_minute 490 = .ok (.iload 17, 2) := by decide +kernel
theorem d_Law_minute_492 : decode b_Law_minute 492 = .ok (.bipush 11, 2) := by decide +kernel
theorem d_Law_minute_494 : decode b_Law_minute 494 = .ok (.invokestatic 152, 3) := by decide +kernel
theorem d_Law_minute_497 : decode b_Law_minute 497 = .ok (.invokestatic 167, 3) := by decide +kernel
theorem d_Law_minute_500 : decode b_Law_minute 500 = .ok (.isub, 1) := by decide +kernel
theorem d_Law_minute_501 : decode b_Law_minute 501 = .ok (.istore 10, 2) := by decide +kernel
theorem d_Law_minute_503 : decode b_Law_minute 503 = .ok (.iinc 17 1, 3) := by decide +kernel
theorem d_Law_minute_506 : decode b_Law_minute 506 = .ok (.goto (-70), 3) := by decide +kernel
theorem d_Law_minute_509 : decode b_Law_minute 509 = .ok (.iload 8, 2) := by decide +kernel
theorem d_Law_minute_511 : decode b_Law_minute 511 = .ok (.iload 11, 2) := by decide +kernel
theorem d_Law_minute_513 : decode b_Law_minute 513 = .ok (.iadd, 1) := by decide +kernel
theorem d_Law_minute_514 : decode b_Law_minute 514 = .ok (.iload 5, 2) := by decide +kernel
theorem d_Law_minute_516 : decode b_Law_minute 516 = .ok (.if_icmp .ne 19, 3) := by decide +kernel
theorem d_Law_minute_519 : decode b_Law_minute 519 = .ok (.iload 9, 2) := by decide +kernel
theorem d_Law_minute_521 : decode b_Law_minute 521 = .ok (.iload 6, 2) := by decide +kernel
theorem d_Law_minute_523 : decode b_Law_minute 523 = .ok (.ineg, 1) := by decide +kernel
theorem d_Law_minute_524 : decode b_Law_minute 524 = .ok (.if_icmp .ne 11, 3) := by decide +kernel
theorem d_Law_minute_527 : decode b_Law_minute 527 = .ok (.iload 10, 2) := by decide +kernel
theorem d_Law_minute_529 : decode b_Law_minute 529 = .ok (.iload 7, 2) := by decide +kernel
theorem d_Law_minute_531 : decode b_Law_minute 531 = .ok (.ineg, 1) := by decide +kernel
theorem d_Law_minute_532 : decode b_Law_minute 532 = .ok (.if_icmp .eq 5, 3) := by decide +kernel
theorem d_Law_minute_535 : decode b_Law_minute 535 = .ok (.iconst 0, 1) := by decide +kernel
theorem d_Law_minute_536 : decode b_Law_minute 536 = .ok (.ireturn, 1) := by decide +kernel
theorem d_Law_minute_537 : decode b_Law_minute 537 = .ok (.iload_n 2, 1) := by decide +kernel
theorem d_Law_minute_538 : decode b_Law_minute 538 = .ok (.ifCond .ge 5, 3) := by decide +kernel
theorem d_Law_minute_541 : decode b_Law_minute 541 = .ok (.iconst 1, 1) := by decide +kernel
theorem d_Law_minute_542 : decode b_Law_minute 542 = .ok (.ireturn, 1) := by decide +kernel
theorem d_Law_minute_543 : decode b_Law_minute 543 = .ok (.aload_n 0, 1) := by decide +kernel
theorem d_Law_minute_544 : decode b_Law_minute 544 = .ok (.getfield 10, 3) := by decide +kernel
theorem d_Law_minute_547 : decode b_Law_minute 547 = .ok (.iconst 0, 1) := by decide +kernel
theorem d_Law_minute_548 : decode b_Law_minute 548 = .ok (.iconst 4, 1) := by decide +kernel
theorem d_Law_minute_549 : decode b_Law_minute 549 = .ok (.invokestatic 181, 3) := by decide +kernel
theorem d_Law_minute_552 : decode b_Law_minute 552 = .ok (.istore 17, 2) := by decide +kernel
theorem d_Law_minute_554 : decode b_Law_minute 554 = .ok (.aload_n 0, 1) := by decide +kernel
theorem d_Law_minute_555 : decode b_Law_minute 555 = .ok (.getfield 10, 3) := by decide +kernel
theorem d_Law_minute_558 : decode b_Law_minute 558 = .ok (.iconst 0, 1) := by decide +kernel
theorem d_Law_minute_559 : decode b_Law_minute 559 = .ok (.iconst 5, 1) := by decide +kernel
theorem d_Law_minute_560 : decode b_Law_minute 560 = .ok (.invokestatic 181, 3) := by decide +kernel
theorem d_Law_minute_563 : decode b_Law_minute 563 = .ok (.istore 18, 2) := by decide +kernel
theorem d_Law_minute_565 : decode b_Law_minute 565 = .ok (.aload_n 0, 1) := by decide +kernel
theorem d_Law_minute_566 : decode b_Law_minute 566 = .ok (.getfield 10, 3) := by decide +kernel
theorem d_Law_minute_569 : decode b_Law_minute 569 = .ok (.iconst 0, 1) := by decide +kernel
theorem d_Law_minute_570 : decode b_Law_minute 570 = .ok (.iconst 0, 1) := by decide +kernel
theorem d_Law_minute_571 : decode b_Law_minute 571 = .ok (.invokestatic 181, 3) := by decide +kernel
theorem d_Law_minute_574 : decode b_Law_minute 574 = .ok (.iload_n 3, 1) := by decide +kernel
theorem d_Law_minute_575 : decode b_Law_minute 575 = .ok (.if_icmp .ne 81, 3) := by decide +kernel
theorem d_Law_minute_578 : decode b_Law_minute 578 = .ok (.aload_n 0, 1) := by decide +kernel
theorem d_Law_minute_579 : decode b_Law_minute 579 = .ok (.getfield 10, 3) := by decide +kernel
theorem d_Law_minute_582 : decode b_Law_minute 582 = .ok (.iconst 0, 1) := by decide +kernel
theorem d_Law_minute_583 : decode b_Law_minute 583 = .ok (.iconst 1, 1) := by decide +kernel
theorem d_Law_minute_584 : decode b_Law_minute 584 = .ok (.invokestatic 181, 3) := by decide +kernel
theorem d_Law_minute_587 : decode b_Law_minute 587 = .ok (.iload_n 2, 1) := by decide +kernel
theorem d_Law_minute_588 : decode b_Law_minute 588 = .ok (.if_icmp .ne 68, 3) := by decide +kernel
theorem d_Law_minute_591 : decode b_Law_minute 591 = .ok (.iload 17, 2) := by decide +kernel
theorem d_Law_minute_593 : decode b_Law_minute 593 = .ok (.iload 15, 2) := by decide +kernel
theorem d_Law_minute_595 : decode b_Law_minute 595 = .ok (.iconst (-1), 1) := by decide +kernel
theorem d_Law_minute_596 : decode b_Law_minute 596 = .ok (.ixor, 1) := by decide +kernel
theorem d_Law_minute_597 : decode b_Law_minute 597 = .ok (.iand, 1) := by decide +kernel
theorem d_Law_minute_598 : decode b_Law_minute 598 = .ok (.ifCond .ne 58, 3) := by decide +kernel
theorem d_Law_minute_601 : decode b_Law_minute 601 = .ok (.iload 18, 2) := by decide +kernel
theorem d_Law_minute_603 : decode b_Law_minute 603 = .ok (.iload 17, 2) := by decide +kernel
theorem d_Law_minute_605 : decode b_Law_minute 605 = .ok (.iconst (-1), 1) := by decide +kernel
theorem d_Law_minute_606 : decode b_Law_minute 606 = .ok (.ixor, 1) := by decide +kernel
theorem d_Law_minute_607 : decode b_Law_minute 607 = .ok (.iand, 1) := by decide +kernel
theorem d_Law_minute_608 : decode b_Law_minute 608 = .ok (.ifCond .ne 48, 3) := by decide +kernel
theorem d_Law_minute_611 : decode b_Law_minute 611 = .ok (.iload 18, 2) := by decide +kernel
theorem d_Law_minute_613 : decode b_Law_minute 613 = .ok (.invokestatic 167, 3) := by decide +kernel
theorem d_Law_minute_616 : decode b_Law_minute 616 = .ok (.iload 6, 2) := by decide +kernel
theorem d_Law_minute_618 : decode b_Law_minute 618 = .ok (.iload 7, 2) := by decide +kernel
theorem d_Law_minute_620 : decode b_Law_minute 620 = .ok (.iadd, 1) := by decide +kernel
theorem d_Law_minute_621 : decode b_Law_minute 621 = .ok (.if_icmp .ne 35, 3) := by decide +kernel
theorem d_Law_minute_624 : decode b_Law_minute 624 = .ok (.iload 5, 2) := by decide +kernel
theorem d_Law_minute_626 : decode b_Law_minute 626 = .ok (.aload_n 0, 1) := by decide +kernel
theorem d_Law_minute_627 : decode b_Law_minute 627 = .ok (.getfield 10, 3) := by decide +kernel
theorem d_Law_minute_630 : decode b_Law_minute 630 = .ok (.iconst 0, 1) := by decide +kernel
theorem d_Law_minute_631 : decode b_Law_minute 631 = .ok (.invokestatic 144, 3) := by decide +kernel
theorem d_Law_minute_634 : decode b_Law_minute 634 = .ok (.iload 17, 2) := by decide +kernel
theorem d_Law_minute_636 : decode b_Law_minute 636 = .ok (.invokestatic 167, 3) := by decide +kernel
theorem d_Law_minute_639 : decode b_Law_minute 639 = .ok (.aload_n 0, 1) := by decide +kernel
theorem d_Law_minute_640 : decode b_Law_minute 640 = .ok (.getfield 10, 3) := by decide +kernel
theorem d_Law_minute_643 : decode b_Law_minute 643 = .ok (.iconst 1, 1) := by decide +kernel
theorem d_Law_minute_644 : decode b_Law_minute 644 = .ok (.invokestatic 144, 3) := by decide +kernel
theorem d_Law_minute_647 : decode b_Law_minute 647 = .ok (.imul, 1) := by decide +kernel
theorem d_Law_minute_648 : decode b_Law_minute 648 = .ok (.iadd, 1) := by decide +kernel
theorem d_Law_minute_649 : decode b_Law_minute 649 = .ok (.if_icmp .ne 7, 3) := by decide +kernel
theorem d_Law_minute_652 : decode b_Law_minute 652 = .ok (.iconst 1, 1) := by decide +kernel
theorem d_Law_minute_653 : decode b_Law_minute 653 = .ok (.goto 4, 3) := by decide +kernel
theorem d_Law_minute_656 : decode b_Law_minute 656 = .ok (.iconst 0, 1) := by decide +kernel
theorem d_Law_minute_657 : decode b_Law_minute 657 = .ok (.ireturn, 1) := by decide +kernel
def L_Law_minute (G : zLA) : Nat → Nat → Int32 → Int32 → Int32 → Int32 → Int32 → Int32 → Int32 → Int32 → Int32 → Int32 → Int32 → UInt64 → Int32 → Int32 → Int32 → Int32 → Int32 → UInt64 → Int32 → zSt → Option (Int32 × zSt)
  | 0, _, _, _, _, _, _, _, _, _, _, _, _, _, _, _, _, _, _, _, _, _ => none
  | n + 1, 0, x1, x2, x3, x4, x5, x6, x7, x8, x9, x10, x11, z12, x14, x15, x16, y0, y1, z17, x17, σ => (F_Law_count (6 : Int32) σ).bind fun r26 => if r26 ≤ x15 then (if x2 < 0 then (if x1 = 0 then L_Law_minute G n 3 x1 x2 x3 x4 x5 x6 x7 x8 x9 x10 x11 z12 0 0 0 (0 : Int32) (0 : Int32) 0 0 σ else L_Law_minute G n 3 x1 x2 x3 x4 x5 x6 x7 x8 x9 x10 x11 z12 0 0 0 (0 : Int32) (1 : Int32) 0 0 σ) else (if x1 = 0 then L_Law_minute G n 3 x1 x2 x3 x4 x5 x6 x7 x8 x9 x10 x11 z12 0 0 0 (1 : Int32) (0 : Int32) 0 0 σ else L_Law_minute G n 3 x1 x2 x3 x4 x5 x6 x7 x8 x9 x10 x11 z12 0 0 0 (1 : Int32) (1 : Int32) 0 0 σ)) else ((F_Law_house x15 (3 : Int32) σ).bind fun r31 => if x14 = 0 then L_Law_minute G n 1 x1 x2 x3 x4 x5 x6 x7 x8 x9 x10 0 z12 x14 x15 r31 x11 (0 : Int32) 0 0 σ else ((F_Law_count (2 : Int32) σ).bind fun r33 => L_Law_minute G n 1 x1 x2 x3 x4 x5 x6 x7 x8 x9 x10 0 z12 x14 x15 r31 x11 ((if (r31 + r33) < (999 : Int32) then (r31 + r33) else (999 : Int32)) - r31) 0 0 σ))
  | n + 1, 1, x1, x2, x3, x4, x5, x6, x7, x8, x9, x10, x11, z12, x14, x15, x16, y0, y1, z17, x17, σ => (F_Law_house x15 (10 : Int32) σ).bind fun r40 => (F_Integer_bitCount r40).bind fun r42 => (F_Law_house x15 (11 : Int32) σ).bind fun r44 => (F_Integer_bitCount r44).bind fun r46 => bd2 (F_Law_chance x15 σ) fun r48 σ49 => if (Op.cmpValue (FP.dcmp r48 FP.dconst0) .l) ≤ 0 then (if ((x1 >>> (x15 &&& 31)) &&& (1 : Int32)) = (1 : Int32) then L_Law_minute G n 2 x1 x2 x3 x4 x5 x6 x7 (x8 + x16) (x9 + r42) (x10 + r46) (y0 + y1) z12 x14 x15 0 (0 : Int32) (1 : Int32) r48 0 σ49 else L_Law_minute G n 2 x1 x2 x3 x4 x5 x6 x7 (x8 + x16) (x9 + r42) (x10 + r46) (y0 + y1) z12 x14 x15 0 (0 : Int32) (0 : Int32) r48 0 σ49) else (if ((x1 >>> (x15 &&& 31)) &&& (1 : Int32)) = (1 : Int32) then L_Law_minute G n 2 x1 x2 x3 x4 x5 x6 x7 (x8 + x16) (x9 + r42) (x10 + r46) (y0 + y1) z12 x14 x15 0 (1 : Int32) (1 : Int32) r48 0 σ49 else L_Law_minute G n 2 x1 x2 x3 x4 x5 x6 x7 (x8 + x16) (x9 + r42) (x10 + r46) (y0 + y1) z12 x14 x15 0 (1 : Int32) (0 : Int32) r48 0 σ49)
  | n + 1, 2, x1, x2, x3, x4, x5, x6, x7, x8, x9, x10, x11, z12, x14, x15, x16, y0, y1, z17, x17, σ => if y0 = y1 then (if ((x1 >>> (x15 &&& 31)) &&& (1 : Int32)) = (1 : Int32) then ((F_Law_house x15 (7 : Int32) σ).bind fun r58 => if r58 = (1 : Int32) then some ((0 : Int32), σ) else (if zn64 (FP.dadd z12 z17) = true then L_Law_minute G n 0 x1 x2 x3 x4 x5 x6 x7 x8 x9 x10 x11 (FP.dadd z12 z17) x14 (x15 + (1 : Int32)) 0 0 0 0 0 σ else none)) else (if zn64 (FP.dadd z12 z17) = true then L_Law_minute G n 0 x1 x2 x3 x4 x5 x6 x7 x8 x9 x10 x11 (FP.dadd z12 z17) x14 (x15 + (1 : Int32)) 0 0 0 0 0 σ else none)) else some ((0 : Int32), σ)
  | n + 1, 3, x1, x2, x3, x4, x5, x6, x7, x8, x9, x10, x11, z12, x14, x15, x16, y0, y1, z17, x17, σ => if y0 = y1 then (if x2 < 0 then L_Law_minute G n 4 0 x2 x3 x4 x5 x6 x7 x8 x9 x10 x11 z12 0 0 0 0 0 0 0 σ else (if ((x1 >>> (x2 &&& 31)) &&& (1 : Int32)) = 0 then some ((0 : Int32), σ) else L_Law_minute G n 4 0 x2 x3 x4 x5 x6 x7 x8 x9 x10 x11 z12 0 0 0 0 0 0 0 σ)) else some ((0 : Int32), σ)
  | n + 1, 4, x1, x2, x3, x4, x5, x6, x7, x8, x9, x10, x11, z12, x14, x15, x16, y0, y1, z17, x17, σ => if x2 < 0 then L_Law_minute G n 5 0 x2 x3 x4 x5 x6 x7 x8 x9 x10 x11 0 0 0 0 0 0 0 0 σ else (if (Op.cmpValue (FP.dcmp z12 (4607173411600762667 : UInt64)) .g) < 0 then some ((0 : Int32), σ) else (if (Op.cmpValue (FP.dcmp z12 (4607186922399644778 : UInt64)) .l) ≤ 0 then L_Law_minute G n 5 0 x2 x3 x4 x5 x6 x7 x8 x9 x10 x11 0 0 0 0 0 0 0 0 σ else some ((0 : Int32), σ)))
  | n + 1, 5, x1, x2, x3, x4, x5, x6, x7, x8, x9, x10, x11, z12, x14, x15, x16, y0, y1, z17, x17, σ => if 0 ≤ x2 then ((F_Law_house x2 (14 : Int32) σ).bind fun r64 => bd2 (F_Law_run (1 : Int32) σ) fun r66 σ67 => if 0 ≤ x2 then L_Law_minute G n 6 0 x2 x3 x4 x5 x6 x7 x8 x9 x10 x11 0 0 r64 r66 r66 (1 : Int32) 0 0 σ67 else L_Law_minute G n 6 0 x2 x3 x4 x5 x6 x7 x8 x9 x10 x11 0 0 r64 r66 r66 (0 : Int32) 0 0 σ67) else (bd2 (F_Law_run (1 : Int32) σ) fun r70 σ71 => if 0 ≤ x2 then L_Law_minute G n 6 0 x2 x3 x4 x5 x6 x7 x8 x9 x10 x11 0 0 (0 : Int32) r70 r70 (1 : Int32) 0 0 σ71 else L_Law_minute G n 6 0 x2 x3 x4 x5 x6 x7 x8 x9 x10 x11 0 0 (0 : Int32) r70 r70 (0 : Int32) 0 0 σ71)
  | n + 1, 6, x1, x2, x3, x4, x5, x6, x7, x8, x9, x10, x11, z12, x14, x15, x16, y0, y1, z17, x17, σ => if y0 = y1 then ((F_Law_count (10 : Int32) σ).bind fun r75 => if r75 = (x4 + x16) then ((F_Law_count (8 : Int32) σ).bind fun r77 => if r77 = (x3 + (1 : Int32)) then L_Law_minute G n 7 0 x2 x3 0 x5 x6 x7 x8 x9 x10 x11 0 0 x15 0 0 0 0 (0 : Int32) σ else some ((0 : Int32), σ)) else some ((0 : Int32), σ)) else some ((0 : Int32), σ)
  | n + 1, 7, x1, x2, x3, x4, x5, x6, x7, x8, x9, x10, x11, z12, x14, x15, x16, y0, y1, z17, x17, σ => (F_Law_count (6 : Int32) σ).bind fun r82 => if r82 ≤ x17 then (if (x8 + x11) = x5 then (if x9 = (-x6) then (if x10 = (-x7) then (if 0 ≤ x2 then ((F_Law_spoken (0 : Int32) (4 : Int32) σ).bind fun r84 => (F_Law_spoken (0 : Int32) (5 : Int32) σ).bind fun r86 => (F_Law_spoken (0 : Int32) (0 : Int32) σ).bind fun r88 => if r88 = x3 then ((F_Law_spoken (0 : Int32) (1 : Int32) σ).bind fun r90 => if r90 = x2 then (if (r84 &&& (x15 ^^^ (-1 : Int32))) = 0 then (if (r86 &&& (r84 ^^^ (-1 : Int32))) = 0 then ((F_Integer_bitCount r86).bind fun r92 => if r92 = (x6 + x7) then ((F_Law_count (0 : Int32) σ).bind fun r94 => (F_Integer_bitCount r84).bind fun r96 => (F_Law_count (1 : Int32) σ).bind fun r98 => if x5 = (r94 + (r96 * r98)) then some ((1 : Int32), σ) else some ((0 : Int32), σ)) else some ((0 : Int32), σ)) else some ((0 : Int32), σ)) else some ((0 : Int32), σ)) else some ((0 : Int32), σ)) else some ((0 : Int32), σ)) else some ((1 : Int32), σ)) else some ((0 : Int32), σ)) else some ((0 : Int32), σ)) else some ((0 : Int32), σ)) else ((F_Law_house x17 (3 : Int32) σ).bind fun r110 => (F_Law_house x17 (10 : Int32) σ).bind fun r112 => (F_Integer_bitCount r112).bind fun r114 => (F_Law_house x17 (11 : Int32) σ).bind fun r116 => (F_Integer_bitCount r116).bind fun r118 => L_Law_minute G n 7 0 x2 x3 0 x5 x6 x7 (x8 - r110) (x9 - r114) (x10 - r118) x11 0 0 x15 0 0 0 0 (x17 + (1 : Int32)) σ)
  | _ + 1, _, _, _, _, _, _, _, _, _, _, _, _, _, _, _, _, _, _, _, _, _ => none
theorem e_Law_minute_0 (G : zLA) (n : Nat) (x1 : Int32) (x2 : Int32) (x3 : Int32) (x4 : Int32) (x5 : Int32) (x6 : Int32) (x7 : Int32) (x8 : Int32) (x9 : Int32) (x10 : Int32) (x11 : Int32) (z12 : UInt64) (x14 : Int32) (x15 : Int32) (x16 : Int32) (y0 : Int32) (y1 : Int32) (z17 : UInt64) (x17 : Int32) (σ : zSt) : L_Law_minute G (n + 1) 0 x1 x2 x3 x4 x5 x6 x7 x8 x9 x10 x11 z12 x14 x15 x16 y0 y1 z17 x17 σ = ((F_Law_count (6 : Int32) σ).bind fun r26 => if r26 ≤ x15 then (if x2 < 0 then (if x1 = 0 then L_Law_minute G n 3 x1 x2 x3 x4 x5 x6 x7 x8 x9 x10 x11 z12 0 0 0 (0 : Int32) (0 : Int32) 0 0 σ else L_Law_minute G n 3 x1 x2 x3 x4 x5 x6 x7 x8 x9 x10 x11 z12 0 0 0 (0 : Int32) (1 : Int32) 0 0 σ) else (if x1 = 0 then L_Law_minute G n 3 x1 x2 x3 x4 x5 x6 x7 x8 x9 x10 x11 z12 0 0 0 (1 : Int32) (0 : Int32) 0 0 σ else L_Law_minute G n 3 x1 x2 x3 x4 x5 x6 x7 x8 x9 x10 x11 z12 0 0 0 (1 : Int32) (1 : Int32) 0 0 σ)) else ((F_Law_house x15 (3 : Int32) σ).bind fun r31 => if x14 = 0 then L_Law_minute G n 1 x1 x2 x3 x4 x5 x6 x7 x8 x9 x10 0 z12 x14 x15 r31 x11 (0 : Int32) 0 0 σ else ((F_Law_count (2 : Int32) σ).bind fun r33 => L_Law_minute G n 1 x1 x2 x3 x4 x5 x6 x7 x8 x9 x10 0 z12 x14 x15 r31 x11 ((if (r31 + r33) < (999 : Int32) then (r31 + r33) else (999 : Int32)) - r31) 0 0 σ))) := rfl
theorem e_Law_minute_1 (G : zLA) (n : Nat) (x1 : Int32) (x2 : Int32) (x3 : Int32) (x4 : Int32) (x5 : Int32) (x6 : Int32) (x7 : Int32) (x8 : Int32) (x9 : Int32) (x10 : Int32) (x11 : Int32) (z12 : UInt64) (x14 : Int32) (x15 : Int32) (x16 : Int32) (y0 : Int32) (y1 : Int32) (z17 : UInt64) (x17 : Int32) (σ : zSt) : L_Law_minute G (n + 1) 1 x1 x2 x3 x4 x5 x6 x7 x8 x9 x10 x11 z12 x14 x15 x16 y0 y1 z17 x17 σ = ((F_Law_house x15 (10 : Int32) σ).bind fun r40 => (F_Integer_bitCount r40).bind fun r42 => (F_Law_house x15 (11 : Int32) σ).bind fun r44 => (F_Integer_bitCount r44).bind fun r46 => bd2 (F_Law_chance x15 σ) fun r48 σ49 => if (Op.cmpValue (FP.dcmp r48 FP.dconst0) .l) ≤ 0 then (if ((x1 >>> (x15 &&& 31)) &&& (1 : Int32)) = (1 : Int32) then L_Law_minute G n 2 x1 x2 x3 x4 x5 x6 x7 (x8 + x16) (x9 + r42) (x10 + r46) (y0 + y1) z12 x14 x15 0 (0 : Int32) (1 : Int32) r48 0 σ49 else L_Law_minute G n 2 x1 x2 x3 x4 x5 x6 x7 (x8 + x16) (x9 + r42) (x10 + r46) (y0 + y1) z12 x14 x15 0 (0 : Int32) (0 : Int32) r48 0 σ49) else (if ((x1 >>> (x15 &&& 31)) &&& (1 : Int32)) = (1 : Int32) then L_Law_minute G n 2 x1 x2 x3 x4 x5 x6 x7 (x8 + x16) (x9 + r42) (x10 + r46) (y0 + y1) z12 x14 x15 0 (1 : Int32) (1 : Int32) r48 0 σ49 else L_Law_minute G n 2 x1 x2 x3 x4 x5 x6 x7 (x8 + x16) (x9 + r42) (x10 + r46) (y0 + y1) z12 x14 x15 0 (1 : Int32) (0 : Int32) r48 0 σ49)) := rfl
theorem e_Law_minute_2 (G : zLA) (n : Nat) (x1 : Int32) (x2 : Int32) (x3 : Int32) (x4 : Int32) (x5 : Int32) (x6 : Int32) (x7 : Int32) (x8 : Int32) (x9 : Int32) (x10 : Int32) (x11 : Int32) (z12 : UInt64) (x14 : Int32) (x15 : Int32) (x16 : Int32) (y0 : Int32) (y1 : Int32) (z17 : UInt64) (x17 : Int32) (σ : zSt) : L_Law_minute G (n + 1) 2 x1 x2 x3 x4 x5 x6 x7 x8 x9 x10 x11 z12 x14 x15 x16 y0 y1 z17 x17 σ = (if y0 = y1 then (if ((x1 >>> (x15 &&& 31)) &&& (1 : Int32)) = (1 : Int32) then ((F_Law_house x15 (7 : Int32) σ).bind fun r58 => if r58 = (1 : Int32) then some ((0 : Int32), σ) else (if zn64 (FP.dadd z12 z17) = true then L_Law_minute G n 0 x1 x2 x3 x4 x5 x6 x7 x8 x9 x10 x11 (FP.dadd z12 z17) x14 (x15 + (1 : Int32)) 0 0 0 0 0 σ else none)) else (if zn64 (FP.dadd z12 z17) = true then L_Law_minute G n 0 x1 x2 x3 x4 x5 x6 x7 x8 x9 x10 x11 (FP.dadd z12 z17) x14 (x15 + (1 : Int32)) 0 0 0 0 0 σ else none)) else some ((0 : Int32), σ)) := rfl
theorem e_Law_minute_3 (G : zLA) (n : Nat) (x1 : Int32) (x2 : Int32) (x3 : Int32) (x4 : Int32) (x5 : Int32) (x6 : Int32) (x7 : Int32) (x8 : Int32) (x9 : Int32) (x10 : Int32) (x11 : Int32) (z12 : UInt64) (x14 : Int32) (x15 : Int32) (x16 : Int32) (y0 : Int32) (y1 : Int32) (z17 : UInt64) (x17 : Int32) (σ : zSt) : L_Law_minute G (n + 1) 3 x1 x2 x3 x4 x5 x6 x7 x8 x9 x10 x11 z12 x14 x15 x16 y0 y1 z17 x17 σ = (if y0 = y1 then (if x2 < 0 then L_Law_minute G n 4 0 x2 x3 x4 x5 x6 x7 x8 x9 x10 x11 z12 0 0 0 0 0 0 0 σ else (if ((x1 >>> (x2 &&& 31)) &&& (1 : Int32)) = 0 then some ((0 : Int32), σ) else L_Law_minute G n 4 0 x2 x3 x4 x5 x6 x7 x8 x9 x10 x11 z12 0 0 0 0 0 0 0 σ)) else some ((0 : Int32), σ)) := rfl
theorem e_Law_minute_4 (G : zLA) (n : Nat) (x1 : Int32) (x2 : Int32) (x3 : Int32) (x4 : Int32) (x5 : Int32) (x6 : Int32) (x7 : Int32) (x8 : Int32) (x9 : Int32) (x10 : Int32) (x11 : Int32) (z12 : UInt64) (x14 : Int32) (x15 : Int32) (x16 : Int32) (y0 : Int32) (y1 : Int32) (z17 : UInt64) (x17 : Int32) (σ : zSt) : L_Law_minute G (n + 1) 4 x1 x2 x3 x4 x5 x6 x7 x8 x9 x10 x11 z12 x14 x15 x16 y0 y1 z17 x17 σ = (if x2 < 0 then L_Law_minute G n 5 0 x2 x3 x4 x5 x6 x7 x8 x9 x10 x11 0 0 0 0 0 0 0 0 σ else (if (Op.cmpValue (FP.dcmp z12 (4607173411600762667 : UInt64)) .g) < 0 then some ((0 : Int32), σ) else (if (Op.cmpValue (FP.dcmp z12 (4607186922399644778 : UInt64)) .l) ≤ 0 then L_Law_minute G n 5 0 x2 x3 x4 x5 x6 x7 x8 x9 x10 x11 0 0 0 0 0 0 0 0 σ else some ((0 : Int32), σ)))) := rfl
theorem e_Law_minute_5 (G : zLA) (n : Nat) (x1 : Int32) (x2 : Int32) (x3 : Int32) (x4 : Int32) (x5 : Int32) (x6 : Int32) (x7 : Int32) (x8 : Int32) (x9 : Int32) (x10 : Int32) (x11 : Int32) (z12 : UInt64) (x14 : Int32) (x15 : Int32) (x16 : Int32) (y0 : Int32) (y1 : Int32) (z17 : UInt64) (x17 : Int32) (σ : zSt) : L_Law_minute G (n + 1) 5 x1 x2 x3 x4 x5 x6 x7 x8 x9 x10 x11 z12 x14 x15 x16 y0 y1 z17 x17 σ = (if 0 ≤ x2 then ((F_Law_house x2 (14 : Int32) σ).bind fun r64 => bd2 (F_Law_run (1 : Int32) σ) fun r66 σ67 => if 0 ≤ x2 then L_Law_minute G n 6 0 x2 x3 x4 x5 x6 x7 x8 x9 x10 x11 0 0 r64 r66 r66 (1 : Int32) 0 0 σ67 else L_Law_minute G n 6 0 x2 x3 x4 x5 x6 x7 x8 x9 x10 x11 0 0 r64 r66 r66 (0 : Int32) 0 0 σ67) else (bd2 (F_Law_run (1 : Int32) σ) fun r70 σ71 => if 0 ≤ x2 then L_Law_minute G n 6 0 x2 x3 x4 x5 x6 x7 x8 x9 x10 x11 0 0 (0 : Int32) r70 r70 (1 : Int32) 0 0 σ71 else L_Law_minute G n 6 0 x2 x3 x4 x5 x6 x7 x8 x9 x10 x11 0 0 (0 : Int32) r70 r70 (0 : Int32) 0 0 σ71)) := rfl
theorem e_Law_minute_6 (G : zLA) (n : Nat) (x1 : Int32) (x2 : Int32) (x3 : Int32) (x4 : Int32) (x5 : Int32) (x6 : Int32) (x7 : Int32) (x8 : Int32) (x9 : Int32) (x10 : Int32) (x11 : Int32) (z12 : UInt64) (x14 : Int32) (x15 : Int32) (x16 : Int32) (y0 : Int32) (y1 : Int32) (z17 : UInt64) (x17 : Int32) (σ : zSt) : L_Law_minute G (n + 1) 6 x1 x2 x3 x4 x5 x6 x7 x8 x9 x10 x11 z12 x14 x15 x16 y0 y1 z17 x17 σ = (if y0 = y1 then ((F_Law_count (10 : Int32) σ).bind fun r75 => if r75 = (x4 + x16) then ((F_Law_count (8 : Int32) σ).bind fun r77 => if r77 = (x3 + (1 : Int32)) then L_Law_minute G n 7 0 x2 x3 0 x5 x6 x7 x8 x9 x10 x11 0 0 x15 0 0 0 0 (0 : Int32) σ else some ((0 : Int32), σ)) else some ((0 : Int32), σ)) else some ((0 : Int32), σ)) := rfl
theorem e_Law_minute_7 (G : zLA) (n : Nat) (x1 : Int32) (x2 : Int32) (x3 : Int32) (x4 : Int32) (x5 : Int32) (x6 : Int32) (x7 : Int32) (x8 : Int32) (x9 : Int32) (x10 : Int32) (x11 : Int32) (z12 : UInt64) (x14 : Int32) (x15 : Int32) (x16 : Int32) (y0 : Int32) (y1 : Int32) (z17 : UInt64) (x17 : Int32) (σ : zSt) : L_Law_minute G (n + 1) 7 x1 x2 x3 x4 x5 x6 x7 x8 x9 x10 x11 z12 x14 x15 x16 y0 y1 z17 x17 σ = ((F_Law_count (6 : Int32) σ).bind fun r82 => if r82 ≤ x17 then (if (x8 + x11) = x5 then (if x9 = (-x6) then (if x10 = (-x7) then (if 0 ≤ x2 then ((F_Law_spoken (0 : Int32) (4 : Int32) σ).bind fun r84 => (F_Law_spoken (0 : Int32) (5 : Int32) σ).bind fun r86 => (F_Law_spoken (0 : Int32) (0 : Int32) σ).bind fun r88 => if r88 = x3 then ((F_Law_spoken (0 : Int32) (1 : Int32) σ).bind fun r90 => if r90 = x2 then (if (r84 &&& (x15 ^^^ (-1 : Int32))) = 0 then (if (r86 &&& (r84 ^^^ (-1 : Int32))) = 0 then ((F_Integer_bitCount r86).bind fun r92 => if r92 = (x6 + x7) then ((F_Law_count (0 : Int32) σ).bind fun r94 => (F_Integer_bitCount r84).bind fun r96 => (F_Law_count (1 : Int32) σ).bind fun r98 => if x5 = (r94 + (r96 * r98)) then some ((1 : Int32), σ) else some ((0 : Int32), σ)) else some ((0 : Int32), σ)) else some ((0 : Int32), σ)) else some ((0 : Int32), σ)) else some ((0 : Int32), σ)) else some ((0 : Int32), σ)) else some ((1 : Int32), σ)) else some ((0 : Int32), σ)) else some ((0 : Int32), σ)) else some ((0 : Int32), σ)) else ((F_Law_house x17 (3 : Int32) σ).bind fun r110 => (F_Law_house x17 (10 : Int32) σ).bind fun r112 => (F_Integer_bitCount r112).bind fun r114 => (F_Law_house x17 (11 : Int32) σ).bind fun r116 => (F_Integer_bitCount r116).bind fun r118 => L_Law_minute G n 7 0 x2 x3 0 x5 x6 x7 (x8 - r110) (x9 - r114) (x10 - r118) x11 0 0 x15 0 0 0 0 (x17 + (1 : Int32)) σ)) := rfl
set_option maxHeartbeats 4000000 in
set_option maxRecDepth 100000 in
theorem w_Law_minute {l : Launch} {G : zLA} {p : Program} {e : Env} {s : State} {m : MethodId} {args : Array Value} {below : List Frame} {meth : Method} {c : Code} (C : zCx G p s m args meth c "VillageWavesLaw" b_Law_minute 19 (some .boolean)) (hx : zxl G) (hm : zml G) {r : Int32} {σ' : zSt} : ∀ n : Nat, (∀ (x1 : Int32) (x2 : Int32) (x3 : Int32) (x4 : Int32) (x5 : Int32) (x6 : Int32) (x7 : Int32) (x8 : Int32) (x9 : Int32) (x10 : Int32) (x11 : Int32) (z12 : UInt64) (x14 : Int32) (x15 : Int32) (x16 : Int32) (y0 : Int32) (y1 : Int32) (z17 : UInt64) (x17 : Int32) (σ : zSt), L_Law_minute G n 0 x1 x2 x3 x4 x5 x6 x7 x8 x9 x10 x11 z12 x14 x15 x16 y0 y1 z17 x17 σ = some (r, σ') → zWV G p l e rm_Law_minute s m args below meth c 19 0 0 (zQ G below args s rm_Law_minute (some (.int r)) σ') 112 [(0, .ref (zad G 4 80)), (1, .int x1), (2, .int x2), (3, .int x3), (4, .int x4), (5, .int x5), (6, .int x6), (7, .int x7), (8, .int x8), (9, .int x9), (10, .int x10), (11, .int x11), (12, .double z12), (14, .int x14), (15, .int x15)] [] σ) ∧ (∀ (x1 : Int32) (x2 : Int32) (x3 : Int32) (x4 : Int32) (x5 : Int32) (x6 : Int32) (x7 : Int32) (x8 : Int32) (x9 : Int32) (x10 : Int32) (x11 : Int32) (z12 : UInt64) (x14 : Int32) (x15 : Int32) (x16 : Int32) (y0 : Int32) (y1 : Int32) (z17 : UInt64) (x17 : Int32) (σ : zSt), L_Law_minute G n 1 x1 x2 x3 x4 x5 x6 x7 x8 x9 x10 x11 z12 x14 x15 x16 y0 y1 z17 x17 σ = some (r, σ') → zWV G p l e rm_Law_minute s m args below meth c 19 0 0 (zQ G below args s rm_Law_minute (some (.int r)) σ') 169 [(0, .ref (zad G 4 80)), (1, .int x1), (2, .int x2), (3, .int x3), (4, .int x4), (5, .int x5), (6, .int x6), (7, .int x7), (8, .int x8), (9, .int x9), (10, .int x10), (12, .double z12), (14, .int x14), (15, .int x15), (16, .int x16)] [.int y1, .int y0] σ) ∧ (∀ (x1 : Int32) (x2 : Int32) (x3 : Int32) (x4 : Int32) (x5 : Int32) (x6 : Int32) (x7 : Int32) (x8 : Int32) (x9 : Int32) (x10 : Int32) (x11 : Int32) (z12 : UInt64) (x14 : Int32) (x15 : Int32) (x16 : Int32) (y0 : Int32) (y1 : Int32) (z17 : UInt64) (x17 : Int32) (σ : zSt), L_Law_minute G n 2 x1 x2 x3 x4 x5 x6 x7 x8 x9 x10 x11 z12 x14 x15 x16 y0 y1 z17 x17 σ = some (r, σ') → zWV G p l e rm_Law_minute s m args below meth c 19 0 0 (zQ G below args s rm_Law_minute (some (.int r)) σ') 255 [(0, .ref (zad G 4 80)), (1, .int x1), (2, .int x2), (3, .int x3), (4, .int x4), (5, .int x5), (6, .int x6), (7, .int x7), (8, .int x8), (9, .int x9), (10, .int x10), (11, .int x11), (12, .double z12), (14, .int x14), (15, .int x15), (17, .double z17)] [.int y1, .int y0] σ) ∧ (∀ (x1 : Int32) (x2 : Int32) (x3 : Int32) (x4 : Int32) (x5 : Int32) (x6 : Int32) (x7 : Int32) (x8 : Int32) (x9 : Int32) (x10 : Int32) (x11 : Int32) (z12 : UInt64) (x14 : Int32) (x15 : Int32) (x16 : Int32) (y0 : Int32) (y1 : Int32) (z17 : UInt64) (x17 : Int32) (σ : zSt), L_Law_minute G n 3 x1 x2 x3 x4 x5 x6 x7 x8 x9 x10 x11 z12 x14 x15 x16 y0 y1 z17 x17 σ = some (r, σ') → zWV G p l e rm_Law_minute s m args below meth c 19 0 0 (zQ G below args s rm_Law_minute (some (.int r)) σ') 316 [(0, .ref (zad G 4 80)), (1, .int x1), (2, .int x2), (3, .int x3), (4, .int x4), (5, .int x5), (6, .int x6), (7, .int x7), (8, .int x8), (9, .int x9), (10, .int x10), (11, .int x11), (12, .double z12)] [.int y1, .int y0] σ) ∧ (∀ (x1 : Int32) (x2 : Int32) (x3 : Int32) (x4 : Int32) (x5 : Int32) (x6 : Int32) (x7 : Int32) (x8 : Int32) (x9 : Int32) (x10 : Int32) (x11 : Int32) (z12 : UInt64) (x14 : Int32) (x15 : Int32) (x16 : Int32) (y0 : Int32) (y1 : Int32) (z17 : UInt64) (x17 : Int32) (σ : zSt), L_Law_minute G n 4 x1 x2 x3 x4 x5 x6 x7 x8 x9 x10 x11 z12 x14 x15 x16 y0 y1 z17 x17 σ = some (r, σ') → zWV G p l e rm_Law_minute s m args below meth c 19 0 0 (zQ G below args s rm_Law_minute (some (.int r)) σ') 331 [(0, .ref (zad G 4 80)), (2, .int x2), (3, .int x3), (4, .int x4), (5, .int x5), (6, .int x6), (7, .int x7), (8, .int x8), (9, .int x9), (10, .int x10), (11, .int x11), (12, .double z12)] [] σ) ∧ (∀ (x1 : Int32) (x2 : Int32) (x3 : Int32) (x4 : Int32) (x5 : Int32) (x6 : Int32) (x7 : Int32) (x8 : Int32) (x9 : Int32) (x10 : Int32) (x11 : Int32) (z12 : UInt64) (x14 : Int32) (x15 : Int32) (x16 : Int32) (y0 : Int32) (y1 : Int32) (z17 : UInt64) (x17 : Int32) (σ : zSt), L_Law_minute G n 5 x1 x2 x3 x4 x5 x6 x7 x8 x9 x10 x11 z12 x14 x15 x16 y0 y1 z17 x17 σ = some (r, σ') → zWV G p l e rm_Law_minute s m args below meth c 19 0 0 (zQ G below args s rm_Law_minute (some (.int r)) σ') 355 [(0, .ref (zad G 4 80)), (2, .int x2), (3, .int x3), (4, .int x4), (5, .int x5), (6, .int x6), (7, .int x7), (8, .int x8), (9, .int x9), (10, .int x10), (11, .int x11)] [] σ) ∧ (∀ (x1 : Int32) (x2 : Int32) (x3 : Int32) (x4 : Int32) (x5 : Int32) (x6 : Int32) (x7 : Int32) (x8 : Int32) (x9 : Int32) (x10 : Int32) (x11 : Int32) (z12 : UInt64) (x14 : Int32) (x15 : Int32) (x16 : Int32) (y0 : Int32) (y1 : Int32) (z17 : UInt64) (x17 : Int32) (σ : zSt), L_Law_minute G n 6 x1 x2 x3 x4 x5 x6 x7 x8 x9 x10 x11 z12 x14 x15 x16 y0 y1 z17 x17 σ = some (r, σ') → zWV G p l e rm_Law_minute s m args below meth c 19 0 0 (zQ G below args s rm_Law_minute (some (.int r)) σ') 396 [(0, .ref (zad G 4 80)), (2, .int x2), (3, .int x3), (4, .int x4), (5, .int x5), (6, .int x6), (7, .int x7), (8, .int x8), (9, .int x9), (10, .int x10), (11, .int x11), (15, .int x15), (16, .int x16)] [.int y1, .int y0] σ) ∧ (∀ (x1 : Int32) (x2 : Int32) (x3 : Int32) (x4 : Int32) (x5 : Int32) (x6 : Int32) (x7 : Int32) (x8 : Int32) (x9 : Int32) (x10 : Int32) (x11 : Int32) (z12 : UInt64) (x14 : Int32) (x15 : Int32) (x16 : Int32) (y0 : Int32) (y1 : Int32) (z17 : UInt64) (x17 : Int32) (σ : zSt), L_Law_minute G n 7 x1 x2 x3 x4 x5 x6 x7 x8 x9 x10 x11 z12 x14 x15 x16 y0 y1 z17 x17 σ = some (r, σ') → zWV G p l e rm_Law_minute s m args below meth c 19 0 0 (zQ G below args s rm_Law_minute (some (.int r)) σ') 436 [(0, .ref (zad G 4 80)), (2, .int x2), (3, .int x3), (5, .int x5), (6, .int x6), (7, .int x7), (8, .int x8), (9, .int x9), (10, .int x10), (11, .int x11), (15, .int x15), (17, .int x17)] [] σ) := by
  intro n
  induction n with
  | zero => exact ⟨fun _ _ _ _ _ _ _ _ _ _ _ _ _ _ _ _ _ _ _ _ hf => (by cases hf), fun _ _ _ _ _ _ _ _ _ _ _ _ _ _ _ _ _ _ _ _ hf => (by cases hf), fun _ _ _ _ _ _ _ _ _ _ _ _ _ _ _ _ _ _ _ _ hf => (by cases hf), fun _ _ _ _ _ _ _ _ _ _ _ _ _ _ _ _ _ _ _ _ hf => (by cases hf), fun _ _ _ _ _ _ _ _ _ _ _ _ _ _ _ _ _ _ _ _ hf => (by cases hf), fun _ _ _ _ _ _ _ _ _ _ _ _ _ _ _ _ _ _ _ _ hf => (by cases hf), fun _ _ _ _ _ _ _ _ _ _ _ _ _ _ _ _ _ _ _ _ hf => (by cases hf), fun _ _ _ _ _ _ _ _ _ _ _ _ _ _ _ _ _ _ _ _ hf => (by cases hf)⟩
  | succ n ih =>
    refine ⟨?_, ?_, ?_, ?_, ?_, ?_, ?_, ?_⟩
    · intro x1 x2 x3 x4 x5 x6 x7 x8 x9 x10 x11 z12 x14 x15 x16 y0 y1 z17 x17 σ hf
      rw [e_Law_minute_0] at hf
      refine z_iload C d_Law_minute_112 14 rfl ?_
      refine z_aload_n C d_Law_minute_114 0 rfl rfl ?_
      refine gf_Law_10 C hm rfl rfl d_Law_minute_115 ?_
      refine z_bipush C d_Law_minute_118 zkb_6 ?_
      obtain ⟨r26, h25, hf⟩ := bd_s hf
      refine z_cHi C kh_Law_count (c_Law_count hx h25) rfl rfl (Nat.le_of_ble_eq_true rfl) ⟨(Nat.le_of_ble_eq_true rfl), (Nat.le_of_ble_eq_true rfl)⟩ ⟨(Nat.le_of_ble_eq_true rfl), (Nat.le_of_ble_eq_true rfl)⟩ d_Law_minute_120 ?_
      refine z_icmp_ge (tgt := 298) C d_Law_minute_123 rfl (fun h35 => ?_) (fun h35 => ?_)
      · have hf := iff_t hf h35
        refine z_iload_n C d_Law_minute_298 2 rfl rfl ?_
        refine z_if_lt (tgt := 306) C d_Law_minute_299 rfl (fun h29 => ?_) (fun h29 => ?_)
        · have hf := iff_t hf h29
          refine z_iconst C d_Law_minute_306 zki_0 ?_
          refine z_iload_n C d_Law_minute_307 1 rfl rfl ?_
          refine z_if_eq (tgt := 315) C d_Law_minute_308 rfl (fun h27 => ?_) (fun h27 => ?_)
          · have hf := iff_t hf h27
            refine z_iconst C d_Law_minute_315 zki_0 ?_
            have hw := ih.2.2.2.1 _ _ _ _ _ _ _ _ _ _ _ _ _ _ _ _ _ _ _ _ hf
            exact z_sub [0, 1, 2, 3, 4, 5, 6, 7, 8, 9, 10, 11, 12] rfl hw
          · have hf := iff_f hf h27
            refine z_iconst C d_Law_minute_311 zki_1 ?_
            refine z_goto (tgt := 316) C d_Law_minute_312 rfl ?_
            have hw := ih.2.2.2.1 _ _ _ _ _ _ _ _ _ _ _ _ _ _ _ _ _ _ _ _ hf
            exact z_sub [0, 1, 2, 3, 4, 5, 6, 7, 8, 9, 10, 11, 12] rfl hw
        · have hf := iff_f hf h29
          refine z_iconst C d_Law_minute_302 zki_1 ?_
          refine z_goto (tgt := 307) C d_Law_minute_303 rfl ?_
          refine z_iload_n C d_Law_minute_307 1 rfl rfl ?_
          refine z_if_eq (tgt := 315) C d_Law_minute_308 rfl (fun h28 => ?_) (fun h28 => ?_)
          · have hf := iff_t hf h28
            refine z_iconst C d_Law_minute_315 zki_0 ?_
            have hw := ih.2.2.2.1 _ _ _ _ _ _ _ _ _ _ _ _ _ _ _ _ _ _ _ _ hf
            exact z_sub [0, 1, 2, 3, 4, 5, 6, 7, 8, 9, 10, 11, 12] rfl hw
          · have hf := iff_f hf h28
            refine z_iconst C d_Law_minute_311 zki_1 ?_
            refine z_goto (tgt := 316) C d_Law_minute_312 rfl ?_
            have hw := ih.2.2.2.1 _ _ _ _ _ _ _ _ _ _ _ _ _ _ _ _ _ _ _ _ hf
            exact z_sub [0, 1, 2, 3, 4, 5, 6, 7, 8, 9, 10, 11, 12] rfl hw
      · have hf := iff_f hf h35
        refine z_aload_n C d_Law_minute_126 0 rfl rfl ?_
        refine gf_Law_10 C hm rfl rfl d_Law_minute_127 ?_
        refine z_iload C d_Law_minute_130 14 rfl ?_
        refine z_iconst C d_Law_minute_132 zki_3 ?_
        obtain ⟨r31, h30, hf⟩ := bd_s hf
        refine z_cHi C kh_Law_house (c_Law_house hx h30) rfl rfl (Nat.le_of_ble_eq_true rfl) ⟨(Nat.le_of_ble_eq_true rfl), (Nat.le_of_ble_eq_true rfl)⟩ ⟨(Nat.le_of_ble_eq_true rfl), (Nat.le_of_ble_eq_true rfl)⟩ d_Law_minute_133 ?_
        refine z_istore C d_Law_minute_136 (by decide) ?_
        refine z_lv (lv1 := [(16, .int r31), (0, .ref (zad G 4 80)), (1, .int x1), (2, .int x2), (3, .int x3), (4, .int x4), (5, .int x5), (6, .int x6), (7, .int x7), (8, .int x8), (9, .int x9), (10, .int x10), (11, .int x11), (12, .double z12), (14, .int x14), (15, .int x15)]) rfl ?_
        refine z_iload C d_Law_minute_138 12 rfl ?_
        refine z_iload C d_Law_minute_140 14 rfl ?_
        refine z_if_eq (tgt := 168) C d_Law_minute_142 rfl (fun h34 => ?_) (fun h34 => ?_)
        · have hf := iff_t hf h34
          refine z_iconst C d_Law_minute_168 zki_0 ?_
          have hw := ih.2.1 _ _ _ _ _ _ _ _ _ _ _ _ _ _ _ _ _ _ _ _ hf
          exact z_sub [1, 2, 3, 4, 5, 6, 7, 8, 9, 10, 11, 13, 14, 15, 0] rfl hw
        · have hf := iff_f hf h34
          refine z_sipush C d_Law_minute_145 zks_999 ?_
          refine z_iload C d_Law_minute_148 0 rfl ?_
          refine z_aload_n C d_Law_minute_150 1 rfl rfl ?_
          refine gf_Law_10 C hm rfl rfl d_Law_minute_151 ?_
          refine z_iconst C d_Law_minute_154 zki_2 ?_
          obtain ⟨r33, h32, hf⟩ := bd_s hf
          refine z_cHi C kh_Law_count (c_Law_count hx h32) rfl rfl (Nat.le_of_ble_eq_true rfl) ⟨(Nat.le_of_ble_eq_true rfl), (Nat.le_of_ble_eq_true rfl)⟩ ⟨(Nat.le_of_ble_eq_true rfl), (Nat.le_of_ble_eq_true rfl)⟩ d_Law_minute_155 ?_
          refine z_iadd C d_Law_minute_158 ?_
          refine z_mmin C zq905 rfl (Nat.le_of_ble_eq_true rfl) (Nat.le_of_ble_eq_true rfl) (Nat.le_of_ble_eq_true rfl) (Nat.le_of_ble_eq_true rfl) (Nat.le_of_ble_eq_true rfl) d_Law_minute_159 ?_
          refine z_iload C d_Law_minute_162 0 rfl ?_
          refine z_isub C d_Law_minute_164 ?_
          refine z_goto (tgt := 169) C d_Law_minute_165 rfl ?_
          have hw := ih.2.1 _ _ _ _ _ _ _ _ _ _ _ _ _ _ _ _ _ _ _ _ hf
          exact z_sub [1, 2, 3, 4, 5, 6, 7, 8, 9, 10, 11, 13, 14, 15, 0] rfl hw
    · intro x1 x2 x3 x4 x5 x6 x7 x8 x9 x10 x11 z12 x14 x15 x16 y0 y1 z17 x17 σ hf
      rw [e_Law_minute_1] at hf
      refine z_iadd C d_Law_minute_169 ?_
      refine z_istore C d_Law_minute_170 (by decide) ?_
      refine z_lv (lv1 := [(11, .int (y0 + y1)), (0, .ref (zad G 4 80)), (1, .int x1), (2, .int x2), (3, .int x3), (4, .int x4), (5, .int x5), (6, .int x6), (7, .int x7), (8, .int x8), (9, .int x9), (10, .int x10), (12, .double z12), (14, .int x14), (15, .int x15), (16, .int x16)]) rfl ?_
      refine z_iload C d_Law_minute_172 9 rfl ?_
      refine z_iload C d_Law_minute_174 15 rfl ?_
      refine z_iadd C d_Law_minute_176 ?_
      refine z_istore C d_Law_minute_177 (by decide) ?_
      refine z_lv (lv1 := [(8, .int (x8 + x16)), (11, .int (y0 + y1)), (0, .ref (zad G 4 80)), (1, .int x1), (2, .int x2), (3, .int x3), (4, .int x4), (5, .int x5), (6, .int x6), (7, .int x7), (9, .int x9), (10, .int x10), (12, .double z12), (14, .int x14), (15, .int x15), (16, .int x16)]) rfl ?_
      refine z_iload C d_Law_minute_179 10 rfl ?_
      refine z_aload_n C d_Law_minute_181 2 rfl rfl ?_
      refine gf_Law_10 C hm rfl rfl d_Law_minute_182 ?_
      refine z_iload C d_Law_minute_185 14 rfl ?_
      refine z_bipush C d_Law_minute_187 zkb_10 ?_
      obtain ⟨r40, h39, hf⟩ := bd_s hf
      refine z_cHi C kh_Law_house (c_Law_house hx h39) rfl rfl (Nat.le_of_ble_eq_true rfl) ⟨(Nat.le_of_ble_eq_true rfl), (Nat.le_of_ble_eq_true rfl)⟩ ⟨(Nat.le_of_ble_eq_true rfl), (Nat.le_of_ble_eq_true rfl)⟩ d_Law_minute_189 ?_
      obtain ⟨r42, h41, hf⟩ := bd_s hf
      refine z_cSi C kl_Law_167 (c_Integer_bitCount h41) rfl rfl (Nat.le_of_ble_eq_true rfl) ⟨(Nat.le_of_ble_eq_true rfl), (Nat.le_of_ble_eq_true rfl)⟩ ⟨(Nat.le_of_ble_eq_true rfl), (Nat.le_of_ble_eq_true rfl)⟩ d_Law_minute_192 ?_
      refine z_iadd C d_Law_minute_195 ?_
      refine z_istore C d_Law_minute_196 (by decide) ?_
      refine z_lv (lv1 := [(9, .int (x9 + r42)), (8, .int (x8 + x16)), (11, .int (y0 + y1)), (0, .ref (zad G 4 80)), (1, .int x1), (2, .int x2), (3, .int x3), (4, .int x4), (5, .int x5), (6, .int x6), (7, .int x7), (10, .int x10), (12, .double z12), (14, .int x14), (15, .int x15), (16, .int x16)]) rfl ?_
      refine z_iload C d_Law_minute_198 11 rfl ?_
      refine z_aload_n C d_Law_minute_200 3 rfl rfl ?_
      refine gf_Law_10 C hm rfl rfl d_Law_minute_201 ?_
      refine z_iload C d_Law_minute_204 14 rfl ?_
      refine z_bipush C d_Law_minute_206 zkb_11 ?_
      obtain ⟨r44, h43, hf⟩ := bd_s hf
      refine z_cHi C kh_Law_house (c_Law_house hx h43) rfl rfl (Nat.le_of_ble_eq_true rfl) ⟨(Nat.le_of_ble_eq_true rfl), (Nat.le_of_ble_eq_true rfl)⟩ ⟨(Nat.le_of_ble_eq_true rfl), (Nat.le_of_ble_eq_true rfl)⟩ d_Law_minute_208 ?_
      obtain ⟨r46, h45, hf⟩ := bd_s hf
      refine z_cSi C kl_Law_167 (c_Integer_bitCount h45) rfl rfl (Nat.le_of_ble_eq_true rfl) ⟨(Nat.le_of_ble_eq_true rfl), (Nat.le_of_ble_eq_true rfl)⟩ ⟨(Nat.le_of_ble_eq_true rfl), (Nat.le_of_ble_eq_true rfl)⟩ d_Law_minute_211 ?_
      refine z_iadd C d_Law_minute_214 ?_
      refine z_istore C d_Law_minute_215 (by decide) ?_
      refine z_lv (lv1 := [(10, .int (x10 + r46)), (9, .int (x9 + r42)), (8, .int (x8 + x16)), (11, .int (y0 + y1)), (0, .ref (zad G 4 80)), (1, .int x1), (2, .int x2), (3, .int x3), (4, .int x4), (5, .int x5), (6, .int x6), (7, .int x7), (12, .double z12), (14, .int x14), (15, .int x15), (16, .int x16)]) rfl ?_
      refine z_aload_n C d_Law_minute_217 4 rfl rfl ?_
      refine gf_Law_10 C hm rfl rfl d_Law_minute_218 ?_
      refine z_iload C d_Law_minute_221 14 rfl ?_
      obtain ⟨r48, σ49, h47, hf⟩ := bd2_s hf
      refine z_cHd C kh_Law_chance (c_Law_chance hx h47) rfl rfl (Nat.le_of_ble_eq_true rfl) ⟨(Nat.le_of_ble_eq_true rfl), (Nat.le_of_ble_eq_true rfl)⟩ ⟨(Nat.le_of_ble_eq_true rfl), (Nat.le_of_ble_eq_true rfl)⟩ d_Law_minute_223 ?_
      refine z_dstore C d_Law_minute_226 (by decide) ?_
      refine z_lv (lv1 := [(17, .double r48), (10, .int (x10 + r46)), (9, .int (x9 + r42)), (8, .int (x8 + x16)), (11, .int (y0 + y1)), (0, .ref (zad G 4 80)), (1, .int x1), (2, .int x2), (3, .int x3), (4, .int x4), (5, .int x5), (6, .int x6), (7, .int x7), (12, .double z12), (14, .int x14), (15, .int x15), (16, .int x16)]) rfl ?_
      refine z_dload C d_Law_minute_228 0 rfl ?_
      refine z_dconst0 C d_Law_minute_230 ?_
      refine z_dcmp C d_Law_minute_231 ?_
      refine z_if_le (tgt := 239) C d_Law_minute_232 rfl (fun h52 => ?_) (fun h52 => ?_)
      · have hf := iff_t hf h52
        refine z_iconst C d_Law_minute_239 zki_0 ?_
        refine z_iload_n C d_Law_minute_240 6 rfl rfl ?_
        refine z_iload C d_Law_minute_241 15 rfl ?_
        refine z_ishr C d_Law_minute_243 ?_
        refine z_iconst C d_Law_minute_244 zki_1 ?_
        refine z_iand C d_Law_minute_245 ?_
        refine z_iconst C d_Law_minute_246 zki_1 ?_
        refine z_icmp_ne (tgt := 254) C d_Law_minute_247 rfl (fun h50 => ?_) (fun h50 => ?_)
        · have hf := iff_f hf h50
          refine z_iconst C d_Law_minute_254 zki_0 ?_
          have hw := ih.2.2.1 _ _ _ _ _ _ _ _ _ _ _ _ _ _ _ _ _ _ _ _ hf
          exact z_sub [5, 6, 7, 8, 9, 10, 11, 12, 3, 2, 1, 4, 13, 14, 15, 0] rfl hw
        · have hf := iff_t hf h50
          refine z_iconst C d_Law_minute_250 zki_1 ?_
          refine z_goto (tgt := 255) C d_Law_minute_251 rfl ?_
          have hw := ih.2.2.1 _ _ _ _ _ _ _ _ _ _ _ _ _ _ _ _ _ _ _ _ hf
          exact z_sub [5, 6, 7, 8, 9, 10, 11, 12, 3, 2, 1, 4, 13, 14, 15, 0] rfl hw
      · have hf := iff_f hf h52
        refine z_iconst C d_Law_minute_235 zki_1 ?_
        refine z_goto (tgt := 240) C d_Law_minute_236 rfl ?_
        refine z_iload_n C d_Law_minute_240 6 rfl rfl ?_
        refine z_iload C d_Law_minute_241 15 rfl ?_
        refine z_ishr C d_Law_minute_243 ?_
        refine z_iconst C d_Law_minute_244 zki_1 ?_
        refine z_iand C d_Law_minute_245 ?_
        refine z_iconst C d_Law_minute_246 zki_1 ?_
        refine z_icmp_ne (tgt := 254) C d_Law_minute_247 rfl (fun h51 => ?_) (fun h51 => ?_)
        · have hf := iff_f hf h51
          refine z_iconst C d_Law_minute_254 zki_0 ?_
          have hw := ih.2.2.1 _ _ _ _ _ _ _ _ _ _ _ _ _ _ _ _ _ _ _ _ hf
          exact z_sub [5, 6, 7, 8, 9, 10, 11, 12, 3, 2, 1, 4, 13, 14, 15, 0] rfl hw
        · have hf := iff_t hf h51
          refine z_iconst C d_Law_minute_250 zki_1 ?_
          refine z_goto (tgt := 255) C d_Law_minute_251 rfl ?_
          have hw := ih.2.2.1 _ _ _ _ _ _ _ _ _ _ _ _ _ _ _ _ _ _ _ _ hf
          exact z_sub [5, 6, 7, 8, 9, 10, 11, 12, 3, 2, 1, 4, 13, 14, 15, 0] rfl hw
    · intro x1 x2 x3 x4 x5 x6 x7 x8 x9 x10 x11 z12 x14 x15 x16 y0 y1 z17 x17 σ hf
      rw [e_Law_minute_2] at hf
      refine z_icmp_ne (tgt := 283) C d_Law_minute_255 rfl (fun h62 => ?_) (fun h62 => ?_)
      · have hf := iff_f hf h62
        refine z_iconst C d_Law_minute_283 zki_0 ?_
        cases hf
        exact z_zret C rfl rfl (Nat.le_of_ble_eq_true rfl) (Nat.le_of_ble_eq_true rfl) d_Law_minute_284
      · have hf := iff_t hf h62
        refine z_iload_n C d_Law_minute_258 1 rfl rfl ?_
        refine z_iload C d_Law_minute_259 14 rfl ?_
        refine z_ishr C d_Law_minute_261 ?_
        refine z_iconst C d_Law_minute_262 zki_1 ?_
        refine z_iand C d_Law_minute_263 ?_
        refine z_iconst C d_Law_minute_264 zki_1 ?_
        refine z_icmp_ne (tgt := 285) C d_Law_minute_265 rfl (fun h61 => ?_) (fun h61 => ?_)
        · have hf := iff_f hf h61
          refine z_dload C d_Law_minute_285 12 rfl ?_
          refine z_dload C d_Law_minute_287 15 rfl ?_
          obtain ⟨h56, hf⟩ := iff_g hf
          refine z_dadd C d_Law_minute_289 (zn64_n h56) ?_
          refine z_dstore C d_Law_minute_290 (by decide) ?_
          refine z_lv (lv1 := [(12, .double (FP.dadd z12 z17)), (0, .ref (zad G 4 80)), (1, .int x1), (2, .int x2), (3, .int x3), (4, .int x4), (5, .int x5), (6, .int x6), (7, .int x7), (8, .int x8), (9, .int x9), (10, .int x10), (11, .int x11), (14, .int x14), (15, .int x15), (17, .double z17)]) rfl ?_
          refine z_iinc C d_Law_minute_292 14 rfl zki_1 (by decide) ?_
          refine z_lv (lv1 := [(15, .int (x15 + (1 : Int32))), (12, .double (FP.dadd z12 z17)), (0, .ref (zad G 4 80)), (1, .int x1), (2, .int x2), (3, .int x3), (4, .int x4), (5, .int x5), (6, .int x6), (7, .int x7), (8, .int x8), (9, .int x9), (10, .int x10), (11, .int x11), (14, .int x14), (17, .double z17)]) rfl ?_
          refine z_goto (tgt := 112) C d_Law_minute_295 rfl ?_
          have hw := ih.1 _ _ _ _ _ _ _ _ _ _ _ _ _ _ _ _ _ _ _ _ hf
          exact z_sub [2, 3, 4, 5, 6, 7, 8, 9, 10, 11, 12, 13, 1, 14, 0] rfl hw
        · have hf := iff_t hf h61
          refine z_aload_n C d_Law_minute_268 0 rfl rfl ?_
          refine gf_Law_10 C hm rfl rfl d_Law_minute_269 ?_
          refine z_iload C d_Law_minute_272 14 rfl ?_
          refine z_bipush C d_Law_minute_274 zkb_7 ?_
          obtain ⟨r58, h57, hf⟩ := bd_s hf
          refine z_cHi C kh_Law_house (c_Law_house hx h57) rfl rfl (Nat.le_of_ble_eq_true rfl) ⟨(Nat.le_of_ble_eq_true rfl), (Nat.le_of_ble_eq_true rfl)⟩ ⟨(Nat.le_of_ble_eq_true rfl), (Nat.le_of_ble_eq_true rfl)⟩ d_Law_minute_276 ?_
          refine z_iconst C d_Law_minute_279 zki_1 ?_
          refine z_icmp_ne (tgt := 285) C d_Law_minute_280 rfl (fun h60 => ?_) (fun h60 => ?_)
          · have hf := iff_f hf h60
            refine z_dload C d_Law_minute_285 12 rfl ?_
            refine z_dload C d_Law_minute_287 15 rfl ?_
            obtain ⟨h59, hf⟩ := iff_g hf
            refine z_dadd C d_Law_minute_289 (zn64_n h59) ?_
            refine z_dstore C d_Law_minute_290 (by decide) ?_
            refine z_lv (lv1 := [(12, .double (FP.dadd z12 z17)), (0, .ref (zad G 4 80)), (1, .int x1), (2, .int x2), (3, .int x3), (4, .int x4), (5, .int x5), (6, .int x6), (7, .int x7), (8, .int x8), (9, .int x9), (10, .int x10), (11, .int x11), (14, .int x14), (15, .int x15), (17, .double z17)]) rfl ?_
            refine z_iinc C d_Law_minute_292 14 rfl zki_1 (by decide) ?_
            refine z_lv (lv1 := [(15, .int (x15 + (1 : Int32))), (12, .double (FP.dadd z12 z17)), (0, .ref (zad G 4 80)), (1, .int x1), (2, .int x2), (3, .int x3), (4, .int x4), (5, .int x5), (6, .int x6), (7, .int x7), (8, .int x8), (9, .int x9), (10, .int x10), (11, .int x11), (14, .int x14), (17, .double z17)]) rfl ?_
            refine z_goto (tgt := 112) C d_Law_minute_295 rfl ?_
            have hw := ih.1 _ _ _ _ _ _ _ _ _ _ _ _ _ _ _ _ _ _ _ _ hf
            exact z_sub [2, 3, 4, 5, 6, 7, 8, 9, 10, 11, 12, 13, 1, 14, 0] rfl hw
          · have hf := iff_t hf h60
            refine z_iconst C d_Law_minute_283 zki_0 ?_
            cases hf
            exact z_zret C rfl rfl (Nat.le_of_ble_eq_true rfl) (Nat.le_of_ble_eq_true rfl) d_Law_minute_284
    · intro x1 x2 x3 x4 x5 x6 x7 x8 x9 x10 x11 z12 x14 x15 x16 y0 y1 z17 x17 σ hf
      rw [e_Law_minute_3] at hf
      refine z_icmp_ne (tgt := 353) C d_Law_minute_316 rfl (fun h38 => ?_) (fun h38 => ?_)
      · have hf := iff_f hf h38
        refine z_iconst C d_Law_minute_353 zki_0 ?_
        cases hf
        exact z_zret C rfl rfl (Nat.le_of_ble_eq_true rfl) (Nat.le_of_ble_eq_true rfl) d_Law_minute_354
      · have hf := iff_t hf h38
        refine z_iload_n C d_Law_minute_319 2 rfl rfl ?_
        refine z_if_lt (tgt := 331) C d_Law_minute_320 rfl (fun h37 => ?_) (fun h37 => ?_)
        · have hf := iff_t hf h37
          have hw := ih.2.2.2.2.1 _ _ _ _ _ _ _ _ _ _ _ _ _ _ _ _ _ _ _ _ hf
          exact z_sub [0, 2, 3, 4, 5, 6, 7, 8, 9, 10, 11, 12] rfl hw
        · have hf := iff_f hf h37
          refine z_iload_n C d_Law_minute_323 1 rfl rfl ?_
          refine z_iload_n C d_Law_minute_324 2 rfl rfl ?_
          refine z_ishr C d_Law_minute_325 ?_
          refine z_iconst C d_Law_minute_326 zki_1 ?_
          refine z_iand C d_Law_minute_327 ?_
          refine z_if_eq (tgt := 353) C d_Law_minute_328 rfl (fun h36 => ?_) (fun h36 => ?_)
          · have hf := iff_t hf h36
            refine z_iconst C d_Law_minute_353 zki_0 ?_
            cases hf
            exact z_zret C rfl rfl (Nat.le_of_ble_eq_true rfl) (Nat.le_of_ble_eq_true rfl) d_Law_minute_354
          · have hf := iff_f hf h36
            have hw := ih.2.2.2.2.1 _ _ _ _ _ _ _ _ _ _ _ _ _ _ _ _ _ _ _ _ hf
            exact z_sub [0, 2, 3, 4, 5, 6, 7, 8, 9, 10, 11, 12] rfl hw
    · intro x1 x2 x3 x4 x5 x6 x7 x8 x9 x10 x11 z12 x14 x15 x16 y0 y1 z17 x17 σ hf
      rw [e_Law_minute_4] at hf
      refine z_iload_n C d_Law_minute_331 1 rfl rfl ?_
      refine z_if_lt (tgt := 355) C d_Law_minute_332 rfl (fun h55 => ?_) (fun h55 => ?_)
      · have hf := iff_t hf h55
        have hw := ih.2.2.2.2.2.1 _ _ _ _ _ _ _ _ _ _ _ _ _ _ _ _ _ _ _ _ hf
        exact z_sub [0, 1, 2, 3, 4, 5, 6, 7, 8, 9, 10] rfl hw
      · have hf := iff_f hf h55
        refine z_dload C d_Law_minute_335 11 rfl ?_
        refine z_ldc2d C d_Law_minute_337 zq915 ?_
        refine z_dcmp C d_Law_minute_340 ?_
        refine z_if_lt (tgt := 353) C d_Law_minute_341 rfl (fun h54 => ?_) (fun h54 => ?_)
        · have hf := iff_t hf h54
          refine z_iconst C d_Law_minute_353 zki_0 ?_
          cases hf
          exact z_zret C rfl rfl (Nat.le_of_ble_eq_true rfl) (Nat.le_of_ble_eq_true rfl) d_Law_minute_354
        · have hf := iff_f hf h54
          refine z_dload C d_Law_minute_344 11 rfl ?_
          refine z_ldc2d C d_Law_minute_346 zq916 ?_
          refine z_dcmp C d_Law_minute_349 ?_
          refine z_if_le (tgt := 355) C d_Law_minute_350 rfl (fun h53 => ?_) (fun h53 => ?_)
          · have hf := iff_t hf h53
            have hw := ih.2.2.2.2.2.1 _ _ _ _ _ _ _ _ _ _ _ _ _ _ _ _ _ _ _ _ hf
            exact z_sub [0, 1, 2, 3, 4, 5, 6, 7, 8, 9, 10] rfl hw
          · have hf := iff_f hf h53
            refine z_iconst C d_Law_minute_353 zki_0 ?_
            cases hf
            exact z_zret C rfl rfl (Nat.le_of_ble_eq_true rfl) (Nat.le_of_ble_eq_true rfl) d_Law_minute_354
    · intro x1 x2 x3 x4 x5 x6 x7 x8 x9 x10 x11 z12 x14 x15 x16 y0 y1 z17 x17 σ hf
      rw [e_Law_minute_5] at hf
      refine z_iload_n C d_Law_minute_355 1 rfl rfl ?_
      refine z_if_ge (tgt := 363) C d_Law_minute_356 rfl (fun h73 => ?_) (fun h73 => ?_)
      · have hf := iff_t hf h73
        refine z_aload_n C d_Law_minute_363 0 rfl rfl ?_
        refine gf_Law_10 C hm rfl rfl d_Law_minute_364 ?_
        refine z_iload_n C d_Law_minute_367 1 rfl rfl ?_
        refine z_bipush C d_Law_minute_368 zkb_14 ?_
        obtain ⟨r64, h63, hf⟩ := bd_s hf
        refine z_cHi C kh_Law_house (c_Law_house hx h63) rfl rfl (Nat.le_of_ble_eq_true rfl) ⟨(Nat.le_of_ble_eq_true rfl), (Nat.le_of_ble_eq_true rfl)⟩ ⟨(Nat.le_of_ble_eq_true rfl), (Nat.le_of_ble_eq_true rfl)⟩ d_Law_minute_370 ?_
        refine z_istore C d_Law_minute_373 (by decide) ?_
        refine z_lv (lv1 := [(15, .int r64), (0, .ref (zad G 4 80)), (2, .int x2), (3, .int x3), (4, .int x4), (5, .int x5), (6, .int x6), (7, .int x7), (8, .int x8), (9, .int x9), (10, .int x10), (11, .int x11)]) rfl ?_
        refine z_aload_n C d_Law_minute_375 1 rfl rfl ?_
        refine gf_Law_10 C hm rfl rfl d_Law_minute_376 ?_
        refine z_iconst C d_Law_minute_379 zki_1 ?_
        obtain ⟨r66, σ67, h65, hf⟩ := bd2_s hf
        refine z_cHi C kh_Law_run (c_Law_run hx h65) rfl rfl (Nat.le_of_ble_eq_true rfl) ⟨(Nat.le_of_ble_eq_true rfl), (Nat.le_of_ble_eq_true rfl)⟩ ⟨(Nat.le_of_ble_eq_true rfl), (Nat.le_of_ble_eq_true rfl)⟩ d_Law_minute_380 ?_
        refine z_istore C d_Law_minute_383 (by decide) ?_
        refine z_lv (lv1 := [(16, .int r66), (15, .int r64), (0, .ref (zad G 4 80)), (2, .int x2), (3, .int x3), (4, .int x4), (5, .int x5), (6, .int x6), (7, .int x7), (8, .int x8), (9, .int x9), (10, .int x10), (11, .int x11)]) rfl ?_
        refine z_iload C d_Law_minute_385 0 rfl ?_
        refine z_iload_n C d_Law_minute_387 3 rfl rfl ?_
        refine z_if_ge (tgt := 395) C d_Law_minute_388 rfl (fun h68 => ?_) (fun h68 => ?_)
        · have hf := iff_t hf h68
          refine z_iconst C d_Law_minute_395 zki_1 ?_
          have hw := ih.2.2.2.2.2.2.1 _ _ _ _ _ _ _ _ _ _ _ _ _ _ _ _ _ _ _ _ hf
          exact z_sub [2, 3, 4, 5, 6, 7, 8, 9, 10, 11, 12, 1, 0] rfl hw
        · have hf := iff_f hf h68
          refine z_iconst C d_Law_minute_391 zki_0 ?_
          refine z_goto (tgt := 396) C d_Law_minute_392 rfl ?_
          have hw := ih.2.2.2.2.2.2.1 _ _ _ _ _ _ _ _ _ _ _ _ _ _ _ _ _ _ _ _ hf
          exact z_sub [2, 3, 4, 5, 6, 7, 8, 9, 10, 11, 12, 1, 0] rfl hw
      · have hf := iff_f hf h73
        refine z_iconst C d_Law_minute_359 zki_0 ?_
        refine z_goto (tgt := 373) C d_Law_minute_360 rfl ?_
        refine z_istore C d_Law_minute_373 (by decide) ?_
        refine z_lv (lv1 := [(15, .int (0 : Int32)), (0, .ref (zad G 4 80)), (2, .int x2), (3, .int x3), (4, .int x4), (5, .int x5), (6, .int x6), (7, .int x7), (8, .int x8), (9, .int x9), (10, .int x10), (11, .int x11)]) rfl ?_
        refine z_aload_n C d_Law_minute_375 1 rfl rfl ?_
        refine gf_Law_10 C hm rfl rfl d_Law_minute_376 ?_
        refine z_iconst C d_Law_minute_379 zki_1 ?_
        obtain ⟨r70, σ71, h69, hf⟩ := bd2_s hf
        refine z_cHi C kh_Law_run (c_Law_run hx h69) rfl rfl (Nat.le_of_ble_eq_true rfl) ⟨(Nat.le_of_ble_eq_true rfl), (Nat.le_of_ble_eq_true rfl)⟩ ⟨(Nat.le_of_ble_eq_true rfl), (Nat.le_of_ble_eq_true rfl)⟩ d_Law_minute_380 ?_
        refine z_istore C d_Law_minute_383 (by decide) ?_
        refine z_lv (lv1 := [(16, .int r70), (15, .int (0 : Int32)), (0, .ref (zad G 4 80)), (2, .int x2), (3, .int x3), (4, .int x4), (5, .int x5), (6, .int x6), (7, .int x7), (8, .int x8), (9, .int x9), (10, .int x10), (11, .int x11)]) rfl ?_
        refine z_iload C d_Law_minute_385 0 rfl ?_
        refine z_iload_n C d_Law_minute_387 3 rfl rfl ?_
        refine z_if_ge (tgt := 395) C d_Law_minute_388 rfl (fun h72 => ?_) (fun h72 => ?_)
        · have hf := iff_t hf h72
          refine z_iconst C d_Law_minute_395 zki_1 ?_
          have hw := ih.2.2.2.2.2.2.1 _ _ _ _ _ _ _ _ _ _ _ _ _ _ _ _ _ _ _ _ hf
          exact z_sub [2, 3, 4, 5, 6, 7, 8, 9, 10, 11, 12, 1, 0] rfl hw
        · have hf := iff_f hf h72
          refine z_iconst C d_Law_minute_391 zki_0 ?_
          refine z_goto (tgt := 396) C d_Law_minute_392 rfl ?_
          have hw := ih.2.2.2.2.2.2.1 _ _ _ _ _ _ _ _ _ _ _ _ _ _ _ _ _ _ _ _ hf
          exact z_sub [2, 3, 4, 5, 6, 7, 8, 9, 10, 11, 12, 1, 0] rfl hw
    · intro x1 x2 x3 x4 x5 x6 x7 x8 x9 x10 x11 z12 x14 x15 x16 y0 y1 z17 x17 σ hf
      rw [e_Law_minute_6] at hf
      refine z_icmp_ne (tgt := 431) C d_Law_minute_396 rfl (fun h80 => ?_) (fun h80 => ?_)
      · have hf := iff_f hf h80
        refine z_iconst C d_Law_minute_431 zki_0 ?_
        cases hf
        exact z_zret C rfl rfl (Nat.le_of_ble_eq_true rfl) (Nat.le_of_ble_eq_true rfl) d_Law_minute_432
      · have hf := iff_t hf h80
        refine z_aload_n C d_Law_minute_399 0 rfl rfl ?_
        refine gf_Law_10 C hm rfl rfl d_Law_minute_400 ?_
        refine z_bipush C d_Law_minute_403 zkb_10 ?_
        obtain ⟨r75, h74, hf⟩ := bd_s hf
        refine z_cHi C kh_Law_count (c_Law_count hx h74) rfl rfl (Nat.le_of_ble_eq_true rfl) ⟨(Nat.le_of_ble_eq_true rfl), (Nat.le_of_ble_eq_true rfl)⟩ ⟨(Nat.le_of_ble_eq_true rfl), (Nat.le_of_ble_eq_true rfl)⟩ d_Law_minute_405 ?_
        refine z_iload C d_Law_minute_408 3 rfl ?_
        refine z_iload C d_Law_minute_410 12 rfl ?_
        refine z_iadd C d_Law_minute_412 ?_
        refine z_icmp_ne (tgt := 431) C d_Law_minute_413 rfl (fun h79 => ?_) (fun h79 => ?_)
        · have hf := iff_f hf h79
          refine z_iconst C d_Law_minute_431 zki_0 ?_
          cases hf
          exact z_zret C rfl rfl (Nat.le_of_ble_eq_true rfl) (Nat.le_of_ble_eq_true rfl) d_Law_minute_432
        · have hf := iff_t hf h79
          refine z_aload_n C d_Law_minute_416 0 rfl rfl ?_
          refine gf_Law_10 C hm rfl rfl d_Law_minute_417 ?_
          refine z_bipush C d_Law_minute_420 zkb_8 ?_
          obtain ⟨r77, h76, hf⟩ := bd_s hf
          refine z_cHi C kh_Law_count (c_Law_count hx h76) rfl rfl (Nat.le_of_ble_eq_true rfl) ⟨(Nat.le_of_ble_eq_true rfl), (Nat.le_of_ble_eq_true rfl)⟩ ⟨(Nat.le_of_ble_eq_true rfl), (Nat.le_of_ble_eq_true rfl)⟩ d_Law_minute_422 ?_
          refine z_iload_n C d_Law_minute_425 2 rfl rfl ?_
          refine z_iconst C d_Law_minute_426 zki_1 ?_
          refine z_iadd C d_Law_minute_427 ?_
          refine z_icmp_eq (tgt := 433) C d_Law_minute_428 rfl (fun h78 => ?_) (fun h78 => ?_)
          · have hf := iff_t hf h78
            refine z_iconst C d_Law_minute_433 zki_0 ?_
            refine z_istore C d_Law_minute_434 (by decide) ?_
            refine z_lv (lv1 := [(17, .int (0 : Int32)), (0, .ref (zad G 4 80)), (2, .int x2), (3, .int x3), (4, .int x4), (5, .int x5), (6, .int x6), (7, .int x7), (8, .int x8), (9, .int x9), (10, .int x10), (11, .int x11), (15, .int x15), (16, .int x16)]) rfl ?_
            have hw := ih.2.2.2.2.2.2.2 _ _ _ _ _ _ _ _ _ _ _ _ _ _ _ _ _ _ _ _ hf
            exact z_sub [1, 2, 3, 5, 6, 7, 8, 9, 10, 11, 12, 0] rfl hw
          · have hf := iff_f hf h78
            refine z_iconst C d_Law_minute_431 zki_0 ?_
            cases hf
            exact z_zret C rfl rfl (Nat.le_of_ble_eq_true rfl) (Nat.le_of_ble_eq_true rfl) d_Law_minute_432
    · intro x1 x2 x3 x4 x5 x6 x7 x8 x9 x10 x11 z12 x14 x15 x16 y0 y1 z17 x17 σ hf
      rw [e_Law_minute_7] at hf
      refine z_iload C d_Law_minute_436 11 rfl ?_
      refine z_aload_n C d_Law_minute_438 0 rfl rfl ?_
      refine gf_Law_10 C hm rfl rfl d_Law_minute_439 ?_
      refine z_bipush C d_Law_minute_442 zkb_6 ?_
      obtain ⟨r82, h81, hf⟩ := bd_s hf
      refine z_cHi C kh_Law_count (c_Law_count hx h81) rfl rfl (Nat.le_of_ble_eq_true rfl) ⟨(Nat.le_of_ble_eq_true rfl), (Nat.le_of_ble_eq_true rfl)⟩ ⟨(Nat.le_of_ble_eq_true rfl), (Nat.le_of_ble_eq_true rfl)⟩ d_Law_minute_444 ?_
      refine z_icmp_ge (tgt := 509) C d_Law_minute_447 rfl (fun h119 => ?_) (fun h119 => ?_)
      · have hf := iff_t hf h119
        refine z_iload C d_Law_minute_509 6 rfl ?_
        refine z_iload C d_Law_minute_511 9 rfl ?_
        refine z_iadd C d_Law_minute_513 ?_
        refine z_iload C d_Law_minute_514 3 rfl ?_
        refine z_icmp_ne (tgt := 535) C d_Law_minute_516 rfl (fun h108 => ?_) (fun h108 => ?_)
        · have hf := iff_f hf h108
          refine z_iconst C d_Law_minute_535 zki_0 ?_
          cases hf
          exact z_zret C rfl rfl (Nat.le_of_ble_eq_true rfl) (Nat.le_of_ble_eq_true rfl) d_Law_minute_536
        · have hf := iff_t hf h108
          refine z_iload C d_Law_minute_519 7 rfl ?_
          refine z_iload C d_Law_minute_521 4 rfl ?_
          refine z_ineg C d_Law_minute_523 ?_
          refine z_icmp_ne (tgt := 535) C d_Law_minute_524 rfl (fun h107 => ?_) (fun h107 => ?_)
          · have hf := iff_f hf h107
            refine z_iconst C d_Law_minute_535 zki_0 ?_
            cases hf
            exact z_zret C rfl rfl (Nat.le_of_ble_eq_true rfl) (Nat.le_of_ble_eq_true rfl) d_Law_minute_536
          · have hf := iff_t hf h107
            refine z_iload C d_Law_minute_527 8 rfl ?_
            refine z_iload C d_Law_minute_529 5 rfl ?_
            refine z_ineg C d_Law_minute_531 ?_
            refine z_icmp_eq (tgt := 537) C d_Law_minute_532 rfl (fun h106 => ?_) (fun h106 => ?_)
            · have hf := iff_t hf h106
              refine z_iload_n C d_Law_minute_537 1 rfl rfl ?_
              refine z_if_ge (tgt := 543) C d_Law_minute_538 rfl (fun h105 => ?_) (fun h105 => ?_)
              · have hf := iff_t hf h105
                refine z_aload_n C d_Law_minute_543 0 rfl rfl ?_
                refine gf_Law_10 C hm rfl rfl d_Law_minute_544 ?_
                refine z_iconst C d_Law_minute_547 zki_0 ?_
                refine z_iconst C d_Law_minute_548 zki_4 ?_
                obtain ⟨r84, h83, hf⟩ := bd_s hf
                refine z_cHi C kh_Law_spoken (c_Law_spoken hx h83) rfl rfl (Nat.le_of_ble_eq_true rfl) ⟨(Nat.le_of_ble_eq_true rfl), (Nat.le_of_ble_eq_true rfl)⟩ ⟨(Nat.le_of_ble_eq_true rfl), (Nat.le_of_ble_eq_true rfl)⟩ d_Law_minute_549 ?_
                refine z_istore C d_Law_minute_552 (by decide) ?_
                refine z_lv (lv1 := [(17, .int r84), (0, .ref (zad G 4 80)), (2, .int x2), (3, .int x3), (5, .int x5), (6, .int x6), (7, .int x7), (8, .int x8), (9, .int x9), (10, .int x10), (11, .int x11), (15, .int x15)]) rfl ?_
                refine z_aload_n C d_Law_minute_554 1 rfl rfl ?_
                refine gf_Law_10 C hm rfl rfl d_Law_minute_555 ?_
                refine z_iconst C d_Law_minute_558 zki_0 ?_
                refine z_iconst C d_Law_minute_559 zki_5 ?_
                obtain ⟨r86, h85, hf⟩ := bd_s hf
                refine z_cHi C kh_Law_spoken (c_Law_spoken hx h85) rfl rfl (Nat.le_of_ble_eq_true rfl) ⟨(Nat.le_of_ble_eq_true rfl), (Nat.le_of_ble_eq_true rfl)⟩ ⟨(Nat.le_of_ble_eq_true rfl), (Nat.le_of_ble_eq_true rfl)⟩ d_Law_minute_560 ?_
                refine z_istore C d_Law_minute_563 (by decide) ?_
                refine z_lv (lv1 := [(18, .int r86), (17, .int r84), (0, .ref (zad G 4 80)), (2, .int x2), (3, .int x3), (5, .int x5), (6, .int x6), (7, .int x7), (8, .int x8), (9, .int x9), (10, .int x10), (11, .int x11), (15, .int x15)]) rfl ?_
                refine z_aload_n C d_Law_minute_565 2 rfl rfl ?_
                refine gf_Law_10 C hm rfl rfl d_Law_minute_566 ?_
                refine z_iconst C d_Law_minute_569 zki_0 ?_
                refine z_iconst C d_Law_minute_570 zki_0 ?_
                obtain ⟨r88, h87, hf⟩ := bd_s hf
                refine z_cHi C kh_Law_spoken (c_Law_spoken hx h87) rfl rfl (Nat.le_of_ble_eq_true rfl) ⟨(Nat.le_of_ble_eq_true rfl), (Nat.le_of_ble_eq_true rfl)⟩ ⟨(Nat.le_of_ble_eq_true rfl), (Nat.le_of_ble_eq_true rfl)⟩ d_Law_minute_571 ?_
                refine z_iload_n C d_Law_minute_574 4 rfl rfl ?_
                refine z_icmp_ne (tgt := 656) C d_Law_minute_575 rfl (fun h104 => ?_) (fun h104 => ?_)
                · have hf := iff_f hf h104
                  refine z_iconst C d_Law_minute_656 zki_0 ?_
                  cases hf
                  exact z_zret C rfl rfl (Nat.le_of_ble_eq_true rfl) (Nat.le_of_ble_eq_true rfl) d_Law_minute_657
                · have hf := iff_t hf h104
                  refine z_aload_n C d_Law_minute_578 2 rfl rfl ?_
                  refine gf_Law_10 C hm rfl rfl d_Law_minute_579 ?_
                  refine z_iconst C d_Law_minute_582 zki_0 ?_
                  refine z_iconst C d_Law_minute_583 zki_1 ?_
                  obtain ⟨r90, h89, hf⟩ := bd_s hf
                  refine z_cHi C kh_Law_spoken (c_Law_spoken hx h89) rfl rfl (Nat.le_of_ble_eq_true rfl) ⟨(Nat.le_of_ble_eq_true rfl), (Nat.le_of_ble_eq_true rfl)⟩ ⟨(Nat.le_of_ble_eq_true rfl), (Nat.le_of_ble_eq_true rfl)⟩ d_Law_minute_584 ?_
                  refine z_iload_n C d_Law_minute_587 3 rfl rfl ?_
                  refine z_icmp_ne (tgt := 656) C d_Law_minute_588 rfl (fun h103 => ?_) (fun h103 => ?_)
                  · have hf := iff_f hf h103
                    refine z_iconst C d_Law_minute_656 zki_0 ?_
                    cases hf
                    exact z_zret C rfl rfl (Nat.le_of_ble_eq_true rfl) (Nat.le_of_ble_eq_true rfl) d_Law_minute_657
                  · have hf := iff_t hf h103
                    refine z_iload C d_Law_minute_591 1 rfl ?_
                    refine z_iload C d_Law_minute_593 12 rfl ?_
                    refine z_iconst C d_Law_minute_595 zki_m1 ?_
                    refine z_ixor C d_Law_minute_596 ?_
                    refine z_iand C d_Law_minute_597 ?_
                    refine z_if_ne (tgt := 656) C d_Law_minute_598 rfl (fun h102 => ?_) (fun h102 => ?_)
                    · have hf := iff_f hf h102
                      refine z_iconst C d_Law_minute_656 zki_0 ?_
                      cases hf
                      exact z_zret C rfl rfl (Nat.le_of_ble_eq_true rfl) (Nat.le_of_ble_eq_true rfl) d_Law_minute_657
                    · have hf := iff_t hf h102
                      refine z_iload C d_Law_minute_601 0 rfl ?_
                      refine z_iload C d_Law_minute_603 1 rfl ?_
                      refine z_iconst C d_Law_minute_605 zki_m1 ?_
                      refine z_ixor C d_Law_minute_606 ?_
                      refine z_iand C d_Law_minute_607 ?_
                      refine z_if_ne (tgt := 656) C d_Law_minute_608 rfl (fun h101 => ?_) (fun h101 => ?_)
                      · have hf := iff_f hf h101
                        refine z_iconst C d_Law_minute_656 zki_0 ?_
                        cases hf
                        exact z_zret C rfl rfl (Nat.le_of_ble_eq_true rfl) (Nat.le_of_ble_eq_true rfl) d_Law_minute_657
                      · have hf := iff_t hf h101
                        refine z_iload C d_Law_minute_611 0 rfl ?_
                        obtain ⟨r92, h91, hf⟩ := bd_s hf
                        refine z_cSi C kl_Law_167 (c_Integer_bitCount h91) rfl rfl (Nat.le_of_ble_eq_true rfl) ⟨(Nat.le_of_ble_eq_true rfl), (Nat.le_of_ble_eq_true rfl)⟩ ⟨(Nat.le_of_ble_eq_true rfl), (Nat.le_of_ble_eq_true rfl)⟩ d_Law_minute_613 ?_
                        refine z_iload C d_Law_minute_616 6 rfl ?_
                        refine z_iload C d_Law_minute_618 7 rfl ?_
                        refine z_iadd C d_Law_minute_620 ?_
                        refine z_icmp_ne (tgt := 656) C d_Law_minute_621 rfl (fun h100 => ?_) (fun h100 => ?_)
                        · have hf := iff_f hf h100
                          refine z_iconst C d_Law_minute_656 zki_0 ?_
                          cases hf
                          exact z_zret C rfl rfl (Nat.le_of_ble_eq_true rfl) (Nat.le_of_ble_eq_true rfl) d_Law_minute_657
                        · have hf := iff_t hf h100
                          refine z_iload C d_Law_minute_624 5 rfl ?_
                          refine z_aload_n C d_Law_minute_626 2 rfl rfl ?_
                          refine gf_Law_10 C hm rfl rfl d_Law_minute_627 ?_
                          refine z_iconst C d_Law_minute_630 zki_0 ?_
                          obtain ⟨r94, h93, hf⟩ := bd_s hf
                          refine z_cHi C kh_Law_count (c_Law_count hx h93) rfl rfl (Nat.le_of_ble_eq_true rfl) ⟨(Nat.le_of_ble_eq_true rfl), (Nat.le_of_ble_eq_true rfl)⟩ ⟨(Nat.le_of_ble_eq_true rfl), (Nat.le_of_ble_eq_true rfl)⟩ d_Law_minute_631 ?_
                          refine z_iload C d_Law_minute_634 1 rfl ?_
                          obtain ⟨r96, h95, hf⟩ := bd_s hf
                          refine z_cSi C kl_Law_167 (c_Integer_bitCount h95) rfl rfl (Nat.le_of_ble_eq_true rfl) ⟨(Nat.le_of_ble_eq_true rfl), (Nat.le_of_ble_eq_true rfl)⟩ ⟨(Nat.le_of_ble_eq_true rfl), (Nat.le_of_ble_eq_true rfl)⟩ d_Law_minute_636 ?_
                          refine z_aload_n C d_Law_minute_639 2 rfl rfl ?_
                          refine gf_Law_10 C hm rfl rfl d_Law_minute_640 ?_
                          refine z_iconst C d_Law_minute_643 zki_1 ?_
                          obtain ⟨r98, h97, hf⟩ := bd_s hf
                          refine z_cHi C kh_Law_count (c_Law_count hx h97) rfl rfl (Nat.le_of_ble_eq_true rfl) ⟨(Nat.le_of_ble_eq_true rfl), (Nat.le_of_ble_eq_true rfl)⟩ ⟨(Nat.le_of_ble_eq_true rfl), (Nat.le_of_ble_eq_true rfl)⟩ d_Law_minute_644 ?_
                          refine z_imul C d_Law_minute_647 ?_
                          refine z_iadd C d_Law_minute_648 ?_
                          refine z_icmp_ne (tgt := 656) C d_Law_minute_649 rfl (fun h99 => ?_) (fun h99 => ?_)
                          · have hf := iff_f hf h99
                            refine z_iconst C d_Law_minute_656 zki_0 ?_
                            cases hf
                            exact z_zret C rfl rfl (Nat.le_of_ble_eq_true rfl) (Nat.le_of_ble_eq_true rfl) d_Law_minute_657
                          · have hf := iff_t hf h99
                            refine z_iconst C d_Law_minute_652 zki_1 ?_
                            refine z_goto (tgt := 657) C d_Law_minute_653 rfl ?_
                            cases hf
                            exact z_zret C rfl rfl (Nat.le_of_ble_eq_true rfl) (Nat.le_of_ble_eq_true rfl) d_Law_minute_657
              · have hf := iff_f hf h105
                refine z_iconst C d_Law_minute_541 zki_1 ?_
                cases hf
                exact z_zret C rfl rfl (Nat.le_of_ble_eq_true rfl) (Nat.le_of_ble_eq_true rfl) d_Law_minute_542
            · have hf := iff_f hf h106
              refine z_iconst C d_Law_minute_535 zki_0 ?_
              cases hf
              exact z_zret C rfl rfl (Nat.le_of_ble_eq_true rfl) (Nat.le_of_ble_eq_true rfl) d_Law_minute_536
      · have hf := iff_f hf h119
        refine z_iload C d_Law_minute_450 6 rfl ?_
        refine z_aload_n C d_Law_minute_452 0 rfl rfl ?_
        refine gf_Law_10 C hm rfl rfl d_Law_minute_453 ?_
        refine z_iload C d_Law_minute_456 11 rfl ?_
        refine z_iconst C d_Law_minute_458 zki_3 ?_
        obtain ⟨r110, h109, hf⟩ := bd_s hf
        refine z_cHi C kh_Law_house (c_Law_house hx h109) rfl rfl (Nat.le_of_ble_eq_true rfl) ⟨(Nat.le_of_ble_eq_true rfl), (Nat.le_of_ble_eq_true rfl)⟩ ⟨(Nat.le_of_ble_eq_true rfl), (Nat.le_of_ble_eq_true rfl)⟩ d_Law_minute_459 ?_
        refine z_isub C d_Law_minute_462 ?_
        refine z_istore C d_Law_minute_463 (by decide) ?_
        refine z_lv (lv1 := [(8, .int (x8 - r110)), (0, .ref (zad G 4 80)), (2, .int x2), (3, .int x3), (5, .int x5), (6, .int x6), (7, .int x7), (9, .int x9), (10, .int x10), (11, .int x11), (15, .int x15), (17, .int x17)]) rfl ?_
        refine z_iload C d_Law_minute_465 7 rfl ?_
        refine z_aload_n C d_Law_minute_467 1 rfl rfl ?_
        refine gf_Law_10 C hm rfl rfl d_Law_minute_468 ?_
        refine z_iload C d_Law_minute_471 11 rfl ?_
        refine z_bipush C d_Law_minute_473 zkb_10 ?_
        obtain ⟨r112, h111, hf⟩ := bd_s hf
        refine z_cHi C kh_Law_house (c_Law_house hx h111) rfl rfl (Nat.le_of_ble_eq_true rfl) ⟨(Nat.le_of_ble_eq_true rfl), (Nat.le_of_ble_eq_true rfl)⟩ ⟨(Nat.le_of_ble_eq_true rfl), (Nat.le_of_ble_eq_true rfl)⟩ d_Law_minute_475 ?_
        obtain ⟨r114, h113, hf⟩ := bd_s hf
        refine z_cSi C kl_Law_167 (c_Integer_bitCount h113) rfl rfl (Nat.le_of_ble_eq_true rfl) ⟨(Nat.le_of_ble_eq_true rfl), (Nat.le_of_ble_eq_true rfl)⟩ ⟨(Nat.le_of_ble_eq_true rfl), (Nat.le_of_ble_eq_true rfl)⟩ d_Law_minute_478 ?_
        refine z_isub C d_Law_minute_481 ?_
        refine z_istore C d_Law_minute_482 (by decide) ?_
        refine z_lv (lv1 := [(9, .int (x9 - r114)), (8, .int (x8 - r110)), (0, .ref (zad G 4 80)), (2, .int x2), (3, .int x3), (5, .int x5), (6, .int x6), (7, .int x7), (10, .int x10), (11, .int x11), (15, .int x15), (17, .int x17)]) rfl ?_
        refine z_iload C d_Law_minute_484 8 rfl ?_
        refine z_aload_n C d_Law_minute_486 2 rfl rfl ?_
        refine gf_Law_10 C hm rfl rfl d_Law_minute_487 ?_
        refine z_iload C d_Law_minute_490 11 rfl ?_
        refine z_bipush C d_Law_minute_492 zkb_11 ?_
        obtain ⟨r116, h115, hf⟩ := bd_s hf
        refine z_cHi C kh_Law_house (c_Law_house hx h115) rfl rfl (Nat.le_of_ble_eq_true rfl) ⟨(Nat.le_of_ble_eq_true rfl), (Nat.le_of_ble_eq_true rfl)⟩ ⟨(Nat.le_of_ble_eq_true rfl), (Nat.le_of_ble_eq_true rfl)⟩ d_Law_minute_494 ?_
        obtain ⟨r118, h117, hf⟩ := bd_s hf
        refine z_cSi C kl_Law_167 (c_Integer_bitCount h117) rfl rfl (Nat.le_of_ble_eq_true rfl) ⟨(Nat.le_of_ble_eq_true rfl), (Nat.le_of_ble_eq_true rfl)⟩ ⟨(Nat.le_of_ble_eq_true rfl), (Nat.le_of_ble_eq_true rfl)⟩ d_Law_minute_497 ?_
        refine z_isub C d_Law_minute_500 ?_
        refine z_istore C d_Law_minute_501 (by decide) ?_
        refine z_lv (lv1 := [(10, .int (x10 - r118)), (9, .int (x9 - r114)), (8, .int (x8 - r110)), (0, .ref (zad G 4 80)), (2, .int x2), (3, .int x3), (5, .int x5), (6, .int x6), (7, .int x7), (11, .int x11), (15, .int x15), (17, .int x17)]) rfl ?_
        refine z_iinc C d_Law_minute_503 11 rfl zki_1 (by decide) ?_
        refine z_lv (lv1 := [(17, .int (x17 + (1 : Int32))), (10, .int (x10 - r118)), (9, .int (x9 - r114)), (8, .int (x8 - r110)), (0, .ref (zad G 4 80)), (2, .int x2), (3, .int x3), (5, .int x5), (6, .int x6), (7, .int x7), (11, .int x11), (15, .int x15)]) rfl ?_
        refine z_goto (tgt := 436) C d_Law_minute_506 rfl ?_
        have hw := ih.2.2.2.2.2.2.2 _ _ _ _ _ _ _ _ _ _ _ _ _ _ _ _ _ _ _ _ hf
        exact z_sub [4, 5, 6, 7, 8, 9, 3, 2, 1, 10, 11, 0] rfl hw
def F_Law_minute (G : zLA) (σ : zSt) : Option (Int32 × zSt) :=
  bd2 (F_Waves_wishes σ) fun r2 σ3 => bd2 (F_Waves_next σ3) fun r5 σ6 => (F_Law_count (8 : Int32) σ6).bind fun r8 => (F_Law_count (10 : Int32) σ6).bind fun r10 => bd2 (F_Law_ahead (1 : Int32) (3 : Int32) σ6) fun r12 σ13 => bd2 (F_Law_ahead (1 : Int32) (1 : Int32) σ13) fun r15 σ16 => bd2 (F_Law_ahead (1 : Int32) (2 : Int32) σ16) fun r18 σ19 => if r8 ≤ 0 then L_Law_minute G zK 0 r2 r5 r8 r10 r12 r15 r18 (0 : Int32) (0 : Int32) (0 : Int32) (0 : Int32) FP.dconst0 (0 : Int32) (0 : Int32) 0 0 0 0 0 σ19 else ((F_Law_count (5 : Int32) σ19).bind fun r21 => if ¬ r21 = (0 : Int32) then if (r8 - r8 / r21 * r21) = 0 then L_Law_minute G zK 0 r2 r5 r8 r10 r12 r15 r18 (0 : Int32) (0 : Int32) (0 : Int32) (0 : Int32) FP.dconst0 (1 : Int32) (0 : Int32) 0 0 0 0 0 σ19 else L_Law_minute G zK 0 r2 r5 r8 r10 r12 r15 r18 (0 : Int32) (0 : Int32) (0 : Int32) (0 : Int32) FP.dconst0 (0 : Int32) (0 : Int32) 0 0 0 0 0 σ19 else none)
set_option maxHeartbeats 4000000 in
set_option maxRecDepth 100000 in
theorem c_Law_minute {l : Launch} {G : zLA} (hx : zxl G) (hm : zml G) {σ : zSt} {r : Int32} {σ' : zSt} (hf : F_Law_minute G σ = some (r, σ')) : zM l G y_Law_minute (zws y_Law_minute b_Law_minute 19 (some .boolean)) rm_Law_minute [.ref (zad G 4 80)] σ (some (.int r)) σ' := by
  refine z_ofM (own := "VillageWavesLaw") (lv := [(0, .ref (zad G 4 80))]) (by decide +kernel) rfl rfl (Nat.le_of_ble_eq_true rfl) (fun p e s m args below meth c C => ?_)
  rw [F_Law_minute] at hf
  refine z_aload_n C d_Law_minute_0 0 rfl rfl ?_
  refine gf_Law_10 C hm rfl rfl d_Law_minute_1 ?_
  obtain ⟨r2, σ3, h1, hf⟩ := bd2_s hf
  refine z_cVi C kl_Law_156 rfl (c_Waves_wishes hx h1) (zx4 hx 70 rfl) rfl rfl rfl (Nat.le_of_ble_eq_true rfl) ⟨(Nat.le_of_ble_eq_true rfl), (Nat.le_of_ble_eq_true rfl)⟩ ⟨(Nat.le_of_ble_eq_true rfl), (Nat.le_of_ble_eq_true rfl)⟩ d_Law_minute_4 ?_
  refine z_istore_n C d_Law_minute_7 rfl (by decide) ?_
  refine z_lv (lv1 := [(1, .int r2), (0, .ref (zad G 4 80))]) rfl ?_
  refine z_aload_n C d_Law_minute_8 1 rfl rfl ?_
  refine gf_Law_10 C hm rfl rfl d_Law_minute_9 ?_
  obtain ⟨r5, σ6, h4, hf⟩ := bd2_s hf
  refine z_cVi C kl_Law_160 rfl (c_Waves_next hx h4) (zx4 hx 70 rfl) rfl rfl rfl (Nat.le_of_ble_eq_true rfl) ⟨(Nat.le_of_ble_eq_true rfl), (Nat.le_of_ble_eq_true rfl)⟩ ⟨(Nat.le_of_ble_eq_true rfl), (Nat.le_of_ble_eq_true rfl)⟩ d_Law_minute_12 ?_
  refine z_istore_n C d_Law_minute_15 rfl (by decide) ?_
  refine z_lv (lv1 := [(2, .int r5), (1, .int r2), (0, .ref (zad G 4 80))]) rfl ?_
  refine z_aload_n C d_Law_minute_16 2 rfl rfl ?_
  refine gf_Law_10 C hm rfl rfl d_Law_minute_17 ?_
  refine z_bipush C d_Law_minute_20 zkb_8 ?_
  obtain ⟨r8, h7, hf⟩ := bd_s hf
  refine z_cHi C kh_Law_count (c_Law_count hx h7) rfl rfl (Nat.le_of_ble_eq_true rfl) ⟨(Nat.le_of_ble_eq_true rfl), (Nat.le_of_ble_eq_true rfl)⟩ ⟨(Nat.le_of_ble_eq_true rfl), (Nat.le_of_ble_eq_true rfl)⟩ d_Law_minute_22 ?_
  refine z_istore_n C d_Law_minute_25 rfl (by decide) ?_
  refine z_lv (lv1 := [(3, .int r8), (2, .int r5), (1, .int r2), (0, .ref (zad G 4 80))]) rfl ?_
  refine z_aload_n C d_Law_minute_26 3 rfl rfl ?_
  refine gf_Law_10 C hm rfl rfl d_Law_minute_27 ?_
  refine z_bipush C d_Law_minute_30 zkb_10 ?_
  obtain ⟨r10, h9, hf⟩ := bd_s hf
  refine z_cHi C kh_Law_count (c_Law_count hx h9) rfl rfl (Nat.le_of_ble_eq_true rfl) ⟨(Nat.le_of_ble_eq_true rfl), (Nat.le_of_ble_eq_true rfl)⟩ ⟨(Nat.le_of_ble_eq_true rfl), (Nat.le_of_ble_eq_true rfl)⟩ d_Law_minute_32 ?_
  refine z_istore C d_Law_minute_35 (by decide) ?_
  refine z_lv (lv1 := [(4, .int r10), (3, .int r8), (2, .int r5), (1, .int r2), (0, .ref (zad G 4 80))]) rfl ?_
  refine z_aload_n C d_Law_minute_37 4 rfl rfl ?_
  refine gf_Law_10 C hm rfl rfl d_Law_minute_38 ?_
  refine z_iconst C d_Law_minute_41 zki_1 ?_
  refine z_iconst C d_Law_minute_42 zki_3 ?_
  obtain ⟨r12, σ13, h11, hf⟩ := bd2_s hf
  refine z_cHi C kh_Law_ahead (c_Law_ahead hx h11) rfl rfl (Nat.le_of_ble_eq_true rfl) ⟨(Nat.le_of_ble_eq_true rfl), (Nat.le_of_ble_eq_true rfl)⟩ ⟨(Nat.le_of_ble_eq_true rfl), (Nat.le_of_ble_eq_true rfl)⟩ d_Law_minute_43 ?_
  refine z_istore C d_Law_minute_46 (by decide) ?_
  refine z_lv (lv1 := [(5, .int r12), (4, .int r10), (3, .int r8), (2, .int r5), (1, .int r2), (0, .ref (zad G 4 80))]) rfl ?_
  refine z_aload_n C d_Law_minute_48 5 rfl rfl ?_
  refine gf_Law_10 C hm rfl rfl d_Law_minute_49 ?_
  refine z_iconst C d_Law_minute_52 zki_1 ?_
  refine z_iconst C d_Law_minute_53 zki_1 ?_
  obtain ⟨r15, σ16, h14, hf⟩ := bd2_s hf
  refine z_cHi C kh_Law_ahead (c_Law_ahead hx h14) rfl rfl (Nat.le_of_ble_eq_true rfl) ⟨(Nat.le_of_ble_eq_true rfl), (Nat.le_of_ble_eq_true rfl)⟩ ⟨(Nat.le_of_ble_eq_true rfl), (Nat.le_of_ble_eq_true rfl)⟩ d_Law_minute_54 ?_
  refine z_istore C d_Law_minute_57 (by decide) ?_
  refine z_lv (lv1 := [(6, .int r15), (5, .int r12), (4, .int r10), (3, .int r8), (2, .int r5), (1, .int r2), (0, .ref (zad G 4 80))]) rfl ?_
  refine z_aload_n C d_Law_minute_59 6 rfl rfl ?_
  refine gf_Law_10 C hm rfl rfl d_Law_minute_60 ?_
  refine z_iconst C d_Law_minute_63 zki_1 ?_
  refine z_iconst C d_Law_minute_64 zki_2 ?_
  obtain ⟨r18, σ19, h17, hf⟩ := bd2_s hf
  refine z_cHi C kh_Law_ahead (c_Law_ahead hx h17) rfl rfl (Nat.le_of_ble_eq_true rfl) ⟨(Nat.le_of_ble_eq_true rfl), (Nat.le_of_ble_eq_true rfl)⟩ ⟨(Nat.le_of_ble_eq_true rfl), (Nat.le_of_ble_eq_true rfl)⟩ d_Law_minute_65 ?_
  refine z_istore C d_Law_minute_68 (by decide) ?_
  refine z_lv (lv1 := [(7, .int r18), (6, .int r15), (5, .int r12), (4, .int r10), (3, .int r8), (2, .int r5), (1, .int r2), (0, .ref (zad G 4 80))]) rfl ?_
  refine z_iconst C d_Law_minute_70 zki_0 ?_
  refine z_istore C d_Law_minute_71 (by decide) ?_
  refine z_lv (lv1 := [(8, .int (0 : Int32)), (7, .int r18), (6, .int r15), (5, .int r12), (4, .int r10), (3, .int r8), (2, .int r5), (1, .int r2), (0, .ref (zad G 4 80))]) rfl ?_
  refine z_iconst C d_Law_minute_73 zki_0 ?_
  refine z_istore C d_Law_minute_74 (by decide) ?_
  refine z_lv (lv1 := [(9, .int (0 : Int32)), (8, .int (0 : Int32)), (7, .int r18), (6, .int r15), (5, .int r12), (4, .int r10), (3, .int r8), (2, .int r5), (1, .int r2), (0, .ref (zad G 4 80))]) rfl ?_
  refine z_iconst C d_Law_minute_76 zki_0 ?_
  refine z_istore C d_Law_minute_77 (by decide) ?_
  refine z_lv (lv1 := [(10, .int (0 : Int32)), (9, .int (0 : Int32)), (8, .int (0 : Int32)), (7, .int r18), (6, .int r15), (5, .int r12), (4, .int r10), (3, .int r8), (2, .int r5), (1, .int r2), (0, .ref (zad G 4 80))]) rfl ?_
  refine z_iconst C d_Law_minute_79 zki_0 ?_
  refine z_istore C d_Law_minute_80 (by decide) ?_
  refine z_lv (lv1 := [(11, .int (0 : Int32)), (10, .int (0 : Int32)), (9, .int (0 : Int32)), (8, .int (0 : Int32)), (7, .int r18), (6, .int r15), (5, .int r12), (4, .int r10), (3, .int r8), (2, .int r5), (1, .int r2), (0, .ref (zad G 4 80))]) rfl ?_
  refine z_dconst0 C d_Law_minute_82 ?_
  refine z_dstore C d_Law_minute_83 (by decide) ?_
  refine z_lv (lv1 := [(12, .double FP.dconst0), (11, .int (0 : Int32)), (10, .int (0 : Int32)), (9, .int (0 : Int32)), (8, .int (0 : Int32)), (7, .int r18), (6, .int r15), (5, .int r12), (4, .int r10), (3, .int r8), (2, .int r5), (1, .int r2), (0, .ref (zad G 4 80))]) rfl ?_
  refine z_iload_n C d_Law_minute_85 9 rfl rfl ?_
  refine z_if_le (tgt := 106) C d_Law_minute_86 rfl (fun h24 => ?_) (fun h24 => ?_)
  · have hf := iff_t hf h24
    refine z_iconst C d_Law_minute_106 zki_0 ?_
    refine z_istore C d_Law_minute_107 (by decide) ?_
    refine z_lv (lv1 := [(14, .int (0 : Int32)), (12, .double FP.dconst0), (11, .int (0 : Int32)), (10, .int (0 : Int32)), (9, .int (0 : Int32)), (8, .int (0 : Int32)), (7, .int r18), (6, .int r15), (5, .int r12), (4, .int r10), (3, .int r8), (2, .int r5), (1, .int r2), (0, .ref (zad G 4 80))]) rfl ?_
    refine z_iconst C d_Law_minute_109 zki_0 ?_
    refine z_istore C d_Law_minute_110 (by decide) ?_
    refine z_lv (lv1 := [(15, .int (0 : Int32)), (14, .int (0 : Int32)), (12, .double FP.dconst0), (11, .int (0 : Int32)), (10, .int (0 : Int32)), (9, .int (0 : Int32)), (8, .int (0 : Int32)), (7, .int r18), (6, .int r15), (5, .int r12), (4, .int r10), (3, .int r8), (2, .int r5), (1, .int r2), (0, .ref (zad G 4 80))]) rfl ?_
    have hw := (w_Law_minute (l := l) (e := e) (below := below) C hx hm zK).1 _ _ _ _ _ _ _ _ _ _ _ _ _ _ _ _ _ _ _ _ hf
    exact z_sub [14, 13, 12, 11, 10, 9, 8, 7, 6, 5, 4, 3, 2, 1, 0] rfl hw
  · have hf := iff_f hf h24
    refine z_iload_n C d_Law_minute_89 9 rfl rfl ?_
    refine z_aload_n C d_Law_minute_90 12 rfl rfl ?_
    refine gf_Law_10 C hm rfl rfl d_Law_minute_91 ?_
    refine z_iconst C d_Law_minute_94 zki_5 ?_
    obtain ⟨r21, h20, hf⟩ := bd_s hf
    refine z_cHi C kh_Law_count (c_Law_count hx h20) rfl rfl (Nat.le_of_ble_eq_true rfl) ⟨(Nat.le_of_ble_eq_true rfl), (Nat.le_of_ble_eq_true rfl)⟩ ⟨(Nat.le_of_ble_eq_true rfl), (Nat.le_of_ble_eq_true rfl)⟩ d_Law_minute_95 ?_
    obtain ⟨h23, hf⟩ := iff_g hf
    refine z_irem C d_Law_minute_98 h23 ?_
    refine z_if_ne (tgt := 106) C d_Law_minute_99 rfl (fun h22 => ?_) (fun h22 => ?_)
    · have hf := iff_f hf h22
      refine z_iconst C d_Law_minute_106 zki_0 ?_
      refine z_istore C d_Law_minute_107 (by decide) ?_
      refine z_lv (lv1 := [(14, .int (0 : Int32)), (12, .double FP.dconst0), (11, .int (0 : Int32)), (10, .int (0 : Int32)), (9, .int (0 : Int32)), (8, .int (0 : Int32)), (7, .int r18), (6, .int r15), (5, .int r12), (4, .int r10), (3, .int r8), (2, .int r5), (1, .int r2), (0, .ref (zad G 4 80))]) rfl ?_
      refine z_iconst C d_Law_minute_109 zki_0 ?_
      refine z_istore C d_Law_minute_110 (by decide) ?_
      refine z_lv (lv1 := [(15, .int (0 : Int32)), (14, .int (0 : Int32)), (12, .double FP.dconst0), (11, .int (0 : Int32)), (10, .int (0 : Int32)), (9, .int (0 : Int32)), (8, .int (0 : Int32)), (7, .int r18), (6, .int r15), (5, .int r12), (4, .int r10), (3, .int r8), (2, .int r5), (1, .int r2), (0, .ref (zad G 4 80))]) rfl ?_
      have hw := (w_Law_minute (l := l) (e := e) (below := below) C hx hm zK).1 _ _ _ _ _ _ _ _ _ _ _ _ _ _ _ _ _ _ _ _ hf
      exact z_sub [14, 13, 12, 11, 10, 9, 8, 7, 6, 5, 4, 3, 2, 1, 0] rfl hw
    · have hf := iff_t hf h22
      refine z_iconst C d_Law_minute_102 zki_1 ?_
      refine z_goto (tgt := 107) C d_Law_minute_103 rfl ?_
      refine z_istore C d_Law_minute_107 (by decide) ?_
      refine z_lv (lv1 := [(14, .int (1 : Int32)), (12, .double FP.dconst0), (11, .int (0 : Int32)), (10, .int (0 : Int32)), (9, .int (0 : Int32)), (8, .int (0 : Int32)), (7, .int r18), (6, .int r15), (5, .int r12), (4, .int r10), (3, .int r8), (2, .int r5), (1, .int r2), (0, .ref (zad G 4 80))]) rfl ?_
      refine z_iconst C d_Law_minute_109 zki_0 ?_
      refine z_istore C d_Law_minute_110 (by decide) ?_
      refine z_lv (lv1 := [(15, .int (0 : Int32)), (14, .int (1 : Int32)), (12, .double FP.dconst0), (11, .int (0 : Int32)), (10, .int (0 : Int32)), (9, .int (0 : Int32)), (8, .int (0 : Int32)), (7, .int r18), (6, .int r15), (5, .int r12), (4, .int r10), (3, .int r8), (2, .int r5), (1, .int r2), (0, .ref (zad G 4 80))]) rfl ?_
      have hw := (w_Law_minute (l := l) (e := e) (below := below) C hx hm zK).1 _ _ _ _ _ _ _ _ _ _ _ _ _ _ _ _ _ _ _ _ hf
      exact z_sub [14, 13, 12, 11, 10, 9, 8, 7, 6, 5, 4, 3, 2, 1, 0] rfl hw
