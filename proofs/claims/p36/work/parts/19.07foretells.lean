abbrev rm_Law_foretells : Room := { frames := 9, cells := 0, slots := 0, locals := 200 }
theorem d_Law_foretells_0 : decode b_Law_foretells 0 = .ok (.iconst 1, 1) := by decide +kernel
theorem d_Law_foretells_1 : decode b_Law_foretells 1 = .ok (.aload_n 0, 1) := by decide +kernel
theorem d_Law_foretells_2 : decode b_Law_foretells 2 = .ok (.bipush 90, 2) := by decide +kernel
theorem d_Law_foretells_4 : decode b_Law_foretells 4 = .ok (.invokevirtual 128, 3) := by decide +kernel
theorem d_Law_foretells_7 : decode b_Law_foretells 7 = .ok (.iadd, 1) := by decide +kernel
theorem d_Law_foretells_8 : decode b_Law_foretells 8 = .ok (.istore_n 1, 1) := by decide +kernel
theorem d_Law_foretells_9 : decode b_Law_foretells 9 = .ok (.aload_n 0, 1) := by decide +kernel
theorem d_Law_foretells_10 : decode b_Law_foretells 10 = .ok (.getfield 10, 3) := by decide +kernel
theorem d_Law_foretells_13 : decode b_Law_foretells 13 = .ok (.bipush 7, 2) := by decide +kernel
theorem d_Law_foretells_15 : decode b_Law_foretells 15 = .ok (.invokestatic 144, 3) := by decide +kernel
theorem d_Law_foretells_18 : decode b_Law_foretells 18 = .ok (.istore_n 2, 1) := by decide +kernel
theorem d_Law_foretells_19 : decode b_Law_foretells 19 = .ok (.iload_n 2, 1) := by decide +kernel
theorem d_Law_foretells_20 : decode b_Law_foretells 20 = .ok (.ifCond .ne 7, 3) := by decide +kernel
theorem d_Law_foretells_23 : decode b_Law_foretells 23 = .ok (.iconst (-1), 1) := by decide +kernel
theorem d_Law_foretells_24 : decode b_Law_foretells 24 = .ok (.goto 8, 3) := by decide +kernel
theorem d_Law_foretells_27 : decode b_Law_foretells 27 = .ok (.aload_n 0, 1) := by decide +kernel
theorem d_Law_foretells_28 : decode b_Law_foretells 28 = .ok (.iload_n 2, 1) := by decide +kernel
theorem d_Law_foretells_29 : decode b_Law_foretells 29 = .ok (.invokevirtual 128, 3) := by decide +kernel
theorem d_Law_foretells_32 : decode b_Law_foretells 32 = .ok (.istore_n 3, 1) := by decide +kernel
theorem d_Law_foretells_33 : decode b_Law_foretells 33 = .ok (.aload_n 0, 1) := by decide +kernel
theorem d_Law_foretells_34 : decode b_Law_foretells 34 = .ok (.getfield 10, 3) := by decide +kernel
theorem d_Law_foretells_37 : decode b_Law_foretells 37 = .ok (.iload_n 1, 1) := by decide +kernel
theorem d_Law_foretells_38 : decode b_Law_foretells 38 = .ok (.iconst 0, 1) := by decide +kernel
theorem d_Law_foretells_39 : decode b_Law_foretells 39 = .ok (.invokestatic 162, 3) := by decide +kernel
theorem d_Law_foretells_42 : decode b_Law_foretells 42 = .ok (.istore 4, 2) := by decide +kernel
theorem d_Law_foretells_44 : decode b_Law_foretells 44 = .ok (.aload_n 0, 1) := by decide +kernel
theorem d_Law_foretells_45 : decode b_Law_foretells 45 = .ok (.getfield 10, 3) := by decide +kernel
theorem d_Law_foretells_48 : decode b_Law_foretells 48 = .ok (.bipush 10, 2) := by decide +kernel
theorem d_Law_foretells_50 : decode b_Law_foretells 50 = .ok (.invokestatic 144, 3) := by decide +kernel
theorem d_Law_foretells_53 : decode b_Law_foretells 53 = .ok (.istore 5, 2) := by decide +kernel
theorem d_Law_foretells_55 : decode b_Law_foretells 55 = .ok (.aload_n 0, 1) := by decide +kernel
theorem d_Law_foretells_56 : decode b_Law_foretells 56 = .ok (.getfield 10, 3) := by decide +kernel
theorem d_Law_foretells_59 : decode b_Law_foretells 59 = .ok (.bipush 9, 2) := by decide +kernel
theorem d_Law_foretells_61 : decode b_Law_foretells 61 = .ok (.invokestatic 144, 3) := by decide +kernel
theorem d_Law_foretells_64 : decode b_Law_foretells 64 = .ok (.istore 6, 2) := by decide +kernel
theorem d_Law_foretells_66 : decode b_Law_foretells 66 = .ok (.iload_n 3, 1) := by decide +kernel
theorem d_Law_foretells_67 : decode b_Law_foretells 67 = .ok (.ifCond .ge 7, 3) := by decide +kernel
theorem d_Law_foretells_70 : decode b_Law_foretells 70 = .ok (.iconst 0, 1) := by decide +kernel
theorem d_Law_foretells_71 : decode b_Law_foretells 71 = .ok (.goto 13, 3) := by decide +kernel
theorem d_Law_foretells_74 : decode b_Law_foretells 74 = .ok (.aload_n 0, 1) := by decide +kernel
theorem d_Law_foretells_75 : decode b_Law_foretells 75 = .ok (.getfield 10, 3) := by decide +kernel
theorem d_Law_foretells_78 : decode b_Law_foretells 78 = .ok (.iload_n 3, 1) := by decide +kernel
theorem d_Law_foretells_79 : decode b_Law_foretells 79 = .ok (.iload_n 1, 1) := by decide +kernel
theorem d_Law_foretells_80 : decode b_Law_foretells 80 = .ok (.iconst 0, 1) := by decide +kernel
theorem d_Law_foretells_81 : decode b_Law_foretells 81 = .ok (.invokestatic 187, 3) := by decide +kernel
theorem d_Law_foretells_84 : decode b_Law_foretells 84 = .ok (.istore 7, 2) := by decide +kernel
theorem d_Law_foretells_86 : decode b_Law_foretells 86 = .ok (.iload_n 3, 1) := by decide +kernel
theorem d_Law_foretells_87 : decode b_Law_foretells 87 = .ok (.ifCond .ge 7, 3) := by decide +kernel
theorem d_Law_foretells_90 : decode b_Law_foretells 90 = .ok (.iconst 0, 1) := by decide +kernel
theorem d_Law_foretells_91 : decode b_Law_foretells 91 = .ok (.goto 13, 3) := by decide +kernel
theorem d_Law_foretells_94 : decode b_Law_foretells 94 = .ok (.aload_n 0, 1) := by decide +kernel
theorem d_Law_foretells_95 : decode b_Law_foretells 95 = .ok (.getfield 10, 3) := by decide +kernel
theorem d_Law_foretells_98 : decode b_Law_foretells 98 = .ok (.iload_n 3, 1) := by decide +kernel
theorem d_Law_foretells_99 : decode b_Law_foretells 99 = .ok (.iload_n 1, 1) := by decide +kernel
theorem d_Law_foretells_100 : decode b_Law_foretells 100 = .ok (.iconst 1, 1) := by decide +kernel
theorem d_Law_foretells_101 : decode b_Law_foretells 101 = .ok (.invokestatic 187, 3) := by decide +kernel
theorem d_Law_foretells_104 : decode b_Law_foretells 104 = .ok (.istore 8, 2) := by decide +kernel
theorem d_Law_foretells_106 : decode b_Law_foretells 106 = .ok (.iload_n 3, 1) := by decide +kernel
theorem d_Law_foretells_107 : decode b_Law_foretells 107 = .ok (.ifCond .ge 7, 3) := by decide +kernel
theorem d_Law_foretells_110 : decode b_Law_foretells 110 = .ok (.iconst (-1), 1) := by decide +kernel
theorem d_Law_foretells_111 : decode b_Law_foretells 111 = .ok (.goto 12, 3) := by decide +kernel
theorem d_Law_foretells_114 : decode b_Law_foretells 114 = .ok (.aload_n 0, 1) := by decide +kernel
theorem d_Law_foretells_115 : decode b_Law_foretells 115 = .ok (.getfield 10, 3) := by decide +kernel
theorem d_Law_foretells_118 : decode b_Law_foretells 118 = .ok (.iload_n 3, 1) := by decide +kernel
theorem d_Law_foretells_119 : decode b_Law_foretells 119 = .ok (.iload_n 1, 1) := by decide +kernel
theorem d_Law_foretells_120 : decode b_Law_foretells 120 = .ok (.invokestatic 189, 3) := by decide +kernel
theorem d_Law_foretells_123 : decode b_Law_foretells 123 = .ok (.istore 9, 2) := by decide +kernel
theorem d_Law_foretells_125 : decode b_Law_foretells 125 = .ok (.iload_n 3, 1) := by decide +kernel
theorem d_Law_foretells_126 : decode b_Law_foretells 126 = .ok (.ifCond .lt 15, 3) := by decide +kernel
theorem d_Law_foretells_129 : decode b_Law_foretells 129 = .ok (.aload_n 0, 1) := by decide +kernel
theorem d_Law_foretells_130 : decode b_Law_foretells 130 = .ok (.getfield 10, 3) := by decide +kernel
theorem d_Law_foretells_133 : decode b_Law_foretells 133 = .ok (.iload_n 3, 1) := by decide +kernel
theorem d_Law_foretells_134 : decode b_Law_foretells 134 = .ok (.iconst 4, 1) := by decide +kernel
theorem d_Law_foretells_135 : decode b_Law_foretells 135 = .ok (.invokestatic 146, 3) := by decide +kernel
theorem d_Law_foretells_138 : decode b_Law_foretells 138 = .ok (.ifCond .ge 8, 3) := by decide +kernel
theorem d_Law_foretells_141 : decode b_Law_foretells 141 = .ok (.bipush (-2), 2) := by decide +kernel
theorem d_Law_foretells_143 : decode b_Law_foretells 143 = .ok (.goto 21, 3) := by decide +kernel
theorem d_Law_foretells_146 : decode b_Law_foretells 146 = .ok (.aload_n 0, 1) := by decide +kernel
theorem d_Law_foretells_147 : decode b_Law_foretells 147 = .ok (.getfield 10, 3) := by decide +kernel
theorem d_Law_foretells_150 : decode b_Law_foretells 150 = .ok (.iload_n 3, 1) := by decide +kernel
theorem d_Law_foretells_151 : decode b_Law_foretells 151 = .ok (.bipush 8, 2) := by decide +kernel
theorem d_Law_foretells_153 : decode b_Law_foretells 153 = .ok (.invokestatic 146, 3) := by decide +kernel
theorem d_Law_foretells_156 : decode b_Law_foretells 156 = .ok (.ifCond .ne 7, 3) := by decide +kernel
theorem d_Law_foretells_159 : decode b_Law_foretells 159 = .ok (.iconst 0, 1) := by decide +kernel
theorem d_Law_foretells_160 : decode b_Law_foretells 160 = .ok (.goto 4, 3) := by decide +kernel
theorem d_Law_foretells_163 : decode b_Law_foretells 163 = .ok (.iconst (-1), 1) := by decide +kernel
theorem d_Law_foretells_164 : decode b_Law_foretells 164 = .ok (.istore 10, 2) := by decide +kernel
theorem d_Law_foretells_166 : decode b_Law_foretells 166 = .ok (.aload_n 0, 1) := by decide +kernel
theorem d_Law_foretells_167 : decode b_Law_foretells 167 = .ok (.getfield 10, 3) := by decide +kernel
theorem d_Law_foretells_170 : decode b_Law_foretells 170 = .ok (.iconst 1, 1) := by decide +kernel
theorem d_Law_foretells_171 : decode b_Law_foretells 171 = .ok (.invokestatic 191, 3) := by decide +kernel
theorem d_Law_foretells_174 : decode b_Law_foretells 174 = .ok (.ifCond .eq 5, 3) := by decide +kernel
theorem d_Law_foretells_177 : decode b_Law_foretells 177 = .ok (.iconst 0, 1) := by decide +kernel
theorem d_Law_foretells_178 : decode b_Law_foretells 178 = .ok (.ireturn, 1) := by decide +kernel
theorem d_Law_foretells_179 : decode b_Law_foretells 179 = .ok (.iconst 1, 1) := by decide +kernel
theorem d_Law_foretells_180 : decode b_Law_foretells 180 = .ok (.istore 11, 2) := by decide +kernel
theorem d_Law_foretells_182 : decode b_Law_foretells 182 = .ok (.iload 11, 2) := by decide +kernel
theorem d_Law_foretells_184 : decode b_Law_foretells 184 = .ok (.iload_n 1, 1) := by decide +kernel
theorem d_Law_foretells_185 : decode b_Law_foretells 185 = .ok (.if_icmp .gt 50, 3) := by decide +kernel
theorem d_Law_foretells_188 : decode b_Law_foretells 188 = .ok (.aload_n 0, 1) := by decide +kernel
theorem d_Law_foretells_189 : decode b_Law_foretells 189 = .ok (.getfield 10, 3) := by decide +kernel
theorem d_Law_foretells_192 : decode b_Law_foretells 192 = .ok (.iconst 1, 1) := by decide +kernel
theorem d_Law_foretells_193 : decode b_Law_foretells 193 = .ok (.invokestatic 179, 3) := by decide +kernel
theorem d_Law_foretells_196 : decode b_Law_foretells 196 = .ok (.ifCond .ge 5, 3) := by decide +kernel
theorem d_Law_foretells_199 : decode b_Law_foretells 199 = .ok (.iconst 0, 1) := by decide +kernel
theorem d_Law_foretells_200 : decode b_Law_foretells 200 = .ok (.ireturn, 1) := by decide +kernel
theorem d_Law_foretells_201 : decode b_Law_foretells 201 = .ok (.iload 10, 2) := by decide +kernel
theorem d_Law_foretells_203 : decode b_Law_foretells 203 = .ok (.iconst (-1), 1) := by decide +kernel
theorem d_Law_foretells_204 : decode b_Law_foretells 204 = .ok (.if_icmp .ne 21, 3) := by decide +kernel
theorem d_Law_foretells_207 : decode b_Law_foretells 207 = .ok (.aload_n 0, 1) := by decide +kernel
theorem d_Law_foretells_208 : decode b_Law_foretells 208 = .ok (.getfield 10, 3) := by decide +kernel
theorem d_Law_foretells_211 : decode b_Law_foretells 211 = .ok (.iload_n 3, 1) := by decide +kernel
theorem d_Law_foretells_212 : decode b_Law_foretells 212 = .ok (.bipush 8, 2) := by decide +kernel
theorem d_Law_foretells_214 : decode b_Law_foretells 214 = .ok (.invokestatic 146, 3) := by decide +kernel
theorem d_Law_foretells_217 : decode b_Law_foretells 217 = .ok (.ifCond .ne 8, 3) := by decide +kernel
theorem d_Law_foretells_220 : decode b_Law_foretells 220 = .ok (.iload 11, 2) := by decide +kernel
theorem d_Law_foretells_222 : decode b_Law_foretells 222 = .ok (.goto 5, 3) := by decide +kernel
theorem d_Law_foretells_225 : decode b_Law_foretells 225 = .ok (.iload 10, 2) := by decide +kernel
theorem d_Law_foretells_227 : decode b_Law_foretells 227 = .ok (.istore 10, 2) := by decide +kernel
theorem d_Law_foretells_229 : decode b_Law_foretells 229 = .ok (.iinc 11 1, 3) := by decide +kernel
theorem d_Law_foretells_232 : decode b_Law_foretells 232 = .ok (.goto (-50), 3) := by decide +kernel
theorem d_Law_foretells_235 : decode b_Law_foretells 235 = .ok (.aload_n 0, 1) := by decide +kernel
theorem d_Law_foretells_236 : decode b_Law_foretells 236 = .ok (.getfield 10, 3) := by decide +kernel
theorem d_Law_foretells_239 : decode b_Law_foretells 239 = .ok (.bipush 10, 2) := by decide +kernel
theorem d_Law_foretells_241 : decode b_Law_foretells 241 = .ok (.invokestatic 144, 3) := by decide +kernel
theorem d_Law_foretells_244 : decode b_Law_foretells 244 = .ok (.iload 5, 2) := by decide +kernel
theorem d_Law_foretells_246 : decode b_Law_foretells 246 = .ok (.iload 4, 2) := by decide +kernel
theorem d_Law_foretells_248 : decode b_Law_foretells 248 = .ok (.iadd, 1) := by decide +kernel
theorem d_Law_foretells_249 : decode b_Law_foretells 249 = .ok (.if_icmp .ne 58, 3) := by decide +kernel
theorem d_Law_foretells_252 : decode b_Law_foretells 252 = .ok (.iload_n 3, 1) := by decide +kernel
theorem d_Law_foretells_253 : decode b_Law_foretells 253 = .ok (.ifCond .lt 39, 3) := by decide +kernel
theorem d_Law_foretells_256 : decode b_Law_foretells 256 = .ok (.aload_n 0, 1) := by decide +kernel
theorem d_Law_foretells_257 : decode b_Law_foretells 257 = .ok (.getfield 10, 3) := by decide +kernel
theorem d_Law_foretells_260 : decode b_Law_foretells 260 = .ok (.iload_n 3, 1) := by decide +kernel
theorem d_Law_foretells_261 : decode b_Law_foretells 261 = .ok (.bipush 6, 2) := by decide +kernel
theorem d_Law_foretells_263 : decode b_Law_foretells 263 = .ok (.invokestatic 146, 3) := by decide +kernel
theorem d_Law_foretells_266 : decode b_Law_foretells 266 = .ok (.invokestatic 167, 3) := by decide +kernel
theorem d_Law_foretells_269 : decode b_Law_foretells 269 = .ok (.iload 7, 2) := by decide +kernel
theorem d_Law_foretells_271 : decode b_Law_foretells 271 = .ok (.if_icmp .ne 36, 3) := by decide +kernel
theorem d_Law_foretells_274 : decode b_Law_foretells 274 = .ok (.aload_n 0, 1) := by decide +kernel
theorem d_Law_foretells_275 : decode b_Law_foretells 275 = .ok (.getfield 10, 3) := by decide +kernel
theorem d_Law_foretells_278 : decode b_Law_foretells 278 = .ok (.iload_n 3, 1) := by decide +kernel
theorem d_Law_foretells_279 : decode b_Law_foretells 279 = .ok (.bipush 7, 2) := by decide +kernel
theorem d_Law_foretells_281 : decode b_Law_foretells 281 = .ok (.invokestatic 146, 3) := by decide +kernel
theorem d_Law_foretells_284 : decode b_Law_foretells 284 = .ok (.invokestatic 167, 3) := by decide +kernel
theorem d_Law_foretells_287 : decode b_Law_foretells 287 = .ok (.iload 8, 2) := by decide +kernel
theorem d_Law_foretells_289 : decode b_Law_foretells 289 = .ok (.if_icmp .ne 18, 3) := by decide +kernel
theorem d_Law_foretells_292 : decode b_Law_foretells 292 = .ok (.iload 9, 2) := by decide +kernel
theorem d_Law_foretells_294 : decode b_Law_foretells 294 = .ok (.iconst (-1), 1) := by decide +kernel
theorem d_Law_foretells_295 : decode b_Law_foretells 295 = .ok (.iload 10, 2) := by decide +kernel
theorem d_Law_foretells_297 : decode b_Law_foretells 297 = .ok (.invokestatic 26, 3) := by decide +kernel
theorem d_Law_foretells_300 : decode b_Law_foretells 300 = .ok (.if_icmp .ne 7, 3) := by decide +kernel
theorem d_Law_foretells_303 : decode b_Law_foretells 303 = .ok (.iconst 1, 1) := by decide +kernel
theorem d_Law_foretells_304 : decode b_Law_foretells 304 = .ok (.goto 4, 3) := by decide +kernel
theorem d_Law_foretells_307 : decode b_Law_foretells 307 = .ok (.iconst 0, 1) := by decide +kernel
theorem d_Law_foretells_308 : decode b_Law_foretells 308 = .ok (.istore 11, 2) := by decide +kernel
theorem d_Law_foretells_310 : decode b_Law_foretells 310 = .ok (.iload 11, 2) := by decide +kernel
theorem d_Law_foretells_312 : decode b_Law_foretells 312 = .ok (.ifCond .eq 46, 3) := by decide +kernel
theorem d_Law_foretells_315 : decode b_Law_foretells 315 = .ok (.aload_n 0, 1) := by decide +kernel
theorem d_Law_foretells_316 : decode b_Law_foretells 316 = .ok (.getfield 10, 3) := by decide +kernel
theorem d_Law_foretells_319 : decode b_Law_foretells 319 = .ok (.iconst 1, 1) := by decide +kernel
theorem d_Law_foretells_320 : decode b_Law_foretells 320 = .ok (.invokestatic 193, 3) := by decide +kernel
theorem d_Law_foretells_323 : decode b_Law_foretells 323 = .ok (.ifCond .ne 35, 3) := by decide +kernel
theorem d_Law_foretells_326 : decode b_Law_foretells 326 = .ok (.aload_n 0, 1) := by decide +kernel
theorem d_Law_foretells_327 : decode b_Law_foretells 327 = .ok (.getfield 10, 3) := by decide +kernel
theorem d_Law_foretells_330 : decode b_Law_foretells 330 = .ok (.bipush 9, 2) := by decide +kernel
theorem d_Law_foretells_332 : decode b_Law_foretells 332 = .ok (.invokestatic 144, 3) := by decide +kernel
theorem d_Law_foretells_335 : decode b_Law_foretells 335 = .ok (.iload 6, 2) := by decide +kernel
theorem d_Law_foretells_337 : decode b_Law_foretells 337 = .ok (.if_icmp .ne 21, 3) := by decide +kernel
theorem d_Law_foretells_340 : decode b_Law_foretells 340 = .ok (.aload_n 0, 1) := by decide +kernel
theorem d_Law_foretells_341 : decode b_Law_foretells 341 = .ok (.getfield 10, 3) := by decide +kernel
theorem d_Law_foretells_344 : decode b_Law_foretells 344 = .ok (.bipush 10, 2) := by decide +kernel
theorem d_Law_foretells_346 : decode b_Law_foretells 346 = .ok (.invokestatic 144, 3) := by decide +kernel
theorem d_Law_foretells_349 : decode b_Law_foretells 349 = .ok (.iload 5, 2) := by decide +kernel
theorem d_Law_foretells_351 : decode b_Law_foretells 351 = .ok (.if_icmp .ne 7, 3) := by decide +kernel
theorem d_Law_foretells_354 : decode b_Law_foretells 354 = .ok (.iconst 1, 1) := by decide +kernel
theorem d_Law_foretells_355 : decode b_Law_foretells 355 = .ok (.goto 4, 3) := by decide +kernel
theorem d_Law_foretells_358 : decode b_Law_foretells 358 = .ok (.iconst 0, 1) := by decide +kernel
theorem d_Law_foretells_359 : decode b_Law_foretells 359 = .ok (.ireturn, 1) := by decide +kernel
def L_Law_foretells (G : zLA) : Nat → Nat → Int32 → Int32 → Int32 → Int32 → Int32 → Int32 → Int32 → Int32 → Int32 → Int32 → Int32 → zSt → Option (Int32 × zSt)
  | 0, _, _, _, _, _, _, _, _, _, _, _, _, _ => none
  | n + 1, 0, x1, y0, x3, x4, x5, x6, x7, x8, x9, x10, x11, σ => bd2 (F_Law_ahead x1 (0 : Int32) σ) fun r11 σ12 => (F_Law_count (10 : Int32) σ12).bind fun r14 => (F_Law_count (9 : Int32) σ12).bind fun r16 => if 0 ≤ y0 then (bd2 (F_Law_reached y0 x1 (0 : Int32) σ12) fun r18 σ19 => L_Law_foretells G n 1 x1 r18 y0 r11 r14 r16 0 0 0 0 0 σ19) else L_Law_foretells G n 1 x1 (0 : Int32) y0 r11 r14 r16 0 0 0 0 0 σ12
  | n + 1, 1, x1, y0, x3, x4, x5, x6, x7, x8, x9, x10, x11, σ => if 0 ≤ x3 then (bd2 (F_Law_reached x3 x1 (1 : Int32) σ) fun r22 σ23 => if 0 ≤ x3 then (bd2 (F_Law_correctedIn x3 x1 σ23) fun r25 σ26 => L_Law_foretells G n 2 x1 r25 x3 x4 x5 x6 y0 r22 0 0 0 σ26) else L_Law_foretells G n 2 x1 (-1 : Int32) x3 x4 x5 x6 y0 r22 0 0 0 σ23) else (if 0 ≤ x3 then (bd2 (F_Law_correctedIn x3 x1 σ) fun r29 σ30 => L_Law_foretells G n 2 x1 r29 x3 x4 x5 x6 y0 (0 : Int32) 0 0 0 σ30) else L_Law_foretells G n 2 x1 (-1 : Int32) x3 x4 x5 x6 y0 (0 : Int32) 0 0 0 σ)
  | n + 1, 2, x1, y0, x3, x4, x5, x6, x7, x8, x9, x10, x11, σ => if x3 < 0 then (bd2 (F_Law_save (1 : Int32) σ) fun r34 σ35 => if r34 = 0 then L_Law_foretells G n 3 x1 0 x3 x4 x5 x6 x7 x8 y0 (-2 : Int32) (1 : Int32) σ35 else some ((0 : Int32), σ35)) else ((F_Law_news x3 (4 : Int32) σ).bind fun r38 => if 0 ≤ r38 then ((F_Law_news x3 (8 : Int32) σ).bind fun r40 => if r40 = 0 then (bd2 (F_Law_save (1 : Int32) σ) fun r46 σ47 => if r46 = 0 then L_Law_foretells G n 3 x1 0 x3 x4 x5 x6 x7 x8 y0 (0 : Int32) (1 : Int32) σ47 else some ((0 : Int32), σ47)) else (bd2 (F_Law_save (1 : Int32) σ) fun r42 σ43 => if r42 = 0 then L_Law_foretells G n 3 x1 0 x3 x4 x5 x6 x7 x8 y0 (-1 : Int32) (1 : Int32) σ43 else some ((0 : Int32), σ43))) else (bd2 (F_Law_save (1 : Int32) σ) fun r51 σ52 => if r51 = 0 then L_Law_foretells G n 3 x1 0 x3 x4 x5 x6 x7 x8 y0 (-2 : Int32) (1 : Int32) σ52 else some ((0 : Int32), σ52)))
  | n + 1, 3, x1, y0, x3, x4, x5, x6, x7, x8, x9, x10, x11, σ => if x1 < x11 then ((F_Law_count (10 : Int32) σ).bind fun r57 => if r57 = (x5 + x4) then (if x3 < 0 then (if x9 = (if (-1 : Int32) < x10 then x10 else (-1 : Int32)) then L_Law_foretells G n 4 0 (1 : Int32) 0 0 x5 x6 0 0 0 0 0 σ else L_Law_foretells G n 4 0 (0 : Int32) 0 0 x5 x6 0 0 0 0 0 σ) else ((F_Law_news x3 (6 : Int32) σ).bind fun r60 => (F_Integer_bitCount r60).bind fun r62 => if r62 = x7 then ((F_Law_news x3 (7 : Int32) σ).bind fun r64 => (F_Integer_bitCount r64).bind fun r66 => if r66 = x8 then (if x9 = (if (-1 : Int32) < x10 then x10 else (-1 : Int32)) then L_Law_foretells G n 4 0 (1 : Int32) 0 0 x5 x6 0 0 0 0 0 σ else L_Law_foretells G n 4 0 (0 : Int32) 0 0 x5 x6 0 0 0 0 0 σ) else L_Law_foretells G n 4 0 (0 : Int32) 0 0 x5 x6 0 0 0 0 0 σ) else L_Law_foretells G n 4 0 (0 : Int32) 0 0 x5 x6 0 0 0 0 0 σ)) else L_Law_foretells G n 4 0 (0 : Int32) 0 0 x5 x6 0 0 0 0 0 σ) else (bd2 (F_Law_run (1 : Int32) σ) fun r73 σ74 => if 0 ≤ r73 then (if x10 = (-1 : Int32) then ((F_Law_news x3 (8 : Int32) σ74).bind fun r76 => if r76 = 0 then L_Law_foretells G n 3 x1 0 x3 x4 x5 x6 x7 x8 x9 x11 (x11 + (1 : Int32)) σ74 else L_Law_foretells G n 3 x1 0 x3 x4 x5 x6 x7 x8 x9 x10 (x11 + (1 : Int32)) σ74) else L_Law_foretells G n 3 x1 0 x3 x4 x5 x6 x7 x8 x9 x10 (x11 + (1 : Int32)) σ74) else some ((0 : Int32), σ74))
  | n + 1, 4, x1, y0, x3, x4, x5, x6, x7, x8, x9, x10, x11, σ => if y0 = 0 then some ((0 : Int32), σ) else (bd2 (F_Law_restore (1 : Int32) σ) fun r82 σ83 => if r82 = 0 then ((F_Law_count (9 : Int32) σ83).bind fun r85 => if r85 = x6 then ((F_Law_count (10 : Int32) σ83).bind fun r87 => if r87 = x5 then some ((1 : Int32), σ83) else some ((0 : Int32), σ83)) else some ((0 : Int32), σ83)) else some ((0 : Int32), σ83))
  | _ + 1, _, _, _, _, _, _, _, _, _, _, _, _, _ => none
theorem e_Law_foretells_0 (G : zLA) (n : Nat) (x1 : Int32) (y0 : Int32) (x3 : Int32) (x4 : Int32) (x5 : Int32) (x6 : Int32) (x7 : Int32) (x8 : Int32) (x9 : Int32) (x10 : Int32) (x11 : Int32) (σ : zSt) : L_Law_foretells G (n + 1) 0 x1 y0 x3 x4 x5 x6 x7 x8 x9 x10 x11 σ = (bd2 (F_Law_ahead x1 (0 : Int32) σ) fun r11 σ12 => (F_Law_count (10 : Int32) σ12).bind fun r14 => (F_Law_count (9 : Int32) σ12).bind fun r16 => if 0 ≤ y0 then (bd2 (F_Law_reached y0 x1 (0 : Int32) σ12) fun r18 σ19 => L_Law_foretells G n 1 x1 r18 y0 r11 r14 r16 0 0 0 0 0 σ19) else L_Law_foretells G n 1 x1 (0 : Int32) y0 r11 r14 r16 0 0 0 0 0 σ12) := rfl
theorem e_Law_foretells_1 (G : zLA) (n : Nat) (x1 : Int32) (y0 : Int32) (x3 : Int32) (x4 : Int32) (x5 : Int32) (x6 : Int32) (x7 : Int32) (x8 : Int32) (x9 : Int32) (x10 : Int32) (x11 : Int32) (σ : zSt) : L_Law_foretells G (n + 1) 1 x1 y0 x3 x4 x5 x6 x7 x8 x9 x10 x11 σ = (if 0 ≤ x3 then (bd2 (F_Law_reached x3 x1 (1 : Int32) σ) fun r22 σ23 => if 0 ≤ x3 then (bd2 (F_Law_correctedIn x3 x1 σ23) fun r25 σ26 => L_Law_foretells G n 2 x1 r25 x3 x4 x5 x6 y0 r22 0 0 0 σ26) else L_Law_foretells G n 2 x1 (-1 : Int32) x3 x4 x5 x6 y0 r22 0 0 0 σ23) else (if 0 ≤ x3 then (bd2 (F_Law_correctedIn x3 x1 σ) fun r29 σ30 => L_Law_foretells G n 2 x1 r29 x3 x4 x5 x6 y0 (0 : Int32) 0 0 0 σ30) else L_Law_foretells G n 2 x1 (-1 : Int32) x3 x4 x5 x6 y0 (0 : Int32) 0 0 0 σ)) := rfl
theorem e_Law_foretells_2 (G : zLA) (n : Nat) (x1 : Int32) (y0 : Int32) (x3 : Int32) (x4 : Int32) (x5 : Int32) (x6 : Int32) (x7 : Int32) (x8 : Int32) (x9 : Int32) (x10 : Int32) (x11 : Int32) (σ : zSt) : L_Law_foretells G (n + 1) 2 x1 y0 x3 x4 x5 x6 x7 x8 x9 x10 x11 σ = (if x3 < 0 then (bd2 (F_Law_save (1 : Int32) σ) fun r34 σ35 => if r34 = 0 then L_Law_foretells G n 3 x1 0 x3 x4 x5 x6 x7 x8 y0 (-2 : Int32) (1 : Int32) σ35 else some ((0 : Int32), σ35)) else ((F_Law_news x3 (4 : Int32) σ).bind fun r38 => if 0 ≤ r38 then ((F_Law_news x3 (8 : Int32) σ).bind fun r40 => if r40 = 0 then (bd2 (F_Law_save (1 : Int32) σ) fun r46 σ47 => if r46 = 0 then L_Law_foretells G n 3 x1 0 x3 x4 x5 x6 x7 x8 y0 (0 : Int32) (1 : Int32) σ47 else some ((0 : Int32), σ47)) else (bd2 (F_Law_save (1 : Int32) σ) fun r42 σ43 => if r42 = 0 then L_Law_foretells G n 3 x1 0 x3 x4 x5 x6 x7 x8 y0 (-1 : Int32) (1 : Int32) σ43 else some ((0 : Int32), σ43))) else (bd2 (F_Law_save (1 : Int32) σ) fun r51 σ52 => if r51 = 0 then L_Law_foretells G n 3 x1 0 x3 x4 x5 x6 x7 x8 y0 (-2 : Int32) (1 : Int32) σ52 else some ((0 : Int32), σ52)))) := rfl
theorem e_Law_foretells_3 (G : zLA) (n : Nat) (x1 : Int32) (y0 : Int32) (x3 : Int32) (x4 : Int32) (x5 : Int32) (x6 : Int32) (x7 : Int32) (x8 : Int32) (x9 : Int32) (x10 : Int32) (x11 : Int32) (σ : zSt) : L_Law_foretells G (n + 1) 3 x1 y0 x3 x4 x5 x6 x7 x8 x9 x10 x11 σ = (if x1 < x11 then ((F_Law_count (10 : Int32) σ).bind fun r57 => if r57 = (x5 + x4) then (if x3 < 0 then (if x9 = (if (-1 : Int32) < x10 then x10 else (-1 : Int32)) then L_Law_foretells G n 4 0 (1 : Int32) 0 0 x5 x6 0 0 0 0 0 σ else L_Law_foretells G n 4 0 (0 : Int32) 0 0 x5 x6 0 0 0 0 0 σ) else ((F_Law_news x3 (6 : Int32) σ).bind fun r60 => (F_Integer_bitCount r60).bind fun r62 => if r62 = x7 then ((F_Law_news x3 (7 : Int32) σ).bind fun r64 => (F_Integer_bitCount r64).bind fun r66 => if r66 = x8 then (if x9 = (if (-1 : Int32) < x10 then x10 else (-1 : Int32)) then L_Law_foretells G n 4 0 (1 : Int32) 0 0 x5 x6 0 0 0 0 0 σ else L_Law_foretells G n 4 0 (0 : Int32) 0 0 x5 x6 0 0 0 0 0 σ) else L_Law_foretells G n 4 0 (0 : Int32) 0 0 x5 x6 0 0 0 0 0 σ) else L_Law_foretells G n 4 0 (0 : Int32) 0 0 x5 x6 0 0 0 0 0 σ)) else L_Law_foretells G n 4 0 (0 : Int32) 0 0 x5 x6 0 0 0 0 0 σ) else (bd2 (F_Law_run (1 : Int32) σ) fun r73 σ74 => if 0 ≤ r73 then (if x10 = (-1 : Int32) then ((F_Law_news x3 (8 : Int32) σ74).bind fun r76 => if r76 = 0 then L_Law_foretells G n 3 x1 0 x3 x4 x5 x6 x7 x8 x9 x11 (x11 + (1 : Int32)) σ74 else L_Law_foretells G n 3 x1 0 x3 x4 x5 x6 x7 x8 x9 x10 (x11 + (1 : Int32)) σ74) else L_Law_foretells G n 3 x1 0 x3 x4 x5 x6 x7 x8 x9 x10 (x11 + (1 : Int32)) σ74) else some ((0 : Int32), σ74))) := rfl
theorem e_Law_foretells_4 (G : zLA) (n : Nat) (x1 : Int32) (y0 : Int32) (x3 : Int32) (x4 : Int32) (x5 : Int32) (x6 : Int32) (x7 : Int32) (x8 : Int32) (x9 : Int32) (x10 : Int32) (x11 : Int32) (σ : zSt) : L_Law_foretells G (n + 1) 4 x1 y0 x3 x4 x5 x6 x7 x8 x9 x10 x11 σ = (if y0 = 0 then some ((0 : Int32), σ) else (bd2 (F_Law_restore (1 : Int32) σ) fun r82 σ83 => if r82 = 0 then ((F_Law_count (9 : Int32) σ83).bind fun r85 => if r85 = x6 then ((F_Law_count (10 : Int32) σ83).bind fun r87 => if r87 = x5 then some ((1 : Int32), σ83) else some ((0 : Int32), σ83)) else some ((0 : Int32), σ83)) else some ((0 : Int32), σ83))) := rfl
set_option maxHeartbeats 4000000 in
set_option maxRecDepth 100000 in
theorem w_Law_foretells {l : Launch} {G : zLA} {p : Program} {e : Env} {s : State} {m : MethodId} {args : Array Value} {below : List Frame} {meth : Method} {c : Code} (C : zCx G p s m args meth c "VillageWavesLaw" b_Law_foretells 12 (some .boolean)) (hx : zxl G) (hm : zml G) {r : Int32} {σ' : zSt} : ∀ n : Nat, (∀ (x1 : Int32) (y0 : Int32) (x3 : Int32) (x4 : Int32) (x5 : Int32) (x6 : Int32) (x7 : Int32) (x8 : Int32) (x9 : Int32) (x10 : Int32) (x11 : Int32) (σ : zSt), L_Law_foretells G n 0 x1 y0 x3 x4 x5 x6 x7 x8 x9 x10 x11 σ = some (r, σ') → zWV G p l e rm_Law_foretells s m args below meth c 12 0 0 (zQ G below args s rm_Law_foretells (some (.int r)) σ') 32 [(0, .ref (zad G 4 80)), (1, .int x1)] [.int y0] σ) ∧ (∀ (x1 : Int32) (y0 : Int32) (x3 : Int32) (x4 : Int32) (x5 : Int32) (x6 : Int32) (x7 : Int32) (x8 : Int32) (x9 : Int32) (x10 : Int32) (x11 : Int32) (σ : zSt), L_Law_foretells G n 1 x1 y0 x3 x4 x5 x6 x7 x8 x9 x10 x11 σ = some (r, σ') → zWV G p l e rm_Law_foretells s m args below meth c 12 0 0 (zQ G below args s rm_Law_foretells (some (.int r)) σ') 84 [(0, .ref (zad G 4 80)), (1, .int x1), (3, .int x3), (4, .int x4), (5, .int x5), (6, .int x6)] [.int y0] σ) ∧ (∀ (x1 : Int32) (y0 : Int32) (x3 : Int32) (x4 : Int32) (x5 : Int32) (x6 : Int32) (x7 : Int32) (x8 : Int32) (x9 : Int32) (x10 : Int32) (x11 : Int32) (σ : zSt), L_Law_foretells G n 2 x1 y0 x3 x4 x5 x6 x7 x8 x9 x10 x11 σ = some (r, σ') → zWV G p l e rm_Law_foretells s m args below meth c 12 0 0 (zQ G below args s rm_Law_foretells (some (.int r)) σ') 123 [(0, .ref (zad G 4 80)), (1, .int x1), (3, .int x3), (4, .int x4), (5, .int x5), (6, .int x6), (7, .int x7), (8, .int x8)] [.int y0] σ) ∧ (∀ (x1 : Int32) (y0 : Int32) (x3 : Int32) (x4 : Int32) (x5 : Int32) (x6 : Int32) (x7 : Int32) (x8 : Int32) (x9 : Int32) (x10 : Int32) (x11 : Int32) (σ : zSt), L_Law_foretells G n 3 x1 y0 x3 x4 x5 x6 x7 x8 x9 x10 x11 σ = some (r, σ') → zWV G p l e rm_Law_foretells s m args below meth c 12 0 0 (zQ G below args s rm_Law_foretells (some (.int r)) σ') 182 [(0, .ref (zad G 4 80)), (1, .int x1), (3, .int x3), (4, .int x4), (5, .int x5), (6, .int x6), (7, .int x7), (8, .int x8), (9, .int x9), (10, .int x10), (11, .int x11)] [] σ) ∧ (∀ (x1 : Int32) (y0 : Int32) (x3 : Int32) (x4 : Int32) (x5 : Int32) (x6 : Int32) (x7 : Int32) (x8 : Int32) (x9 : Int32) (x10 : Int32) (x11 : Int32) (σ : zSt), L_Law_foretells G n 4 x1 y0 x3 x4 x5 x6 x7 x8 x9 x10 x11 σ = some (r, σ') → zWV G p l e rm_Law_foretells s m args below meth c 12 0 0 (zQ G below args s rm_Law_foretells (some (.int r)) σ') 308 [(0, .ref (zad G 4 80)), (5, .int x5), (6, .int x6)] [.int y0] σ) := by
  intro n
  induction n with
  | zero => exact ⟨fun _ _ _ _ _ _ _ _ _ _ _ _ hf => (by cases hf), fun _ _ _ _ _ _ _ _ _ _ _ _ hf => (by cases hf), fun _ _ _ _ _ _ _ _ _ _ _ _ hf => (by cases hf), fun _ _ _ _ _ _ _ _ _ _ _ _ hf => (by cases hf), fun _ _ _ _ _ _ _ _ _ _ _ _ hf => (by cases hf)⟩
  | succ n ih =>
    refine ⟨?_, ?_, ?_, ?_, ?_⟩
    · intro x1 y0 x3 x4 x5 x6 x7 x8 x9 x10 x11 σ hf
      rw [e_Law_foretells_0] at hf
      refine z_istore_n C d_Law_foretells_32 rfl (by decide) ?_
      refine z_lv (lv1 := [(3, .int y0), (0, .ref (zad G 4 80)), (1, .int x1)]) rfl ?_
      refine z_aload_n C d_Law_foretells_33 1 rfl rfl ?_
      refine gf_Law_10 C hm rfl rfl d_Law_foretells_34 ?_
      refine z_iload_n C d_Law_foretells_37 2 rfl rfl ?_
      refine z_iconst C d_Law_foretells_38 zki_0 ?_
      obtain ⟨r11, σ12, h10, hf⟩ := bd2_s hf
      refine z_cHi C kh_Law_ahead (c_Law_ahead hx h10) rfl rfl (Nat.le_of_ble_eq_true rfl) ⟨(Nat.le_of_ble_eq_true rfl), (Nat.le_of_ble_eq_true rfl)⟩ ⟨(Nat.le_of_ble_eq_true rfl), (Nat.le_of_ble_eq_true rfl)⟩ d_Law_foretells_39 ?_
      refine z_istore C d_Law_foretells_42 (by decide) ?_
      refine z_lv (lv1 := [(4, .int r11), (3, .int y0), (0, .ref (zad G 4 80)), (1, .int x1)]) rfl ?_
      refine z_aload_n C d_Law_foretells_44 2 rfl rfl ?_
      refine gf_Law_10 C hm rfl rfl d_Law_foretells_45 ?_
      refine z_bipush C d_Law_foretells_48 zkb_10 ?_
      obtain ⟨r14, h13, hf⟩ := bd_s hf
      refine z_cHi C kh_Law_count (c_Law_count hx h13) rfl rfl (Nat.le_of_ble_eq_true rfl) ⟨(Nat.le_of_ble_eq_true rfl), (Nat.le_of_ble_eq_true rfl)⟩ ⟨(Nat.le_of_ble_eq_true rfl), (Nat.le_of_ble_eq_true rfl)⟩ d_Law_foretells_50 ?_
      refine z_istore C d_Law_foretells_53 (by decide) ?_
      refine z_lv (lv1 := [(5, .int r14), (4, .int r11), (3, .int y0), (0, .ref (zad G 4 80)), (1, .int x1)]) rfl ?_
      refine z_aload_n C d_Law_foretells_55 3 rfl rfl ?_
      refine gf_Law_10 C hm rfl rfl d_Law_foretells_56 ?_
      refine z_bipush C d_Law_foretells_59 zkb_9 ?_
      obtain ⟨r16, h15, hf⟩ := bd_s hf
      refine z_cHi C kh_Law_count (c_Law_count hx h15) rfl rfl (Nat.le_of_ble_eq_true rfl) ⟨(Nat.le_of_ble_eq_true rfl), (Nat.le_of_ble_eq_true rfl)⟩ ⟨(Nat.le_of_ble_eq_true rfl), (Nat.le_of_ble_eq_true rfl)⟩ d_Law_foretells_61 ?_
      refine z_istore C d_Law_foretells_64 (by decide) ?_
      refine z_lv (lv1 := [(6, .int r16), (5, .int r14), (4, .int r11), (3, .int y0), (0, .ref (zad G 4 80)), (1, .int x1)]) rfl ?_
      refine z_iload_n C d_Law_foretells_66 3 rfl rfl ?_
      refine z_if_ge (tgt := 74) C d_Law_foretells_67 rfl (fun h20 => ?_) (fun h20 => ?_)
      · have hf := iff_t hf h20
        refine z_aload_n C d_Law_foretells_74 4 rfl rfl ?_
        refine gf_Law_10 C hm rfl rfl d_Law_foretells_75 ?_
        refine z_iload_n C d_Law_foretells_78 3 rfl rfl ?_
        refine z_iload_n C d_Law_foretells_79 5 rfl rfl ?_
        refine z_iconst C d_Law_foretells_80 zki_0 ?_
        obtain ⟨r18, σ19, h17, hf⟩ := bd2_s hf
        refine z_cHi C kh_Law_reached (c_Law_reached hx h17) rfl rfl (Nat.le_of_ble_eq_true rfl) ⟨(Nat.le_of_ble_eq_true rfl), (Nat.le_of_ble_eq_true rfl)⟩ ⟨(Nat.le_of_ble_eq_true rfl), (Nat.le_of_ble_eq_true rfl)⟩ d_Law_foretells_81 ?_
        have hw := ih.2.1 _ _ _ _ _ _ _ _ _ _ _ _ hf
        exact z_sub [4, 5, 3, 2, 1, 0] rfl hw
      · have hf := iff_f hf h20
        refine z_iconst C d_Law_foretells_70 zki_0 ?_
        refine z_goto (tgt := 84) C d_Law_foretells_71 rfl ?_
        have hw := ih.2.1 _ _ _ _ _ _ _ _ _ _ _ _ hf
        exact z_sub [4, 5, 3, 2, 1, 0] rfl hw
    · intro x1 y0 x3 x4 x5 x6 x7 x8 x9 x10 x11 σ hf
      rw [e_Law_foretells_1] at hf
      refine z_istore C d_Law_foretells_84 (by decide) ?_
      refine z_lv (lv1 := [(7, .int y0), (0, .ref (zad G 4 80)), (1, .int x1), (3, .int x3), (4, .int x4), (5, .int x5), (6, .int x6)]) rfl ?_
      refine z_iload_n C d_Law_foretells_86 3 rfl rfl ?_
      refine z_if_ge (tgt := 94) C d_Law_foretells_87 rfl (fun h32 => ?_) (fun h32 => ?_)
      · have hf := iff_t hf h32
        refine z_aload_n C d_Law_foretells_94 1 rfl rfl ?_
        refine gf_Law_10 C hm rfl rfl d_Law_foretells_95 ?_
        refine z_iload_n C d_Law_foretells_98 3 rfl rfl ?_
        refine z_iload_n C d_Law_foretells_99 2 rfl rfl ?_
        refine z_iconst C d_Law_foretells_100 zki_1 ?_
        obtain ⟨r22, σ23, h21, hf⟩ := bd2_s hf
        refine z_cHi C kh_Law_reached (c_Law_reached hx h21) rfl rfl (Nat.le_of_ble_eq_true rfl) ⟨(Nat.le_of_ble_eq_true rfl), (Nat.le_of_ble_eq_true rfl)⟩ ⟨(Nat.le_of_ble_eq_true rfl), (Nat.le_of_ble_eq_true rfl)⟩ d_Law_foretells_101 ?_
        refine z_istore C d_Law_foretells_104 (by decide) ?_
        refine z_lv (lv1 := [(8, .int r22), (7, .int y0), (0, .ref (zad G 4 80)), (1, .int x1), (3, .int x3), (4, .int x4), (5, .int x5), (6, .int x6)]) rfl ?_
        refine z_iload_n C d_Law_foretells_106 4 rfl rfl ?_
        refine z_if_ge (tgt := 114) C d_Law_foretells_107 rfl (fun h27 => ?_) (fun h27 => ?_)
        · have hf := iff_t hf h27
          refine z_aload_n C d_Law_foretells_114 2 rfl rfl ?_
          refine gf_Law_10 C hm rfl rfl d_Law_foretells_115 ?_
          refine z_iload_n C d_Law_foretells_118 4 rfl rfl ?_
          refine z_iload_n C d_Law_foretells_119 3 rfl rfl ?_
          obtain ⟨r25, σ26, h24, hf⟩ := bd2_s hf
          refine z_cHi C kh_Law_correctedIn (c_Law_correctedIn hx h24) rfl rfl (Nat.le_of_ble_eq_true rfl) ⟨(Nat.le_of_ble_eq_true rfl), (Nat.le_of_ble_eq_true rfl)⟩ ⟨(Nat.le_of_ble_eq_true rfl), (Nat.le_of_ble_eq_true rfl)⟩ d_Law_foretells_120 ?_
          have hw := ih.2.2.1 _ _ _ _ _ _ _ _ _ _ _ _ hf
          exact z_sub [2, 3, 4, 5, 6, 7, 1, 0] rfl hw
        · have hf := iff_f hf h27
          refine z_iconst C d_Law_foretells_110 zki_m1 ?_
          refine z_goto (tgt := 123) C d_Law_foretells_111 rfl ?_
          have hw := ih.2.2.1 _ _ _ _ _ _ _ _ _ _ _ _ hf
          exact z_sub [2, 3, 4, 5, 6, 7, 1, 0] rfl hw
      · have hf := iff_f hf h32
        refine z_iconst C d_Law_foretells_90 zki_0 ?_
        refine z_goto (tgt := 104) C d_Law_foretells_91 rfl ?_
        refine z_istore C d_Law_foretells_104 (by decide) ?_
        refine z_lv (lv1 := [(8, .int (0 : Int32)), (7, .int y0), (0, .ref (zad G 4 80)), (1, .int x1), (3, .int x3), (4, .int x4), (5, .int x5), (6, .int x6)]) rfl ?_
        refine z_iload_n C d_Law_foretells_106 4 rfl rfl ?_
        refine z_if_ge (tgt := 114) C d_Law_foretells_107 rfl (fun h31 => ?_) (fun h31 => ?_)
        · have hf := iff_t hf h31
          refine z_aload_n C d_Law_foretells_114 2 rfl rfl ?_
          refine gf_Law_10 C hm rfl rfl d_Law_foretells_115 ?_
          refine z_iload_n C d_Law_foretells_118 4 rfl rfl ?_
          refine z_iload_n C d_Law_foretells_119 3 rfl rfl ?_
          obtain ⟨r29, σ30, h28, hf⟩ := bd2_s hf
          refine z_cHi C kh_Law_correctedIn (c_Law_correctedIn hx h28) rfl rfl (Nat.le_of_ble_eq_true rfl) ⟨(Nat.le_of_ble_eq_true rfl), (Nat.le_of_ble_eq_true rfl)⟩ ⟨(Nat.le_of_ble_eq_true rfl), (Nat.le_of_ble_eq_true rfl)⟩ d_Law_foretells_120 ?_
          have hw := ih.2.2.1 _ _ _ _ _ _ _ _ _ _ _ _ hf
          exact z_sub [2, 3, 4, 5, 6, 7, 1, 0] rfl hw
        · have hf := iff_f hf h31
          refine z_iconst C d_Law_foretells_110 zki_m1 ?_
          refine z_goto (tgt := 123) C d_Law_foretells_111 rfl ?_
          have hw := ih.2.2.1 _ _ _ _ _ _ _ _ _ _ _ _ hf
          exact z_sub [2, 3, 4, 5, 6, 7, 1, 0] rfl hw
    · intro x1 y0 x3 x4 x5 x6 x7 x8 x9 x10 x11 σ hf
      rw [e_Law_foretells_2] at hf
      refine z_istore C d_Law_foretells_123 (by decide) ?_
      refine z_lv (lv1 := [(9, .int y0), (0, .ref (zad G 4 80)), (1, .int x1), (3, .int x3), (4, .int x4), (5, .int x5), (6, .int x6), (7, .int x7), (8, .int x8)]) rfl ?_
      refine z_iload_n C d_Law_foretells_125 3 rfl rfl ?_
      refine z_if_lt (tgt := 141) C d_Law_foretells_126 rfl (fun h55 => ?_) (fun h55 => ?_)
      · have hf := iff_t hf h55
        refine z_bipush C d_Law_foretells_141 zkb_m2 ?_
        refine z_goto (tgt := 164) C d_Law_foretells_143 rfl ?_
        refine z_istore C d_Law_foretells_164 (by decide) ?_
        refine z_lv (lv1 := [(10, .int (-2 : Int32)), (9, .int y0), (0, .ref (zad G 4 80)), (1, .int x1), (3, .int x3), (4, .int x4), (5, .int x5), (6, .int x6), (7, .int x7), (8, .int x8)]) rfl ?_
        refine z_aload_n C d_Law_foretells_166 2 rfl rfl ?_
        refine gf_Law_10 C hm rfl rfl d_Law_foretells_167 ?_
        refine z_iconst C d_Law_foretells_170 zki_1 ?_
        obtain ⟨r34, σ35, h33, hf⟩ := bd2_s hf
        refine z_cHi C kh_Law_save (c_Law_save hx h33) rfl rfl (Nat.le_of_ble_eq_true rfl) ⟨(Nat.le_of_ble_eq_true rfl), (Nat.le_of_ble_eq_true rfl)⟩ ⟨(Nat.le_of_ble_eq_true rfl), (Nat.le_of_ble_eq_true rfl)⟩ d_Law_foretells_171 ?_
        refine z_if_eq (tgt := 179) C d_Law_foretells_174 rfl (fun h36 => ?_) (fun h36 => ?_)
        · have hf := iff_t hf h36
          refine z_iconst C d_Law_foretells_179 zki_1 ?_
          refine z_istore C d_Law_foretells_180 (by decide) ?_
          refine z_lv (lv1 := [(11, .int (1 : Int32)), (10, .int (-2 : Int32)), (9, .int y0), (0, .ref (zad G 4 80)), (1, .int x1), (3, .int x3), (4, .int x4), (5, .int x5), (6, .int x6), (7, .int x7), (8, .int x8)]) rfl ?_
          have hw := ih.2.2.2.1 _ _ _ _ _ _ _ _ _ _ _ _ hf
          exact z_sub [3, 4, 5, 6, 7, 8, 9, 10, 2, 1, 0] rfl hw
        · have hf := iff_f hf h36
          refine z_iconst C d_Law_foretells_177 zki_0 ?_
          cases hf
          exact z_zret C rfl rfl (Nat.le_of_ble_eq_true rfl) (Nat.le_of_ble_eq_true rfl) d_Law_foretells_178
      · have hf := iff_f hf h55
        refine z_aload_n C d_Law_foretells_129 1 rfl rfl ?_
        refine gf_Law_10 C hm rfl rfl d_Law_foretells_130 ?_
        refine z_iload_n C d_Law_foretells_133 3 rfl rfl ?_
        refine z_iconst C d_Law_foretells_134 zki_4 ?_
        obtain ⟨r38, h37, hf⟩ := bd_s hf
        refine z_cHi C kh_Law_news (c_Law_news hx h37) rfl rfl (Nat.le_of_ble_eq_true rfl) ⟨(Nat.le_of_ble_eq_true rfl), (Nat.le_of_ble_eq_true rfl)⟩ ⟨(Nat.le_of_ble_eq_true rfl), (Nat.le_of_ble_eq_true rfl)⟩ d_Law_foretells_135 ?_
        refine z_if_ge (tgt := 146) C d_Law_foretells_138 rfl (fun h54 => ?_) (fun h54 => ?_)
        · have hf := iff_t hf h54
          refine z_aload_n C d_Law_foretells_146 1 rfl rfl ?_
          refine gf_Law_10 C hm rfl rfl d_Law_foretells_147 ?_
          refine z_iload_n C d_Law_foretells_150 3 rfl rfl ?_
          refine z_bipush C d_Law_foretells_151 zkb_8 ?_
          obtain ⟨r40, h39, hf⟩ := bd_s hf
          refine z_cHi C kh_Law_news (c_Law_news hx h39) rfl rfl (Nat.le_of_ble_eq_true rfl) ⟨(Nat.le_of_ble_eq_true rfl), (Nat.le_of_ble_eq_true rfl)⟩ ⟨(Nat.le_of_ble_eq_true rfl), (Nat.le_of_ble_eq_true rfl)⟩ d_Law_foretells_153 ?_
          refine z_if_ne (tgt := 163) C d_Law_foretells_156 rfl (fun h49 => ?_) (fun h49 => ?_)
          · have hf := iff_f hf h49
            refine z_iconst C d_Law_foretells_163 zki_m1 ?_
            refine z_istore C d_Law_foretells_164 (by decide) ?_
            refine z_lv (lv1 := [(10, .int (-1 : Int32)), (9, .int y0), (0, .ref (zad G 4 80)), (1, .int x1), (3, .int x3), (4, .int x4), (5, .int x5), (6, .int x6), (7, .int x7), (8, .int x8)]) rfl ?_
            refine z_aload_n C d_Law_foretells_166 2 rfl rfl ?_
            refine gf_Law_10 C hm rfl rfl d_Law_foretells_167 ?_
            refine z_iconst C d_Law_foretells_170 zki_1 ?_
            obtain ⟨r42, σ43, h41, hf⟩ := bd2_s hf
            refine z_cHi C kh_Law_save (c_Law_save hx h41) rfl rfl (Nat.le_of_ble_eq_true rfl) ⟨(Nat.le_of_ble_eq_true rfl), (Nat.le_of_ble_eq_true rfl)⟩ ⟨(Nat.le_of_ble_eq_true rfl), (Nat.le_of_ble_eq_true rfl)⟩ d_Law_foretells_171 ?_
            refine z_if_eq (tgt := 179) C d_Law_foretells_174 rfl (fun h44 => ?_) (fun h44 => ?_)
            · have hf := iff_t hf h44
              refine z_iconst C d_Law_foretells_179 zki_1 ?_
              refine z_istore C d_Law_foretells_180 (by decide) ?_
              refine z_lv (lv1 := [(11, .int (1 : Int32)), (10, .int (-1 : Int32)), (9, .int y0), (0, .ref (zad G 4 80)), (1, .int x1), (3, .int x3), (4, .int x4), (5, .int x5), (6, .int x6), (7, .int x7), (8, .int x8)]) rfl ?_
              have hw := ih.2.2.2.1 _ _ _ _ _ _ _ _ _ _ _ _ hf
              exact z_sub [3, 4, 5, 6, 7, 8, 9, 10, 2, 1, 0] rfl hw
            · have hf := iff_f hf h44
              refine z_iconst C d_Law_foretells_177 zki_0 ?_
              cases hf
              exact z_zret C rfl rfl (Nat.le_of_ble_eq_true rfl) (Nat.le_of_ble_eq_true rfl) d_Law_foretells_178
          · have hf := iff_t hf h49
            refine z_iconst C d_Law_foretells_159 zki_0 ?_
            refine z_goto (tgt := 164) C d_Law_foretells_160 rfl ?_
            refine z_istore C d_Law_foretells_164 (by decide) ?_
            refine z_lv (lv1 := [(10, .int (0 : Int32)), (9, .int y0), (0, .ref (zad G 4 80)), (1, .int x1), (3, .int x3), (4, .int x4), (5, .int x5), (6, .int x6), (7, .int x7), (8, .int x8)]) rfl ?_
            refine z_aload_n C d_Law_foretells_166 2 rfl rfl ?_
            refine gf_Law_10 C hm rfl rfl d_Law_foretells_167 ?_
            refine z_iconst C d_Law_foretells_170 zki_1 ?_
            obtain ⟨r46, σ47, h45, hf⟩ := bd2_s hf
            refine z_cHi C kh_Law_save (c_Law_save hx h45) rfl rfl (Nat.le_of_ble_eq_true rfl) ⟨(Nat.le_of_ble_eq_true rfl), (Nat.le_of_ble_eq_true rfl)⟩ ⟨(Nat.le_of_ble_eq_true rfl), (Nat.le_of_ble_eq_true rfl)⟩ d_Law_foretells_171 ?_
            refine z_if_eq (tgt := 179) C d_Law_foretells_174 rfl (fun h48 => ?_) (fun h48 => ?_)
            · have hf := iff_t hf h48
              refine z_iconst C d_Law_foretells_179 zki_1 ?_
              refine z_istore C d_Law_foretells_180 (by decide) ?_
              refine z_lv (lv1 := [(11, .int (1 : Int32)), (10, .int (0 : Int32)), (9, .int y0), (0, .ref (zad G 4 80)), (1, .int x1), (3, .int x3), (4, .int x4), (5, .int x5), (6, .int x6), (7, .int x7), (8, .int x8)]) rfl ?_
              have hw := ih.2.2.2.1 _ _ _ _ _ _ _ _ _ _ _ _ hf
              exact z_sub [3, 4, 5, 6, 7, 8, 9, 10, 2, 1, 0] rfl hw
            · have hf := iff_f hf h48
              refine z_iconst C d_Law_foretells_177 zki_0 ?_
              cases hf
              exact z_zret C rfl rfl (Nat.le_of_ble_eq_true rfl) (Nat.le_of_ble_eq_true rfl) d_Law_foretells_178
        · have hf := iff_f hf h54
          refine z_bipush C d_Law_foretells_141 zkb_m2 ?_
          refine z_goto (tgt := 164) C d_Law_foretells_143 rfl ?_
          refine z_istore C d_Law_foretells_164 (by decide) ?_
          refine z_lv (lv1 := [(10, .int (-2 : Int32)), (9, .int y0), (0, .ref (zad G 4 80)), (1, .int x1), (3, .int x3), (4, .int x4), (5, .int x5), (6, .int x6), (7, .int x7), (8, .int x8)]) rfl ?_
          refine z_aload_n C d_Law_foretells_166 2 rfl rfl ?_
          refine gf_Law_10 C hm rfl rfl d_Law_foretells_167 ?_
          refine z_iconst C d_Law_foretells_170 zki_1 ?_
          obtain ⟨r51, σ52, h50, hf⟩ := bd2_s hf
          refine z_cHi C kh_Law_save (c_Law_save hx h50) rfl rfl (Nat.le_of_ble_eq_true rfl) ⟨(Nat.le_of_ble_eq_true rfl), (Nat.le_of_ble_eq_true rfl)⟩ ⟨(Nat.le_of_ble_eq_true rfl), (Nat.le_of_ble_eq_true rfl)⟩ d_Law_foretells_171 ?_
          refine z_if_eq (tgt := 179) C d_Law_foretells_174 rfl (fun h53 => ?_) (fun h53 => ?_)
          · have hf := iff_t hf h53
            refine z_iconst C d_Law_foretells_179 zki_1 ?_
            refine z_istore C d_Law_foretells_180 (by decide) ?_
            refine z_lv (lv1 := [(11, .int (1 : Int32)), (10, .int (-2 : Int32)), (9, .int y0), (0, .ref (zad G 4 80)), (1, .int x1), (3, .int x3), (4, .int x4), (5, .int x5), (6, .int x6), (7, .int x7), (8, .int x8)]) rfl ?_
            have hw := ih.2.2.2.1 _ _ _ _ _ _ _ _ _ _ _ _ hf
            exact z_sub [3, 4, 5, 6, 7, 8, 9, 10, 2, 1, 0] rfl hw
          · have hf := iff_f hf h53
            refine z_iconst C d_Law_foretells_177 zki_0 ?_
            cases hf
            exact z_zret C rfl rfl (Nat.le_of_ble_eq_true rfl) (Nat.le_of_ble_eq_true rfl) d_Law_foretells_178
    · intro x1 y0 x3 x4 x5 x6 x7 x8 x9 x10 x11 σ hf
      rw [e_Law_foretells_3] at hf
      refine z_iload C d_Law_foretells_182 10 rfl ?_
      refine z_iload_n C d_Law_foretells_184 1 rfl rfl ?_
      refine z_icmp_gt (tgt := 235) C d_Law_foretells_185 rfl (fun h80 => ?_) (fun h80 => ?_)
      · have hf := iff_t hf h80
        refine z_aload_n C d_Law_foretells_235 0 rfl rfl ?_
        refine gf_Law_10 C hm rfl rfl d_Law_foretells_236 ?_
        refine z_bipush C d_Law_foretells_239 zkb_10 ?_
        obtain ⟨r57, h56, hf⟩ := bd_s hf
        refine z_cHi C kh_Law_count (c_Law_count hx h56) rfl rfl (Nat.le_of_ble_eq_true rfl) ⟨(Nat.le_of_ble_eq_true rfl), (Nat.le_of_ble_eq_true rfl)⟩ ⟨(Nat.le_of_ble_eq_true rfl), (Nat.le_of_ble_eq_true rfl)⟩ d_Law_foretells_241 ?_
        refine z_iload C d_Law_foretells_244 4 rfl ?_
        refine z_iload C d_Law_foretells_246 3 rfl ?_
        refine z_iadd C d_Law_foretells_248 ?_
        refine z_icmp_ne (tgt := 307) C d_Law_foretells_249 rfl (fun h71 => ?_) (fun h71 => ?_)
        · have hf := iff_f hf h71
          refine z_iconst C d_Law_foretells_307 zki_0 ?_
          have hw := ih.2.2.2.2 _ _ _ _ _ _ _ _ _ _ _ _ hf
          exact z_sub [0, 4, 5] rfl hw
        · have hf := iff_t hf h71
          refine z_iload_n C d_Law_foretells_252 2 rfl rfl ?_
          refine z_if_lt (tgt := 292) C d_Law_foretells_253 rfl (fun h70 => ?_) (fun h70 => ?_)
          · have hf := iff_t hf h70
            refine z_iload C d_Law_foretells_292 8 rfl ?_
            refine z_iconst C d_Law_foretells_294 zki_m1 ?_
            refine z_iload C d_Law_foretells_295 9 rfl ?_
            refine z_mmax C zq400 rfl (Nat.le_of_ble_eq_true rfl) (Nat.le_of_ble_eq_true rfl) (Nat.le_of_ble_eq_true rfl) (Nat.le_of_ble_eq_true rfl) (Nat.le_of_ble_eq_true rfl) d_Law_foretells_297 ?_
            refine z_icmp_ne (tgt := 307) C d_Law_foretells_300 rfl (fun h58 => ?_) (fun h58 => ?_)
            · have hf := iff_f hf h58
              refine z_iconst C d_Law_foretells_307 zki_0 ?_
              have hw := ih.2.2.2.2 _ _ _ _ _ _ _ _ _ _ _ _ hf
              exact z_sub [0, 4, 5] rfl hw
            · have hf := iff_t hf h58
              refine z_iconst C d_Law_foretells_303 zki_1 ?_
              refine z_goto (tgt := 308) C d_Law_foretells_304 rfl ?_
              have hw := ih.2.2.2.2 _ _ _ _ _ _ _ _ _ _ _ _ hf
              exact z_sub [0, 4, 5] rfl hw
          · have hf := iff_f hf h70
            refine z_aload_n C d_Law_foretells_256 0 rfl rfl ?_
            refine gf_Law_10 C hm rfl rfl d_Law_foretells_257 ?_
            refine z_iload_n C d_Law_foretells_260 2 rfl rfl ?_
            refine z_bipush C d_Law_foretells_261 zkb_6 ?_
            obtain ⟨r60, h59, hf⟩ := bd_s hf
            refine z_cHi C kh_Law_news (c_Law_news hx h59) rfl rfl (Nat.le_of_ble_eq_true rfl) ⟨(Nat.le_of_ble_eq_true rfl), (Nat.le_of_ble_eq_true rfl)⟩ ⟨(Nat.le_of_ble_eq_true rfl), (Nat.le_of_ble_eq_true rfl)⟩ d_Law_foretells_263 ?_
            obtain ⟨r62, h61, hf⟩ := bd_s hf
            refine z_cSi C kl_Law_167 (c_Integer_bitCount h61) rfl rfl (Nat.le_of_ble_eq_true rfl) ⟨(Nat.le_of_ble_eq_true rfl), (Nat.le_of_ble_eq_true rfl)⟩ ⟨(Nat.le_of_ble_eq_true rfl), (Nat.le_of_ble_eq_true rfl)⟩ d_Law_foretells_266 ?_
            refine z_iload C d_Law_foretells_269 6 rfl ?_
            refine z_icmp_ne (tgt := 307) C d_Law_foretells_271 rfl (fun h69 => ?_) (fun h69 => ?_)
            · have hf := iff_f hf h69
              refine z_iconst C d_Law_foretells_307 zki_0 ?_
              have hw := ih.2.2.2.2 _ _ _ _ _ _ _ _ _ _ _ _ hf
              exact z_sub [0, 4, 5] rfl hw
            · have hf := iff_t hf h69
              refine z_aload_n C d_Law_foretells_274 0 rfl rfl ?_
              refine gf_Law_10 C hm rfl rfl d_Law_foretells_275 ?_
              refine z_iload_n C d_Law_foretells_278 2 rfl rfl ?_
              refine z_bipush C d_Law_foretells_279 zkb_7 ?_
              obtain ⟨r64, h63, hf⟩ := bd_s hf
              refine z_cHi C kh_Law_news (c_Law_news hx h63) rfl rfl (Nat.le_of_ble_eq_true rfl) ⟨(Nat.le_of_ble_eq_true rfl), (Nat.le_of_ble_eq_true rfl)⟩ ⟨(Nat.le_of_ble_eq_true rfl), (Nat.le_of_ble_eq_true rfl)⟩ d_Law_foretells_281 ?_
              obtain ⟨r66, h65, hf⟩ := bd_s hf
              refine z_cSi C kl_Law_167 (c_Integer_bitCount h65) rfl rfl (Nat.le_of_ble_eq_true rfl) ⟨(Nat.le_of_ble_eq_true rfl), (Nat.le_of_ble_eq_true rfl)⟩ ⟨(Nat.le_of_ble_eq_true rfl), (Nat.le_of_ble_eq_true rfl)⟩ d_Law_foretells_284 ?_
              refine z_iload C d_Law_foretells_287 7 rfl ?_
              refine z_icmp_ne (tgt := 307) C d_Law_foretells_289 rfl (fun h68 => ?_) (fun h68 => ?_)
              · have hf := iff_f hf h68
                refine z_iconst C d_Law_foretells_307 zki_0 ?_
                have hw := ih.2.2.2.2 _ _ _ _ _ _ _ _ _ _ _ _ hf
                exact z_sub [0, 4, 5] rfl hw
              · have hf := iff_t hf h68
                refine z_iload C d_Law_foretells_292 8 rfl ?_
                refine z_iconst C d_Law_foretells_294 zki_m1 ?_
                refine z_iload C d_Law_foretells_295 9 rfl ?_
                refine z_mmax C zq400 rfl (Nat.le_of_ble_eq_true rfl) (Nat.le_of_ble_eq_true rfl) (Nat.le_of_ble_eq_true rfl) (Nat.le_of_ble_eq_true rfl) (Nat.le_of_ble_eq_true rfl) d_Law_foretells_297 ?_
                refine z_icmp_ne (tgt := 307) C d_Law_foretells_300 rfl (fun h67 => ?_) (fun h67 => ?_)
                · have hf := iff_f hf h67
                  refine z_iconst C d_Law_foretells_307 zki_0 ?_
                  have hw := ih.2.2.2.2 _ _ _ _ _ _ _ _ _ _ _ _ hf
                  exact z_sub [0, 4, 5] rfl hw
                · have hf := iff_t hf h67
                  refine z_iconst C d_Law_foretells_303 zki_1 ?_
                  refine z_goto (tgt := 308) C d_Law_foretells_304 rfl ?_
                  have hw := ih.2.2.2.2 _ _ _ _ _ _ _ _ _ _ _ _ hf
                  exact z_sub [0, 4, 5] rfl hw
      · have hf := iff_f hf h80
        refine z_aload_n C d_Law_foretells_188 0 rfl rfl ?_
        refine gf_Law_10 C hm rfl rfl d_Law_foretells_189 ?_
        refine z_iconst C d_Law_foretells_192 zki_1 ?_
        obtain ⟨r73, σ74, h72, hf⟩ := bd2_s hf
        refine z_cHi C kh_Law_run (c_Law_run hx h72) rfl rfl (Nat.le_of_ble_eq_true rfl) ⟨(Nat.le_of_ble_eq_true rfl), (Nat.le_of_ble_eq_true rfl)⟩ ⟨(Nat.le_of_ble_eq_true rfl), (Nat.le_of_ble_eq_true rfl)⟩ d_Law_foretells_193 ?_
        refine z_if_ge (tgt := 201) C d_Law_foretells_196 rfl (fun h79 => ?_) (fun h79 => ?_)
        · have hf := iff_t hf h79
          refine z_iload C d_Law_foretells_201 9 rfl ?_
          refine z_iconst C d_Law_foretells_203 zki_m1 ?_
          refine z_icmp_ne (tgt := 225) C d_Law_foretells_204 rfl (fun h78 => ?_) (fun h78 => ?_)
          · have hf := iff_f hf h78
            refine z_iload C d_Law_foretells_225 9 rfl ?_
            refine z_istore C d_Law_foretells_227 (by decide) ?_
            refine z_lv (lv1 := [(10, .int x10), (0, .ref (zad G 4 80)), (1, .int x1), (3, .int x3), (4, .int x4), (5, .int x5), (6, .int x6), (7, .int x7), (8, .int x8), (9, .int x9), (11, .int x11)]) rfl ?_
            refine z_iinc C d_Law_foretells_229 10 rfl zki_1 (by decide) ?_
            refine z_lv (lv1 := [(11, .int (x11 + (1 : Int32))), (10, .int x10), (0, .ref (zad G 4 80)), (1, .int x1), (3, .int x3), (4, .int x4), (5, .int x5), (6, .int x6), (7, .int x7), (8, .int x8), (9, .int x9)]) rfl ?_
            refine z_goto (tgt := 182) C d_Law_foretells_232 rfl ?_
            have hw := ih.2.2.2.1 _ _ _ _ _ _ _ _ _ _ _ _ hf
            exact z_sub [2, 3, 4, 5, 6, 7, 8, 9, 10, 1, 0] rfl hw
          · have hf := iff_t hf h78
            refine z_aload_n C d_Law_foretells_207 0 rfl rfl ?_
            refine gf_Law_10 C hm rfl rfl d_Law_foretells_208 ?_
            refine z_iload_n C d_Law_foretells_211 2 rfl rfl ?_
            refine z_bipush C d_Law_foretells_212 zkb_8 ?_
            obtain ⟨r76, h75, hf⟩ := bd_s hf
            refine z_cHi C kh_Law_news (c_Law_news hx h75) rfl rfl (Nat.le_of_ble_eq_true rfl) ⟨(Nat.le_of_ble_eq_true rfl), (Nat.le_of_ble_eq_true rfl)⟩ ⟨(Nat.le_of_ble_eq_true rfl), (Nat.le_of_ble_eq_true rfl)⟩ d_Law_foretells_214 ?_
            refine z_if_ne (tgt := 225) C d_Law_foretells_217 rfl (fun h77 => ?_) (fun h77 => ?_)
            · have hf := iff_f hf h77
              refine z_iload C d_Law_foretells_225 9 rfl ?_
              refine z_istore C d_Law_foretells_227 (by decide) ?_
              refine z_lv (lv1 := [(10, .int x10), (0, .ref (zad G 4 80)), (1, .int x1), (3, .int x3), (4, .int x4), (5, .int x5), (6, .int x6), (7, .int x7), (8, .int x8), (9, .int x9), (11, .int x11)]) rfl ?_
              refine z_iinc C d_Law_foretells_229 10 rfl zki_1 (by decide) ?_
              refine z_lv (lv1 := [(11, .int (x11 + (1 : Int32))), (10, .int x10), (0, .ref (zad G 4 80)), (1, .int x1), (3, .int x3), (4, .int x4), (5, .int x5), (6, .int x6), (7, .int x7), (8, .int x8), (9, .int x9)]) rfl ?_
              refine z_goto (tgt := 182) C d_Law_foretells_232 rfl ?_
              have hw := ih.2.2.2.1 _ _ _ _ _ _ _ _ _ _ _ _ hf
              exact z_sub [2, 3, 4, 5, 6, 7, 8, 9, 10, 1, 0] rfl hw
            · have hf := iff_t hf h77
              refine z_iload C d_Law_foretells_220 10 rfl ?_
              refine z_goto (tgt := 227) C d_Law_foretells_222 rfl ?_
              refine z_istore C d_Law_foretells_227 (by decide) ?_
              refine z_lv (lv1 := [(10, .int x11), (0, .ref (zad G 4 80)), (1, .int x1), (3, .int x3), (4, .int x4), (5, .int x5), (6, .int x6), (7, .int x7), (8, .int x8), (9, .int x9), (11, .int x11)]) rfl ?_
              refine z_iinc C d_Law_foretells_229 10 rfl zki_1 (by decide) ?_
              refine z_lv (lv1 := [(11, .int (x11 + (1 : Int32))), (10, .int x11), (0, .ref (zad G 4 80)), (1, .int x1), (3, .int x3), (4, .int x4), (5, .int x5), (6, .int x6), (7, .int x7), (8, .int x8), (9, .int x9)]) rfl ?_
              refine z_goto (tgt := 182) C d_Law_foretells_232 rfl ?_
              have hw := ih.2.2.2.1 _ _ _ _ _ _ _ _ _ _ _ _ hf
              exact z_sub [2, 3, 4, 5, 6, 7, 8, 9, 10, 1, 0] rfl hw
        · have hf := iff_f hf h79
          refine z_iconst C d_Law_foretells_199 zki_0 ?_
          cases hf
          exact z_zret C rfl rfl (Nat.le_of_ble_eq_true rfl) (Nat.le_of_ble_eq_true rfl) d_Law_foretells_200
    · intro x1 y0 x3 x4 x5 x6 x7 x8 x9 x10 x11 σ hf
      rw [e_Law_foretells_4] at hf
      refine z_istore C d_Law_foretells_308 (by decide) ?_
      refine z_lv (lv1 := [(11, .int y0), (0, .ref (zad G 4 80)), (5, .int x5), (6, .int x6)]) rfl ?_
      refine z_iload C d_Law_foretells_310 0 rfl ?_
      refine z_if_eq (tgt := 358) C d_Law_foretells_312 rfl (fun h91 => ?_) (fun h91 => ?_)
      · have hf := iff_t hf h91
        refine z_iconst C d_Law_foretells_358 zki_0 ?_
        cases hf
        exact z_zret C rfl rfl (Nat.le_of_ble_eq_true rfl) (Nat.le_of_ble_eq_true rfl) d_Law_foretells_359
      · have hf := iff_f hf h91
        refine z_aload_n C d_Law_foretells_315 1 rfl rfl ?_
        refine gf_Law_10 C hm rfl rfl d_Law_foretells_316 ?_
        refine z_iconst C d_Law_foretells_319 zki_1 ?_
        obtain ⟨r82, σ83, h81, hf⟩ := bd2_s hf
        refine z_cHi C kh_Law_restore (c_Law_restore hx h81) rfl rfl (Nat.le_of_ble_eq_true rfl) ⟨(Nat.le_of_ble_eq_true rfl), (Nat.le_of_ble_eq_true rfl)⟩ ⟨(Nat.le_of_ble_eq_true rfl), (Nat.le_of_ble_eq_true rfl)⟩ d_Law_foretells_320 ?_
        refine z_if_ne (tgt := 358) C d_Law_foretells_323 rfl (fun h90 => ?_) (fun h90 => ?_)
        · have hf := iff_f hf h90
          refine z_iconst C d_Law_foretells_358 zki_0 ?_
          cases hf
          exact z_zret C rfl rfl (Nat.le_of_ble_eq_true rfl) (Nat.le_of_ble_eq_true rfl) d_Law_foretells_359
        · have hf := iff_t hf h90
          refine z_aload_n C d_Law_foretells_326 1 rfl rfl ?_
          refine gf_Law_10 C hm rfl rfl d_Law_foretells_327 ?_
          refine z_bipush C d_Law_foretells_330 zkb_9 ?_
          obtain ⟨r85, h84, hf⟩ := bd_s hf
          refine z_cHi C kh_Law_count (c_Law_count hx h84) rfl rfl (Nat.le_of_ble_eq_true rfl) ⟨(Nat.le_of_ble_eq_true rfl), (Nat.le_of_ble_eq_true rfl)⟩ ⟨(Nat.le_of_ble_eq_true rfl), (Nat.le_of_ble_eq_true rfl)⟩ d_Law_foretells_332 ?_
          refine z_iload C d_Law_foretells_335 3 rfl ?_
          refine z_icmp_ne (tgt := 358) C d_Law_foretells_337 rfl (fun h89 => ?_) (fun h89 => ?_)
          · have hf := iff_f hf h89
            refine z_iconst C d_Law_foretells_358 zki_0 ?_
            cases hf
            exact z_zret C rfl rfl (Nat.le_of_ble_eq_true rfl) (Nat.le_of_ble_eq_true rfl) d_Law_foretells_359
          · have hf := iff_t hf h89
            refine z_aload_n C d_Law_foretells_340 1 rfl rfl ?_
            refine gf_Law_10 C hm rfl rfl d_Law_foretells_341 ?_
            refine z_bipush C d_Law_foretells_344 zkb_10 ?_
            obtain ⟨r87, h86, hf⟩ := bd_s hf
            refine z_cHi C kh_Law_count (c_Law_count hx h86) rfl rfl (Nat.le_of_ble_eq_true rfl) ⟨(Nat.le_of_ble_eq_true rfl), (Nat.le_of_ble_eq_true rfl)⟩ ⟨(Nat.le_of_ble_eq_true rfl), (Nat.le_of_ble_eq_true rfl)⟩ d_Law_foretells_346 ?_
            refine z_iload C d_Law_foretells_349 2 rfl ?_
            refine z_icmp_ne (tgt := 358) C d_Law_foretells_351 rfl (fun h88 => ?_) (fun h88 => ?_)
            · have hf := iff_f hf h88
              refine z_iconst C d_Law_foretells_358 zki_0 ?_
              cases hf
              exact z_zret C rfl rfl (Nat.le_of_ble_eq_true rfl) (Nat.le_of_ble_eq_true rfl) d_Law_foretells_359
            · have hf := iff_t hf h88
              refine z_iconst C d_Law_foretells_354 zki_1 ?_
              refine z_goto (tgt := 359) C d_Law_foretells_355 rfl ?_
              cases hf
              exact z_zret C rfl rfl (Nat.le_of_ble_eq_true rfl) (Nat.le_of_ble_eq_true rfl) d_Law_foretells_359
def F_Law_foretells (G : zLA) (σ : zSt) : Option (Int32 × zSt) :=
  bd2 (F_Law_draw G (90 : Int32) σ) fun r2 σ3 => (F_Law_count (7 : Int32) σ3).bind fun r5 => if r5 = 0 then L_Law_foretells G zK 0 ((1 : Int32) + r2) (-1 : Int32) 0 0 0 0 0 0 0 0 0 σ3 else (bd2 (F_Law_draw G r5 σ3) fun r7 σ8 => L_Law_foretells G zK 0 ((1 : Int32) + r2) r7 0 0 0 0 0 0 0 0 0 σ8)
set_option maxHeartbeats 4000000 in
set_option maxRecDepth 100000 in
theorem c_Law_foretells {l : Launch} {G : zLA} (hx : zxl G) (hm : zml G) {σ : zSt} {r : Int32} {σ' : zSt} (hf : F_Law_foretells G σ = some (r, σ')) : zM l G y_Law_foretells (zws y_Law_foretells b_Law_foretells 12 (some .boolean)) rm_Law_foretells [.ref (zad G 4 80)] σ (some (.int r)) σ' := by
  refine z_ofM (own := "VillageWavesLaw") (lv := [(0, .ref (zad G 4 80))]) (by decide +kernel) rfl rfl (Nat.le_of_ble_eq_true rfl) (fun p e s m args below meth c C => ?_)
  rw [F_Law_foretells] at hf
  refine z_iconst C d_Law_foretells_0 zki_1 ?_
  refine z_aload_n C d_Law_foretells_1 0 rfl rfl ?_
  refine z_bipush C d_Law_foretells_2 zkb_90 ?_
  obtain ⟨r2, σ3, h1, hf⟩ := bd2_s hf
  refine z_cVi C kl_Law_128 rfl (c_Law_draw hx hm h1) hm rfl rfl rfl (Nat.le_of_ble_eq_true rfl) ⟨(Nat.le_of_ble_eq_true rfl), (Nat.le_of_ble_eq_true rfl)⟩ ⟨(Nat.le_of_ble_eq_true rfl), (Nat.le_of_ble_eq_true rfl)⟩ d_Law_foretells_4 ?_
  refine z_iadd C d_Law_foretells_7 ?_
  refine z_istore_n C d_Law_foretells_8 rfl (by decide) ?_
  refine z_lv (lv1 := [(1, .int ((1 : Int32) + r2)), (0, .ref (zad G 4 80))]) rfl ?_
  refine z_aload_n C d_Law_foretells_9 1 rfl rfl ?_
  refine gf_Law_10 C hm rfl rfl d_Law_foretells_10 ?_
  refine z_bipush C d_Law_foretells_13 zkb_7 ?_
  obtain ⟨r5, h4, hf⟩ := bd_s hf
  refine z_cHi C kh_Law_count (c_Law_count hx h4) rfl rfl (Nat.le_of_ble_eq_true rfl) ⟨(Nat.le_of_ble_eq_true rfl), (Nat.le_of_ble_eq_true rfl)⟩ ⟨(Nat.le_of_ble_eq_true rfl), (Nat.le_of_ble_eq_true rfl)⟩ d_Law_foretells_15 ?_
  refine z_istore_n C d_Law_foretells_18 rfl (by decide) ?_
  refine z_lv (lv1 := [(2, .int r5), (1, .int ((1 : Int32) + r2)), (0, .ref (zad G 4 80))]) rfl ?_
  refine z_iload_n C d_Law_foretells_19 0 rfl rfl ?_
  refine z_if_ne (tgt := 27) C d_Law_foretells_20 rfl (fun h9 => ?_) (fun h9 => ?_)
  · have hf := iff_f hf h9
    refine z_aload_n C d_Law_foretells_27 2 rfl rfl ?_
    refine z_iload_n C d_Law_foretells_28 0 rfl rfl ?_
    obtain ⟨r7, σ8, h6, hf⟩ := bd2_s hf
    refine z_cVi C kl_Law_128 rfl (c_Law_draw hx hm h6) hm rfl rfl rfl (Nat.le_of_ble_eq_true rfl) ⟨(Nat.le_of_ble_eq_true rfl), (Nat.le_of_ble_eq_true rfl)⟩ ⟨(Nat.le_of_ble_eq_true rfl), (Nat.le_of_ble_eq_true rfl)⟩ d_Law_foretells_29 ?_
    have hw := (w_Law_foretells (l := l) (e := e) (below := below) C hx hm zK).1 _ _ _ _ _ _ _ _ _ _ _ _ hf
    exact z_sub [2, 1] rfl hw
  · have hf := iff_t hf h9
    refine z_iconst C d_Law_foretells_23 zki_m1 ?_
    refine z_goto (tgt := 32) C d_Law_foretells_24 rfl ?_
    have hw := (w_Law_foretells (l := l) (e := e) (below := below) C hx hm zK).1 _ _ _ _ _ _ _ _ _ _ _ _ hf
    exact z_sub [2, 1] rfl hw
