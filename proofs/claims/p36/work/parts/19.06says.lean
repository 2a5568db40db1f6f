abbrev rm_Law_says : Room := { frames := 9, cells := 0, slots := 0, locals := 161 }
theorem d_Law_says_0 : decode b_Law_says 0 = .ok (.aload_n 0, 1) := by decide +kernel
theorem d_Law_says_1 : decode b_Law_says 1 = .ok (.aload_n 0, 1) := by decide +kernel
theorem d_Law_says_2 : decode b_Law_says 2 = .ok (.getfield 10, 3) := by decide +kernel
theorem d_Law_says_5 : decode b_Law_says 5 = .ok (.bipush 6, 2) := by decide +kernel
theorem d_Law_says_7 : decode b_Law_says 7 = .ok (.invokestatic 144, 3) := by decide +kernel
theorem d_Law_says_10 : decode b_Law_says 10 = .ok (.invokevirtual 128, 3) := by decide +kernel
theorem d_Law_says_13 : decode b_Law_says 13 = .ok (.istore_n 1, 1) := by decide +kernel
theorem d_Law_says_14 : decode b_Law_says 14 = .ok (.aload_n 0, 1) := by decide +kernel
theorem d_Law_says_15 : decode b_Law_says 15 = .ok (.getfield 10, 3) := by decide +kernel
theorem d_Law_says_18 : decode b_Law_says 18 = .ok (.bipush 7, 2) := by decide +kernel
theorem d_Law_says_20 : decode b_Law_says 20 = .ok (.invokestatic 144, 3) := by decide +kernel
theorem d_Law_says_23 : decode b_Law_says 23 = .ok (.istore_n 2, 1) := by decide +kernel
theorem d_Law_says_24 : decode b_Law_says 24 = .ok (.aload_n 0, 1) := by decide +kernel
theorem d_Law_says_25 : decode b_Law_says 25 = .ok (.bipush 100, 2) := by decide +kernel
theorem d_Law_says_27 : decode b_Law_says 27 = .ok (.invokevirtual 128, 3) := by decide +kernel
theorem d_Law_says_30 : decode b_Law_says 30 = .ok (.istore_n 3, 1) := by decide +kernel
theorem d_Law_says_31 : decode b_Law_says 31 = .ok (.aload_n 0, 1) := by decide +kernel
theorem d_Law_says_32 : decode b_Law_says 32 = .ok (.iconst 2, 1) := by decide +kernel
theorem d_Law_says_33 : decode b_Law_says 33 = .ok (.invokevirtual 128, 3) := by decide +kernel
theorem d_Law_says_36 : decode b_Law_says 36 = .ok (.ifCond .eq 7, 3) := by decide +kernel
theorem d_Law_says_39 : decode b_Law_says 39 = .ok (.iload_n 2, 1) := by decide +kernel
theorem d_Law_says_40 : decode b_Law_says 40 = .ok (.ifCond .ne 118, 3) := by decide +kernel
theorem d_Law_says_43 : decode b_Law_says 43 = .ok (.aload_n 0, 1) := by decide +kernel
theorem d_Law_says_44 : decode b_Law_says 44 = .ok (.getfield 10, 3) := by decide +kernel
theorem d_Law_says_47 : decode b_Law_says 47 = .ok (.iload_n 1, 1) := by decide +kernel
theorem d_Law_says_48 : decode b_Law_says 48 = .ok (.bipush 13, 2) := by decide +kernel
theorem d_Law_says_50 : decode b_Law_says 50 = .ok (.invokestatic 152, 3) := by decide +kernel
theorem d_Law_says_53 : decode b_Law_says 53 = .ok (.istore 4, 2) := by decide +kernel
theorem d_Law_says_55 : decode b_Law_says 55 = .ok (.aload_n 0, 1) := by decide +kernel
theorem d_Law_says_56 : decode b_Law_says 56 = .ok (.getfield 10, 3) := by decide +kernel
theorem d_Law_says_59 : decode b_Law_says 59 = .ok (.iload_n 1, 1) := by decide +kernel
theorem d_Law_says_60 : decode b_Law_says 60 = .ok (.iload_n 3, 1) := by decide +kernel
theorem d_Law_says_61 : decode b_Law_says 61 = .ok (.invokestatic 183, 3) := by decide +kernel
theorem d_Law_says_64 : decode b_Law_says 64 = .ok (.istore 5, 2) := by decide +kernel
theorem d_Law_says_66 : decode b_Law_says 66 = .ok (.iload_n 2, 1) := by decide +kernel
theorem d_Law_says_67 : decode b_Law_says 67 = .ok (.bipush 20, 2) := by decide +kernel
theorem d_Law_says_69 : decode b_Law_says 69 = .ok (.if_icmp .ne 31, 3) := by decide +kernel
theorem d_Law_says_72 : decode b_Law_says 72 = .ok (.iload 5, 2) := by decide +kernel
theorem d_Law_says_74 : decode b_Law_says 74 = .ok (.bipush (-2), 2) := by decide +kernel
theorem d_Law_says_76 : decode b_Law_says 76 = .ok (.if_icmp .ne 22, 3) := by decide +kernel
theorem d_Law_says_79 : decode b_Law_says 79 = .ok (.aload_n 0, 1) := by decide +kernel
theorem d_Law_says_80 : decode b_Law_says 80 = .ok (.getfield 10, 3) := by decide +kernel
theorem d_Law_says_83 : decode b_Law_says 83 = .ok (.iload_n 1, 1) := by decide +kernel
theorem d_Law_says_84 : decode b_Law_says 84 = .ok (.bipush 13, 2) := by decide +kernel
theorem d_Law_says_86 : decode b_Law_says 86 = .ok (.invokestatic 152, 3) := by decide +kernel
theorem d_Law_says_89 : decode b_Law_says 89 = .ok (.iload 4, 2) := by decide +kernel
theorem d_Law_says_91 : decode b_Law_says 91 = .ok (.if_icmp .ne 7, 3) := by decide +kernel
theorem d_Law_says_94 : decode b_Law_says 94 = .ok (.iconst 1, 1) := by decide +kernel
theorem d_Law_says_95 : decode b_Law_says 95 = .ok (.goto 4, 3) := by decide +kernel
theorem d_Law_says_98 : decode b_Law_says 98 = .ok (.iconst 0, 1) := by decide +kernel
theorem d_Law_says_99 : decode b_Law_says 99 = .ok (.ireturn, 1) := by decide +kernel
theorem d_Law_says_100 : decode b_Law_says 100 = .ok (.iload 5, 2) := by decide +kernel
theorem d_Law_says_102 : decode b_Law_says 102 = .ok (.iload_n 2, 1) := by decide +kernel
theorem d_Law_says_103 : decode b_Law_says 103 = .ok (.if_icmp .ne 53, 3) := by decide +kernel
theorem d_Law_says_106 : decode b_Law_says 106 = .ok (.aload_n 0, 1) := by decide +kernel
theorem d_Law_says_107 : decode b_Law_says 107 = .ok (.getfield 10, 3) := by decide +kernel
theorem d_Law_says_110 : decode b_Law_says 110 = .ok (.iload_n 2, 1) := by decide +kernel
theorem d_Law_says_111 : decode b_Law_says 111 = .ok (.iconst 2, 1) := by decide +kernel
theorem d_Law_says_112 : decode b_Law_says 112 = .ok (.invokestatic 146, 3) := by decide +kernel
theorem d_Law_says_115 : decode b_Law_says 115 = .ok (.iload_n 3, 1) := by decide +kernel
theorem d_Law_says_116 : decode b_Law_says 116 = .ok (.if_icmp .ne 40, 3) := by decide +kernel
theorem d_Law_says_119 : decode b_Law_says 119 = .ok (.aload_n 0, 1) := by decide +kernel
theorem d_Law_says_120 : decode b_Law_says 120 = .ok (.getfield 10, 3) := by decide +kernel
theorem d_Law_says_123 : decode b_Law_says 123 = .ok (.iload_n 2, 1) := by decide +kernel
theorem d_Law_says_124 : decode b_Law_says 124 = .ok (.bipush 6, 2) := by decide +kernel
theorem d_Law_says_126 : decode b_Law_says 126 = .ok (.invokestatic 146, 3) := by decide +kernel
theorem d_Law_says_129 : decode b_Law_says 129 = .ok (.iconst 1, 1) := by decide +kernel
theorem d_Law_says_130 : decode b_Law_says 130 = .ok (.iload_n 1, 1) := by decide +kernel
theorem d_Law_says_131 : decode b_Law_says 131 = .ok (.ishl, 1) := by decide +kernel
theorem d_Law_says_132 : decode b_Law_says 132 = .ok (.if_icmp .ne 24, 3) := by decide +kernel
theorem d_Law_says_135 : decode b_Law_says 135 = .ok (.aload_n 0, 1) := by decide +kernel
theorem d_Law_says_136 : decode b_Law_says 136 = .ok (.getfield 10, 3) := by decide +kernel
theorem d_Law_says_139 : decode b_Law_says 139 = .ok (.iload_n 1, 1) := by decide +kernel
theorem d_Law_says_140 : decode b_Law_says 140 = .ok (.bipush 13, 2) := by decide +kernel
theorem d_Law_says_142 : decode b_Law_says 142 = .ok (.invokestatic 152, 3) := by decide +kernel
theorem d_Law_says_145 : decode b_Law_says 145 = .ok (.iload 4, 2) := by decide +kernel
theorem d_Law_says_147 : decode b_Law_says 147 = .ok (.iconst 1, 1) := by decide +kernel
theorem d_Law_says_148 : decode b_Law_says 148 = .ok (.iadd, 1) := by decide +kernel
theorem d_Law_says_149 : decode b_Law_says 149 = .ok (.if_icmp .ne 7, 3) := by decide +kernel
theorem d_Law_says_152 : decode b_Law_says 152 = .ok (.iconst 1, 1) := by decide +kernel
theorem d_Law_says_153 : decode b_Law_says 153 = .ok (.goto 4, 3) := by decide +kernel
theorem d_Law_says_156 : decode b_Law_says 156 = .ok (.iconst 0, 1) := by decide +kernel
theorem d_Law_says_157 : decode b_Law_says 157 = .ok (.ireturn, 1) := by decide +kernel
theorem d_Law_says_158 : decode b_Law_says 158 = .ok (.aload_n 0, 1) := by decide +kernel
theorem d_Law_says_159 : decode b_Law_says 159 = .ok (.iload_n 2, 1) := by decide +kernel
theorem d_Law_says_160 : decode b_Law_says 160 = .ok (.invokevirtual 128, 3) := by decide +kernel
theorem d_Law_says_163 : decode b_Law_says 163 = .ok (.istore 4, 2) := by decide +kernel
theorem d_Law_says_165 : decode b_Law_says 165 = .ok (.aload_n 0, 1) := by decide +kernel
theorem d_Law_says_166 : decode b_Law_says 166 = .ok (.getfield 10, 3) := by decide +kernel
theorem d_Law_says_169 : decode b_Law_says 169 = .ok (.iload 4, 2) := by decide +kernel
theorem d_Law_says_171 : decode b_Law_says 171 = .ok (.bipush 7, 2) := by decide +kernel
theorem d_Law_says_173 : decode b_Law_says 173 = .ok (.invokestatic 146, 3) := by decide +kernel
theorem d_Law_says_176 : decode b_Law_says 176 = .ok (.istore 5, 2) := by decide +kernel
theorem d_Law_says_178 : decode b_Law_says 178 = .ok (.aload_n 0, 1) := by decide +kernel
theorem d_Law_says_179 : decode b_Law_says 179 = .ok (.getfield 10, 3) := by decide +kernel
theorem d_Law_says_182 : decode b_Law_says 182 = .ok (.iload 4, 2) := by decide +kernel
theorem d_Law_says_184 : decode b_Law_says 184 = .ok (.iconst 4, 1) := by decide +kernel
theorem d_Law_says_185 : decode b_Law_says 185 = .ok (.invokestatic 146, 3) := by decide +kernel
theorem d_Law_says_188 : decode b_Law_says 188 = .ok (.istore 6, 2) := by decide +kernel
theorem d_Law_says_190 : decode b_Law_says 190 = .ok (.aload_n 0, 1) := by decide +kernel
theorem d_Law_says_191 : decode b_Law_says 191 = .ok (.getfield 10, 3) := by decide +kernel
theorem d_Law_says_194 : decode b_Law_says 194 = .ok (.iload_n 1, 1) := by decide +kernel
theorem d_Law_says_195 : decode b_Law_says 195 = .ok (.iload 4, 2) := by decide +kernel
theorem d_Law_says_197 : decode b_Law_says 197 = .ok (.iload_n 3, 1) := by decide +kernel
theorem d_Law_says_198 : decode b_Law_says 198 = .ok (.invokestatic 185, 3) := by decide +kernel
theorem d_Law_says_201 : decode b_Law_says 201 = .ok (.istore 7, 2) := by decide +kernel
theorem d_Law_says_203 : decode b_Law_says 203 = .ok (.aload_n 0, 1) := by decide +kernel
theorem d_Law_says_204 : decode b_Law_says 204 = .ok (.getfield 10, 3) := by decide +kernel
theorem d_Law_says_207 : decode b_Law_says 207 = .ok (.iload 4, 2) := by decide +kernel
theorem d_Law_says_209 : decode b_Law_says 209 = .ok (.bipush 6, 2) := by decide +kernel
theorem d_Law_says_211 : decode b_Law_says 211 = .ok (.invokestatic 146, 3) := by decide +kernel
theorem d_Law_says_214 : decode b_Law_says 214 = .ok (.iload_n 1, 1) := by decide +kernel
theorem d_Law_says_215 : decode b_Law_says 215 = .ok (.ishr, 1) := by decide +kernel
theorem d_Law_says_216 : decode b_Law_says 216 = .ok (.iconst 1, 1) := by decide +kernel
theorem d_Law_says_217 : decode b_Law_says 217 = .ok (.iand, 1) := by decide +kernel
theorem d_Law_says_218 : decode b_Law_says 218 = .ok (.ifCond .ne 32, 3) := by decide +kernel
theorem d_Law_says_221 : decode b_Law_says 221 = .ok (.iload 7, 2) := by decide +kernel
theorem d_Law_says_223 : decode b_Law_says 223 = .ok (.bipush (-3), 2) := by decide +kernel
theorem d_Law_says_225 : decode b_Law_says 225 = .ok (.if_icmp .ne 23, 3) := by decide +kernel
theorem d_Law_says_228 : decode b_Law_says 228 = .ok (.aload_n 0, 1) := by decide +kernel
theorem d_Law_says_229 : decode b_Law_says 229 = .ok (.getfield 10, 3) := by decide +kernel
theorem d_Law_says_232 : decode b_Law_says 232 = .ok (.iload 4, 2) := by decide +kernel
theorem d_Law_says_234 : decode b_Law_says 234 = .ok (.bipush 7, 2) := by decide +kernel
theorem d_Law_says_236 : decode b_Law_says 236 = .ok (.invokestatic 146, 3) := by decide +kernel
theorem d_Law_says_239 : decode b_Law_says 239 = .ok (.iload 5, 2) := by decide +kernel
theorem d_Law_says_241 : decode b_Law_says 241 = .ok (.if_icmp .ne 7, 3) := by decide +kernel
theorem d_Law_says_244 : decode b_Law_says 244 = .ok (.iconst 1, 1) := by decide +kernel
theorem d_Law_says_245 : decode b_Law_says 245 = .ok (.goto 4, 3) := by decide +kernel
theorem d_Law_says_248 : decode b_Law_says 248 = .ok (.iconst 0, 1) := by decide +kernel
theorem d_Law_says_249 : decode b_Law_says 249 = .ok (.ireturn, 1) := by decide +kernel
theorem d_Law_says_250 : decode b_Law_says 250 = .ok (.iload 6, 2) := by decide +kernel
theorem d_Law_says_252 : decode b_Law_says 252 = .ok (.ifCond .lt 32, 3) := by decide +kernel
theorem d_Law_says_255 : decode b_Law_says 255 = .ok (.iload 7, 2) := by decide +kernel
theorem d_Law_says_257 : decode b_Law_says 257 = .ok (.bipush (-4), 2) := by decide +kernel
theorem d_Law_says_259 : decode b_Law_says 259 = .ok (.if_icmp .ne 23, 3) := by decide +kernel
theorem d_Law_says_262 : decode b_Law_says 262 = .ok (.aload_n 0, 1) := by decide +kernel
theorem d_Law_says_263 : decode b_Law_says 263 = .ok (.getfield 10, 3) := by decide +kernel
theorem d_Law_says_266 : decode b_Law_says 266 = .ok (.iload 4, 2) := by decide +kernel
theorem d_Law_says_268 : decode b_Law_says 268 = .ok (.bipush 7, 2) := by decide +kernel
theorem d_Law_says_270 : decode b_Law_says 270 = .ok (.invokestatic 146, 3) := by decide +kernel
theorem d_Law_says_273 : decode b_Law_says 273 = .ok (.iload 5, 2) := by decide +kernel
theorem d_Law_says_275 : decode b_Law_says 275 = .ok (.if_icmp .ne 7, 3) := by decide +kernel
theorem d_Law_says_278 : decode b_Law_says 278 = .ok (.iconst 1, 1) := by decide +kernel
theorem d_Law_says_279 : decode b_Law_says 279 = .ok (.goto 4, 3) := by decide +kernel
theorem d_Law_says_282 : decode b_Law_says 282 = .ok (.iconst 0, 1) := by decide +kernel
theorem d_Law_says_283 : decode b_Law_says 283 = .ok (.ireturn, 1) := by decide +kernel
theorem d_Law_says_284 : decode b_Law_says 284 = .ok (.iload 7, 2) := by decide +kernel
theorem d_Law_says_286 : decode b_Law_says 286 = .ok (.aload_n 0, 1) := by decide +kernel
theorem d_Law_says_287 : decode b_Law_says 287 = .ok (.getfield 10, 3) := by decide +kernel
theorem d_Law_says_290 : decode b_Law_says 290 = .ok (.iload_n 1, 1) := by decide +kernel
theorem d_Law_says_291 : decode b_Law_says 291 = .ok (.iload 4, 2) := by decide +kernel
theorem d_Law_says_293 : decode b_Law_says 293 = .ok (.invokestatic 150, 3) := by decide +kernel
theorem d_Law_says_296 : decode b_Law_says 296 = .ok (.invokestatic 167, 3) := by decide +kernel
theorem d_Law_says_299 : decode b_Law_says 299 = .ok (.if_icmp .ne 74, 3) := by decide +kernel
theorem d_Law_says_302 : decode b_Law_says 302 = .ok (.aload_n 0, 1) := by decide +kernel
theorem d_Law_says_303 : decode b_Law_says 303 = .ok (.getfield 10, 3) := by decide +kernel
theorem d_Law_says_306 : decode b_Law_says 306 = .ok (.iload 4, 2) := by decide +kernel
theorem d_Law_says_308 : decode b_Law_says 308 = .ok (.iconst 3, 1) := by decide +kernel
theorem d_Law_says_309 : decode b_Law_says 309 = .ok (.invokestatic 146, 3) := by decide +kernel
theorem d_Law_says_312 : decode b_Law_says 312 = .ok (.iload_n 3, 1) := by decide +kernel
theorem d_Law_says_313 : decode b_Law_says 313 = .ok (.if_icmp .ne 60, 3) := by decide +kernel
theorem d_Law_says_316 : decode b_Law_says 316 = .ok (.aload_n 0, 1) := by decide +kernel
theorem d_Law_says_317 : decode b_Law_says 317 = .ok (.getfield 10, 3) := by decide +kernel
theorem d_Law_says_320 : decode b_Law_says 320 = .ok (.iload 4, 2) := by decide +kernel
theorem d_Law_says_322 : decode b_Law_says 322 = .ok (.iconst 4, 1) := by decide +kernel
theorem d_Law_says_323 : decode b_Law_says 323 = .ok (.invokestatic 146, 3) := by decide +kernel
theorem d_Law_says_326 : decode b_Law_says 326 = .ok (.iload_n 1, 1) := by decide +kernel
theorem d_Law_says_327 : decode b_Law_says 327 = .ok (.if_icmp .ne 46, 3) := by decide +kernel
theorem d_Law_says_330 : decode b_Law_says 330 = .ok (.aload_n 0, 1) := by decide +kernel
theorem d_Law_says_331 : decode b_Law_says 331 = .ok (.getfield 10, 3) := by decide +kernel
theorem d_Law_says_334 : decode b_Law_says 334 = .ok (.iload 4, 2) := by decide +kernel
theorem d_Law_says_336 : decode b_Law_says 336 = .ok (.bipush 7, 2) := by decide +kernel
theorem d_Law_says_338 : decode b_Law_says 338 = .ok (.invokestatic 146, 3) := by decide +kernel
theorem d_Law_says_341 : decode b_Law_says 341 = .ok (.iconst 1, 1) := by decide +kernel
theorem d_Law_says_342 : decode b_Law_says 342 = .ok (.iload_n 1, 1) := by decide +kernel
theorem d_Law_says_343 : decode b_Law_says 343 = .ok (.ishl, 1) := by decide +kernel
theorem d_Law_says_344 : decode b_Law_says 344 = .ok (.if_icmp .ne 29, 3) := by decide +kernel
theorem d_Law_says_347 : decode b_Law_says 347 = .ok (.aload_n 0, 1) := by decide +kernel
theorem d_Law_says_348 : decode b_Law_says 348 = .ok (.getfield 10, 3) := by decide +kernel
theorem d_Law_says_351 : decode b_Law_says 351 = .ok (.iload 4, 2) := by decide +kernel
theorem d_Law_says_353 : decode b_Law_says 353 = .ok (.iconst 5, 1) := by decide +kernel
theorem d_Law_says_354 : decode b_Law_says 354 = .ok (.invokestatic 146, 3) := by decide +kernel
theorem d_Law_says_357 : decode b_Law_says 357 = .ok (.aload_n 0, 1) := by decide +kernel
theorem d_Law_says_358 : decode b_Law_says 358 = .ok (.getfield 10, 3) := by decide +kernel
theorem d_Law_says_361 : decode b_Law_says 361 = .ok (.bipush 8, 2) := by decide +kernel
theorem d_Law_says_363 : decode b_Law_says 363 = .ok (.invokestatic 144, 3) := by decide +kernel
theorem d_Law_says_366 : decode b_Law_says 366 = .ok (.if_icmp .ne 7, 3) := by decide +kernel
theorem d_Law_says_369 : decode b_Law_says 369 = .ok (.iconst 1, 1) := by decide +kernel
theorem d_Law_says_370 : decode b_Law_says 370 = .ok (.goto 4, 3) := by decide +kernel
theorem d_Law_says_373 : decode b_Law_says 373 = .ok (.iconst 0, 1) := by decide +kernel
theorem d_Law_says_374 : decode b_Law_says 374 = .ok (.ireturn, 1) := by decide +kernel
def B_Law_says_43 (G : zLA) (x1 : Int32) (x2 : Int32) (x3 : Int32) (σ : zSt) : Option (Int32 × zSt) :=
  (F_Law_house x1 (13 : Int32) σ).bind fun r58 => bd2 (F_Law_tell x1 x3 σ) fun r60 σ61 => if x2 = (20 : Int32) then (if r60 = (-2 : Int32) then ((F_Law_house x1 (13 : Int32) σ61).bind fun r73 => if r73 = r58 then some ((1 : Int32), σ61) else some ((0 : Int32), σ61)) else some ((0 : Int32), σ61)) else (if r60 = x2 then ((F_Law_news x2 (2 : Int32) σ61).bind fun r63 => if r63 = x3 then ((F_Law_news x2 (6 : Int32) σ61).bind fun r65 => if r65 = ((1 : Int32) <<< (x1 &&& 31)) then ((F_Law_house x1 (13 : Int32) σ61).bind fun r67 => if r67 = (r58 + (1 : Int32)) then some ((1 : Int32), σ61) else some ((0 : Int32), σ61)) else some ((0 : Int32), σ61)) else some ((0 : Int32), σ61)) else some ((0 : Int32), σ61))
set_option maxHeartbeats 4000000 in
set_option maxRecDepth 100000 in
theorem w_Law_says_43 {l : Launch} {G : zLA} {p : Program} {e : Env} {s : State} {m : MethodId} {args : Array Value} {below : List Frame} {meth : Method} {c : Code} (C : zCx G p s m args meth c "VillageWavesLaw" b_Law_says 8 (some .boolean)) (hx : zxl G) (hm : zml G) {x1 : Int32} {x2 : Int32} {x3 : Int32} {σ : zSt} {r : Int32} {σ' : zSt} (hf : B_Law_says_43 G x1 x2 x3 σ = some (r, σ')) : zWV G p l e rm_Law_says s m args below meth c 8 0 0 (zQ G below args s rm_Law_says (some (.int r)) σ') 43 [(0, .ref (zad G 4 80)), (1, .int x1), (2, .int x2), (3, .int x3)] [] σ := by
  rw [B_Law_says_43] at hf
  refine z_aload_n C d_Law_says_43 0 rfl rfl ?_
  refine gf_Law_10 C hm rfl rfl d_Law_says_44 ?_
  refine z_iload_n C d_Law_says_47 1 rfl rfl ?_
  refine z_bipush C d_Law_says_48 zkb_13 ?_
  obtain ⟨r58, h57, hf⟩ := bd_s hf
  refine z_cHi C kh_Law_house (c_Law_house hx h57) rfl rfl (Nat.le_of_ble_eq_true rfl) ⟨(Nat.le_of_ble_eq_true rfl), (Nat.le_of_ble_eq_true rfl)⟩ ⟨(Nat.le_of_ble_eq_true rfl), (Nat.le_of_ble_eq_true rfl)⟩ d_Law_says_50 ?_
  refine z_istore C d_Law_says_53 (by decide) ?_
  refine z_lv (lv1 := [(4, .int r58), (0, .ref (zad G 4 80)), (1, .int x1), (2, .int x2), (3, .int x3)]) rfl ?_
  refine z_aload_n C d_Law_says_55 1 rfl rfl ?_
  refine gf_Law_10 C hm rfl rfl d_Law_says_56 ?_
  refine z_iload_n C d_Law_says_59 2 rfl rfl ?_
  refine z_iload_n C d_Law_says_60 4 rfl rfl ?_
  obtain ⟨r60, σ61, h59, hf⟩ := bd2_s hf
  refine z_cHi C kh_Law_tell (c_Law_tell hx h59) rfl rfl (Nat.le_of_ble_eq_true rfl) ⟨(Nat.le_of_ble_eq_true rfl), (Nat.le_of_ble_eq_true rfl)⟩ ⟨(Nat.le_of_ble_eq_true rfl), (Nat.le_of_ble_eq_true rfl)⟩ d_Law_says_61 ?_
  refine z_istore C d_Law_says_64 (by decide) ?_
  refine z_lv (lv1 := [(5, .int r60), (4, .int r58), (0, .ref (zad G 4 80)), (1, .int x1), (2, .int x2), (3, .int x3)]) rfl ?_
  refine z_iload_n C d_Law_says_66 4 rfl rfl ?_
  refine z_bipush C d_Law_says_67 zkb_20 ?_
  refine z_icmp_ne (tgt := 100) C d_Law_says_69 rfl (fun h76 => ?_) (fun h76 => ?_)
  · have hf := iff_f hf h76
    refine z_iload C d_Law_says_100 0 rfl ?_
    refine z_iload_n C d_Law_says_102 4 rfl rfl ?_
    refine z_icmp_ne (tgt := 156) C d_Law_says_103 rfl (fun h71 => ?_) (fun h71 => ?_)
    · have hf := iff_f hf h71
      refine z_iconst C d_Law_says_156 zki_0 ?_
      cases hf
      exact z_zret C rfl rfl (Nat.le_of_ble_eq_true rfl) (Nat.le_of_ble_eq_true rfl) d_Law_says_157
    · have hf := iff_t hf h71
      refine z_aload_n C d_Law_says_106 2 rfl rfl ?_
      refine gf_Law_10 C hm rfl rfl d_Law_says_107 ?_
      refine z_iload_n C d_Law_says_110 4 rfl rfl ?_
      refine z_iconst C d_Law_says_111 zki_2 ?_
      obtain ⟨r63, h62, hf⟩ := bd_s hf
      refine z_cHi C kh_Law_news (c_Law_news hx h62) rfl rfl (Nat.le_of_ble_eq_true rfl) ⟨(Nat.le_of_ble_eq_true rfl), (Nat.le_of_ble_eq_true rfl)⟩ ⟨(Nat.le_of_ble_eq_true rfl), (Nat.le_of_ble_eq_true rfl)⟩ d_Law_says_112 ?_
      refine z_iload_n C d_Law_says_115 5 rfl rfl ?_
      refine z_icmp_ne (tgt := 156) C d_Law_says_116 rfl (fun h70 => ?_) (fun h70 => ?_)
      · have hf := iff_f hf h70
        refine z_iconst C d_Law_says_156 zki_0 ?_
        cases hf
        exact z_zret C rfl rfl (Nat.le_of_ble_eq_true rfl) (Nat.le_of_ble_eq_true rfl) d_Law_says_157
      · have hf := iff_t hf h70
        refine z_aload_n C d_Law_says_119 2 rfl rfl ?_
        refine gf_Law_10 C hm rfl rfl d_Law_says_120 ?_
        refine z_iload_n C d_Law_says_123 4 rfl rfl ?_
        refine z_bipush C d_Law_says_124 zkb_6 ?_
        obtain ⟨r65, h64, hf⟩ := bd_s hf
        refine z_cHi C kh_Law_news (c_Law_news hx h64) rfl rfl (Nat.le_of_ble_eq_true rfl) ⟨(Nat.le_of_ble_eq_true rfl), (Nat.le_of_ble_eq_true rfl)⟩ ⟨(Nat.le_of_ble_eq_true rfl), (Nat.le_of_ble_eq_true rfl)⟩ d_Law_says_126 ?_
        refine z_iconst C d_Law_says_129 zki_1 ?_
        refine z_iload_n C d_Law_says_130 3 rfl rfl ?_
        refine z_ishl C d_Law_says_131 ?_
        refine z_icmp_ne (tgt := 156) C d_Law_says_132 rfl (fun h69 => ?_) (fun h69 => ?_)
        · have hf := iff_f hf h69
          refine z_iconst C d_Law_says_156 zki_0 ?_
          cases hf
          exact z_zret C rfl rfl (Nat.le_of_ble_eq_true rfl) (Nat.le_of_ble_eq_true rfl) d_Law_says_157
        · have hf := iff_t hf h69
          refine z_aload_n C d_Law_says_135 2 rfl rfl ?_
          refine gf_Law_10 C hm rfl rfl d_Law_says_136 ?_
          refine z_iload_n C d_Law_says_139 3 rfl rfl ?_
          refine z_bipush C d_Law_says_140 zkb_13 ?_
          obtain ⟨r67, h66, hf⟩ := bd_s hf
          refine z_cHi C kh_Law_house (c_Law_house hx h66) rfl rfl (Nat.le_of_ble_eq_true rfl) ⟨(Nat.le_of_ble_eq_true rfl), (Nat.le_of_ble_eq_true rfl)⟩ ⟨(Nat.le_of_ble_eq_true rfl), (Nat.le_of_ble_eq_true rfl)⟩ d_Law_says_142 ?_
          refine z_iload C d_Law_says_145 1 rfl ?_
          refine z_iconst C d_Law_says_147 zki_1 ?_
          refine z_iadd C d_Law_says_148 ?_
          refine z_icmp_ne (tgt := 156) C d_Law_says_149 rfl (fun h68 => ?_) (fun h68 => ?_)
          · have hf := iff_f hf h68
            refine z_iconst C d_Law_says_156 zki_0 ?_
            cases hf
            exact z_zret C rfl rfl (Nat.le_of_ble_eq_true rfl) (Nat.le_of_ble_eq_true rfl) d_Law_says_157
          · have hf := iff_t hf h68
            refine z_iconst C d_Law_says_152 zki_1 ?_
            refine z_goto (tgt := 157) C d_Law_says_153 rfl ?_
            cases hf
            exact z_zret C rfl rfl (Nat.le_of_ble_eq_true rfl) (Nat.le_of_ble_eq_true rfl) d_Law_says_157
  · have hf := iff_t hf h76
    refine z_iload C d_Law_says_72 0 rfl ?_
    refine z_bipush C d_Law_says_74 zkb_m2 ?_
    refine z_icmp_ne (tgt := 98) C d_Law_says_76 rfl (fun h75 => ?_) (fun h75 => ?_)
    · have hf := iff_f hf h75
      refine z_iconst C d_Law_says_98 zki_0 ?_
      cases hf
      exact z_zret C rfl rfl (Nat.le_of_ble_eq_true rfl) (Nat.le_of_ble_eq_true rfl) d_Law_says_99
    · have hf := iff_t hf h75
      refine z_aload_n C d_Law_says_79 2 rfl rfl ?_
      refine gf_Law_10 C hm rfl rfl d_Law_says_80 ?_
      refine z_iload_n C d_Law_says_83 3 rfl rfl ?_
      refine z_bipush C d_Law_says_84 zkb_13 ?_
      obtain ⟨r73, h72, hf⟩ := bd_s hf
      refine z_cHi C kh_Law_house (c_Law_house hx h72) rfl rfl (Nat.le_of_ble_eq_true rfl) ⟨(Nat.le_of_ble_eq_true rfl), (Nat.le_of_ble_eq_true rfl)⟩ ⟨(Nat.le_of_ble_eq_true rfl), (Nat.le_of_ble_eq_true rfl)⟩ d_Law_says_86 ?_
      refine z_iload C d_Law_says_89 1 rfl ?_
      refine z_icmp_ne (tgt := 98) C d_Law_says_91 rfl (fun h74 => ?_) (fun h74 => ?_)
      · have hf := iff_f hf h74
        refine z_iconst C d_Law_says_98 zki_0 ?_
        cases hf
        exact z_zret C rfl rfl (Nat.le_of_ble_eq_true rfl) (Nat.le_of_ble_eq_true rfl) d_Law_says_99
      · have hf := iff_t hf h74
        refine z_iconst C d_Law_says_94 zki_1 ?_
        refine z_goto (tgt := 99) C d_Law_says_95 rfl ?_
        cases hf
        exact z_zret C rfl rfl (Nat.le_of_ble_eq_true rfl) (Nat.le_of_ble_eq_true rfl) d_Law_says_99
def F_Law_says (G : zLA) (σ : zSt) : Option (Int32 × zSt) :=
  (F_Law_count (6 : Int32) σ).bind fun r2 => bd2 (F_Law_draw G r2 σ) fun r4 σ5 => (F_Law_count (7 : Int32) σ5).bind fun r7 => bd2 (F_Law_draw G (100 : Int32) σ5) fun r9 σ10 => bd2 (F_Law_draw G (2 : Int32) σ10) fun r12 σ13 => if r12 = 0 then B_Law_says_43 G r4 r7 r9 σ13 else (if r7 = 0 then B_Law_says_43 G r4 r7 r9 σ13 else (bd2 (F_Law_draw G r7 σ13) fun r15 σ16 => (F_Law_news r15 (7 : Int32) σ16).bind fun r18 => (F_Law_news r15 (4 : Int32) σ16).bind fun r20 => bd2 (F_Law_correct r4 r15 r9 σ16) fun r22 σ23 => (F_Law_news r15 (6 : Int32) σ23).bind fun r25 => if ((r25 >>> (r4 &&& 31)) &&& (1 : Int32)) = 0 then (if r22 = (-3 : Int32) then ((F_Law_news r15 (7 : Int32) σ23).bind fun r51 => if r51 = r18 then some ((1 : Int32), σ23) else some ((0 : Int32), σ23)) else some ((0 : Int32), σ23)) else (if r20 < 0 then ((F_Law_owes r4 r15 σ23).bind fun r27 => (F_Integer_bitCount r27).bind fun r29 => if r22 = r29 then ((F_Law_news r15 (3 : Int32) σ23).bind fun r31 => if r31 = r9 then ((F_Law_news r15 (4 : Int32) σ23).bind fun r33 => if r33 = r4 then ((F_Law_news r15 (7 : Int32) σ23).bind fun r35 => if r35 = ((1 : Int32) <<< (r4 &&& 31)) then ((F_Law_news r15 (5 : Int32) σ23).bind fun r37 => (F_Law_count (8 : Int32) σ23).bind fun r39 => if r37 = r39 then some ((1 : Int32), σ23) else some ((0 : Int32), σ23)) else some ((0 : Int32), σ23)) else some ((0 : Int32), σ23)) else some ((0 : Int32), σ23)) else some ((0 : Int32), σ23)) else (if r22 = (-4 : Int32) then ((F_Law_news r15 (7 : Int32) σ23).bind fun r46 => if r46 = r18 then some ((1 : Int32), σ23) else some ((0 : Int32), σ23)) else some ((0 : Int32), σ23)))))
set_option maxHeartbeats 4000000 in
set_option maxRecDepth 100000 in
theorem c_Law_says {l : Launch} {G : zLA} (hx : zxl G) (hm : zml G) {σ : zSt} {r : Int32} {σ' : zSt} (hf : F_Law_says G σ = some (r, σ')) : zM l G y_Law_says (zws y_Law_says b_Law_says 8 (some .boolean)) rm_Law_says [.ref (zad G 4 80)] σ (some (.int r)) σ' := by
  refine z_ofM (own := "VillageWavesLaw") (lv := [(0, .ref (zad G 4 80))]) (by decide +kernel) rfl rfl (Nat.le_of_ble_eq_true rfl) (fun p e s m args below meth c C => ?_)
  rw [F_Law_says] at hf
  refine z_aload_n C d_Law_says_0 0 rfl rfl ?_
  refine z_aload_n C d_Law_says_1 0 rfl rfl ?_
  refine gf_Law_10 C hm rfl rfl d_Law_says_2 ?_
  refine z_bipush C d_Law_says_5 zkb_6 ?_
  obtain ⟨r2, h1, hf⟩ := bd_s hf
  refine z_cHi C kh_Law_count (c_Law_count hx h1) rfl rfl (Nat.le_of_ble_eq_true rfl) ⟨(Nat.le_of_ble_eq_true rfl), (Nat.le_of_ble_eq_true rfl)⟩ ⟨(Nat.le_of_ble_eq_true rfl), (Nat.le_of_ble_eq_true rfl)⟩ d_Law_says_7 ?_
  obtain ⟨r4, σ5, h3, hf⟩ := bd2_s hf
  refine z_cVi C kl_Law_128 rfl (c_Law_draw hx hm h3) hm rfl rfl rfl (Nat.le_of_ble_eq_true rfl) ⟨(Nat.le_of_ble_eq_true rfl), (Nat.le_of_ble_eq_true rfl)⟩ ⟨(Nat.le_of_ble_eq_true rfl), (Nat.le_of_ble_eq_true rfl)⟩ d_Law_says_10 ?_
  refine z_istore_n C d_Law_says_13 rfl (by decide) ?_
  refine z_lv (lv1 := [(1, .int r4), (0, .ref (zad G 4 80))]) rfl ?_
  refine z_aload_n C d_Law_says_14 1 rfl rfl ?_
  refine gf_Law_10 C hm rfl rfl d_Law_says_15 ?_
  refine z_bipush C d_Law_says_18 zkb_7 ?_
  obtain ⟨r7, h6, hf⟩ := bd_s hf
  refine z_cHi C kh_Law_count (c_Law_count hx h6) rfl rfl (Nat.le_of_ble_eq_true rfl) ⟨(Nat.le_of_ble_eq_true rfl), (Nat.le_of_ble_eq_true rfl)⟩ ⟨(Nat.le_of_ble_eq_true rfl), (Nat.le_of_ble_eq_true rfl)⟩ d_Law_says_20 ?_
  refine z_istore_n C d_Law_says_23 rfl (by decide) ?_
  refine z_lv (lv1 := [(2, .int r7), (1, .int r4), (0, .ref (zad G 4 80))]) rfl ?_
  refine z_aload_n C d_Law_says_24 2 rfl rfl ?_
  refine z_bipush C d_Law_says_25 zkb_100 ?_
  obtain ⟨r9, σ10, h8, hf⟩ := bd2_s hf
  refine z_cVi C kl_Law_128 rfl (c_Law_draw hx hm h8) hm rfl rfl rfl (Nat.le_of_ble_eq_true rfl) ⟨(Nat.le_of_ble_eq_true rfl), (Nat.le_of_ble_eq_true rfl)⟩ ⟨(Nat.le_of_ble_eq_true rfl), (Nat.le_of_ble_eq_true rfl)⟩ d_Law_says_27 ?_
  refine z_istore_n C d_Law_says_30 rfl (by decide) ?_
  refine z_lv (lv1 := [(3, .int r9), (2, .int r7), (1, .int r4), (0, .ref (zad G 4 80))]) rfl ?_
  refine z_aload_n C d_Law_says_31 3 rfl rfl ?_
  refine z_iconst C d_Law_says_32 zki_2 ?_
  obtain ⟨r12, σ13, h11, hf⟩ := bd2_s hf
  refine z_cVi C kl_Law_128 rfl (c_Law_draw hx hm h11) hm rfl rfl rfl (Nat.le_of_ble_eq_true rfl) ⟨(Nat.le_of_ble_eq_true rfl), (Nat.le_of_ble_eq_true rfl)⟩ ⟨(Nat.le_of_ble_eq_true rfl), (Nat.le_of_ble_eq_true rfl)⟩ d_Law_says_33 ?_
  refine z_if_eq (tgt := 43) C d_Law_says_36 rfl (fun h56 => ?_) (fun h56 => ?_)
  · have hf := iff_t hf h56
    exact z_sub [3, 2, 1, 0] rfl (w_Law_says_43 C hx hm hf)
  · have hf := iff_f hf h56
    refine z_iload_n C d_Law_says_39 1 rfl rfl ?_
    refine z_if_ne (tgt := 158) C d_Law_says_40 rfl (fun h55 => ?_) (fun h55 => ?_)
    · have hf := iff_f hf h55
      refine z_aload_n C d_Law_says_158 3 rfl rfl ?_
      refine z_iload_n C d_Law_says_159 1 rfl rfl ?_
      obtain ⟨r15, σ16, h14, hf⟩ := bd2_s hf
      refine z_cVi C kl_Law_128 rfl (c_Law_draw hx hm h14) hm rfl rfl rfl (Nat.le_of_ble_eq_true rfl) ⟨(Nat.le_of_ble_eq_true rfl), (Nat.le_of_ble_eq_true rfl)⟩ ⟨(Nat.le_of_ble_eq_true rfl), (Nat.le_of_ble_eq_true rfl)⟩ d_Law_says_160 ?_
      refine z_istore C d_Law_says_163 (by decide) ?_
      refine z_lv (lv1 := [(4, .int r15), (3, .int r9), (2, .int r7), (1, .int r4), (0, .ref (zad G 4 80))]) rfl ?_
      refine z_aload_n C d_Law_says_165 4 rfl rfl ?_
      refine gf_Law_10 C hm rfl rfl d_Law_says_166 ?_
      refine z_iload C d_Law_says_169 0 rfl ?_
      refine z_bipush C d_Law_says_171 zkb_7 ?_
      obtain ⟨r18, h17, hf⟩ := bd_s hf
      refine z_cHi C kh_Law_news (c_Law_news hx h17) rfl rfl (Nat.le_of_ble_eq_true rfl) ⟨(Nat.le_of_ble_eq_true rfl), (Nat.le_of_ble_eq_true rfl)⟩ ⟨(Nat.le_of_ble_eq_true rfl), (Nat.le_of_ble_eq_true rfl)⟩ d_Law_says_173 ?_
      refine z_istore C d_Law_says_176 (by decide) ?_
      refine z_lv (lv1 := [(5, .int r18), (4, .int r15), (3, .int r9), (2, .int r7), (1, .int r4), (0, .ref (zad G 4 80))]) rfl ?_
      refine z_aload_n C d_Law_says_178 5 rfl rfl ?_
      refine gf_Law_10 C hm rfl rfl d_Law_says_179 ?_
      refine z_iload C d_Law_says_182 1 rfl ?_
      refine z_iconst C d_Law_says_184 zki_4 ?_
      obtain ⟨r20, h19, hf⟩ := bd_s hf
      refine z_cHi C kh_Law_news (c_Law_news hx h19) rfl rfl (Nat.le_of_ble_eq_true rfl) ⟨(Nat.le_of_ble_eq_true rfl), (Nat.le_of_ble_eq_true rfl)⟩ ⟨(Nat.le_of_ble_eq_true rfl), (Nat.le_of_ble_eq_true rfl)⟩ d_Law_says_185 ?_
      refine z_istore C d_Law_says_188 (by decide) ?_
      refine z_lv (lv1 := [(6, .int r20), (5, .int r18), (4, .int r15), (3, .int r9), (2, .int r7), (1, .int r4), (0, .ref (zad G 4 80))]) rfl ?_
      refine z_aload_n C d_Law_says_190 6 rfl rfl ?_
      refine gf_Law_10 C hm rfl rfl d_Law_says_191 ?_
      refine z_iload_n C d_Law_says_194 5 rfl rfl ?_
      refine z_iload C d_Law_says_195 2 rfl ?_
      refine z_iload_n C d_Law_says_197 3 rfl rfl ?_
      obtain ⟨r22, σ23, h21, hf⟩ := bd2_s hf
      refine z_cHi C kh_Law_correct (c_Law_correct hx h21) rfl rfl (Nat.le_of_ble_eq_true rfl) ⟨(Nat.le_of_ble_eq_true rfl), (Nat.le_of_ble_eq_true rfl)⟩ ⟨(Nat.le_of_ble_eq_true rfl), (Nat.le_of_ble_eq_true rfl)⟩ d_Law_says_198 ?_
      refine z_istore C d_Law_says_201 (by decide) ?_
      refine z_lv (lv1 := [(7, .int r22), (6, .int r20), (5, .int r18), (4, .int r15), (3, .int r9), (2, .int r7), (1, .int r4), (0, .ref (zad G 4 80))]) rfl ?_
      refine z_aload_n C d_Law_says_203 7 rfl rfl ?_
      refine gf_Law_10 C hm rfl rfl d_Law_says_204 ?_
      refine z_iload C d_Law_says_207 3 rfl ?_
      refine z_bipush C d_Law_says_209 zkb_6 ?_
      obtain ⟨r25, h24, hf⟩ := bd_s hf
      refine z_cHi C kh_Law_news (c_Law_news hx h24) rfl rfl (Nat.le_of_ble_eq_true rfl) ⟨(Nat.le_of_ble_eq_true rfl), (Nat.le_of_ble_eq_true rfl)⟩ ⟨(Nat.le_of_ble_eq_true rfl), (Nat.le_of_ble_eq_true rfl)⟩ d_Law_says_211 ?_
      refine z_iload_n C d_Law_says_214 6 rfl rfl ?_
      refine z_ishr C d_Law_says_215 ?_
      refine z_iconst C d_Law_says_216 zki_1 ?_
      refine z_iand C d_Law_says_217 ?_
      refine z_if_ne (tgt := 250) C d_Law_says_218 rfl (fun h54 => ?_) (fun h54 => ?_)
      · have hf := iff_f hf h54
        refine z_iload C d_Law_says_250 1 rfl ?_
        refine z_if_lt (tgt := 284) C d_Law_says_252 rfl (fun h49 => ?_) (fun h49 => ?_)
        · have hf := iff_t hf h49
          refine z_iload C d_Law_says_284 0 rfl ?_
          refine z_aload_n C d_Law_says_286 7 rfl rfl ?_
          refine gf_Law_10 C hm rfl rfl d_Law_says_287 ?_
          refine z_iload_n C d_Law_says_290 6 rfl rfl ?_
          refine z_iload C d_Law_says_291 3 rfl ?_
          obtain ⟨r27, h26, hf⟩ := bd_s hf
          refine z_cHi C kh_Law_owes (c_Law_owes hx h26) rfl rfl (Nat.le_of_ble_eq_true rfl) ⟨(Nat.le_of_ble_eq_true rfl), (Nat.le_of_ble_eq_true rfl)⟩ ⟨(Nat.le_of_ble_eq_true rfl), (Nat.le_of_ble_eq_true rfl)⟩ d_Law_says_293 ?_
          obtain ⟨r29, h28, hf⟩ := bd_s hf
          refine z_cSi C kl_Law_167 (c_Integer_bitCount h28) rfl rfl (Nat.le_of_ble_eq_true rfl) ⟨(Nat.le_of_ble_eq_true rfl), (Nat.le_of_ble_eq_true rfl)⟩ ⟨(Nat.le_of_ble_eq_true rfl), (Nat.le_of_ble_eq_true rfl)⟩ d_Law_says_296 ?_
          refine z_icmp_ne (tgt := 373) C d_Law_says_299 rfl (fun h44 => ?_) (fun h44 => ?_)
          · have hf := iff_f hf h44
            refine z_iconst C d_Law_says_373 zki_0 ?_
            cases hf
            exact z_zret C rfl rfl (Nat.le_of_ble_eq_true rfl) (Nat.le_of_ble_eq_true rfl) d_Law_says_374
          · have hf := iff_t hf h44
            refine z_aload_n C d_Law_says_302 7 rfl rfl ?_
            refine gf_Law_10 C hm rfl rfl d_Law_says_303 ?_
            refine z_iload C d_Law_says_306 3 rfl ?_
            refine z_iconst C d_Law_says_308 zki_3 ?_
            obtain ⟨r31, h30, hf⟩ := bd_s hf
            refine z_cHi C kh_Law_news (c_Law_news hx h30) rfl rfl (Nat.le_of_ble_eq_true rfl) ⟨(Nat.le_of_ble_eq_true rfl), (Nat.le_of_ble_eq_true rfl)⟩ ⟨(Nat.le_of_ble_eq_true rfl), (Nat.le_of_ble_eq_true rfl)⟩ d_Law_says_309 ?_
            refine z_iload_n C d_Law_says_312 4 rfl rfl ?_
            refine z_icmp_ne (tgt := 373) C d_Law_says_313 rfl (fun h43 => ?_) (fun h43 => ?_)
            · have hf := iff_f hf h43
              refine z_iconst C d_Law_says_373 zki_0 ?_
              cases hf
              exact z_zret C rfl rfl (Nat.le_of_ble_eq_true rfl) (Nat.le_of_ble_eq_true rfl) d_Law_says_374
            · have hf := iff_t hf h43
              refine z_aload_n C d_Law_says_316 7 rfl rfl ?_
              refine gf_Law_10 C hm rfl rfl d_Law_says_317 ?_
              refine z_iload C d_Law_says_320 3 rfl ?_
              refine z_iconst C d_Law_says_322 zki_4 ?_
              obtain ⟨r33, h32, hf⟩ := bd_s hf
              refine z_cHi C kh_Law_news (c_Law_news hx h32) rfl rfl (Nat.le_of_ble_eq_true rfl) ⟨(Nat.le_of_ble_eq_true rfl), (Nat.le_of_ble_eq_true rfl)⟩ ⟨(Nat.le_of_ble_eq_true rfl), (Nat.le_of_ble_eq_true rfl)⟩ d_Law_says_323 ?_
              refine z_iload_n C d_Law_says_326 6 rfl rfl ?_
              refine z_icmp_ne (tgt := 373) C d_Law_says_327 rfl (fun h42 => ?_) (fun h42 => ?_)
              · have hf := iff_f hf h42
                refine z_iconst C d_Law_says_373 zki_0 ?_
                cases hf
                exact z_zret C rfl rfl (Nat.le_of_ble_eq_true rfl) (Nat.le_of_ble_eq_true rfl) d_Law_says_374
              · have hf := iff_t hf h42
                refine z_aload_n C d_Law_says_330 7 rfl rfl ?_
                refine gf_Law_10 C hm rfl rfl d_Law_says_331 ?_
                refine z_iload C d_Law_says_334 3 rfl ?_
                refine z_bipush C d_Law_says_336 zkb_7 ?_
                obtain ⟨r35, h34, hf⟩ := bd_s hf
                refine z_cHi C kh_Law_news (c_Law_news hx h34) rfl rfl (Nat.le_of_ble_eq_true rfl) ⟨(Nat.le_of_ble_eq_true rfl), (Nat.le_of_ble_eq_true rfl)⟩ ⟨(Nat.le_of_ble_eq_true rfl), (Nat.le_of_ble_eq_true rfl)⟩ d_Law_says_338 ?_
                refine z_iconst C d_Law_says_341 zki_1 ?_
                refine z_iload_n C d_Law_says_342 6 rfl rfl ?_
                refine z_ishl C d_Law_says_343 ?_
                refine z_icmp_ne (tgt := 373) C d_Law_says_344 rfl (fun h41 => ?_) (fun h41 => ?_)
                · have hf := iff_f hf h41
                  refine z_iconst C d_Law_says_373 zki_0 ?_
                  cases hf
                  exact z_zret C rfl rfl (Nat.le_of_ble_eq_true rfl) (Nat.le_of_ble_eq_true rfl) d_Law_says_374
                · have hf := iff_t hf h41
                  refine z_aload_n C d_Law_says_347 7 rfl rfl ?_
                  refine gf_Law_10 C hm rfl rfl d_Law_says_348 ?_
                  refine z_iload C d_Law_says_351 3 rfl ?_
                  refine z_iconst C d_Law_says_353 zki_5 ?_
                  obtain ⟨r37, h36, hf⟩ := bd_s hf
                  refine z_cHi C kh_Law_news (c_Law_news hx h36) rfl rfl (Nat.le_of_ble_eq_true rfl) ⟨(Nat.le_of_ble_eq_true rfl), (Nat.le_of_ble_eq_true rfl)⟩ ⟨(Nat.le_of_ble_eq_true rfl), (Nat.le_of_ble_eq_true rfl)⟩ d_Law_says_354 ?_
                  refine z_aload_n C d_Law_says_357 7 rfl rfl ?_
                  refine gf_Law_10 C hm rfl rfl d_Law_says_358 ?_
                  refine z_bipush C d_Law_says_361 zkb_8 ?_
                  obtain ⟨r39, h38, hf⟩ := bd_s hf
                  refine z_cHi C kh_Law_count (c_Law_count hx h38) rfl rfl (Nat.le_of_ble_eq_true rfl) ⟨(Nat.le_of_ble_eq_true rfl), (Nat.le_of_ble_eq_true rfl)⟩ ⟨(Nat.le_of_ble_eq_true rfl), (Nat.le_of_ble_eq_true rfl)⟩ d_Law_says_363 ?_
                  refine z_icmp_ne (tgt := 373) C d_Law_says_366 rfl (fun h40 => ?_) (fun h40 => ?_)
                  · have hf := iff_f hf h40
                    refine z_iconst C d_Law_says_373 zki_0 ?_
                    cases hf
                    exact z_zret C rfl rfl (Nat.le_of_ble_eq_true rfl) (Nat.le_of_ble_eq_true rfl) d_Law_says_374
                  · have hf := iff_t hf h40
                    refine z_iconst C d_Law_says_369 zki_1 ?_
                    refine z_goto (tgt := 374) C d_Law_says_370 rfl ?_
                    cases hf
                    exact z_zret C rfl rfl (Nat.le_of_ble_eq_true rfl) (Nat.le_of_ble_eq_true rfl) d_Law_says_374
        · have hf := iff_f hf h49
          refine z_iload C d_Law_says_255 0 rfl ?_
          refine z_bipush C d_Law_says_257 zkb_m4 ?_
          refine z_icmp_ne (tgt := 282) C d_Law_says_259 rfl (fun h48 => ?_) (fun h48 => ?_)
          · have hf := iff_f hf h48
            refine z_iconst C d_Law_says_282 zki_0 ?_
            cases hf
            exact z_zret C rfl rfl (Nat.le_of_ble_eq_true rfl) (Nat.le_of_ble_eq_true rfl) d_Law_says_283
          · have hf := iff_t hf h48
            refine z_aload_n C d_Law_says_262 7 rfl rfl ?_
            refine gf_Law_10 C hm rfl rfl d_Law_says_263 ?_
            refine z_iload C d_Law_says_266 3 rfl ?_
            refine z_bipush C d_Law_says_268 zkb_7 ?_
            obtain ⟨r46, h45, hf⟩ := bd_s hf
            refine z_cHi C kh_Law_news (c_Law_news hx h45) rfl rfl (Nat.le_of_ble_eq_true rfl) ⟨(Nat.le_of_ble_eq_true rfl), (Nat.le_of_ble_eq_true rfl)⟩ ⟨(Nat.le_of_ble_eq_true rfl), (Nat.le_of_ble_eq_true rfl)⟩ d_Law_says_270 ?_
            refine z_iload C d_Law_says_273 2 rfl ?_
            refine z_icmp_ne (tgt := 282) C d_Law_says_275 rfl (fun h47 => ?_) (fun h47 => ?_)
            · have hf := iff_f hf h47
              refine z_iconst C d_Law_says_282 zki_0 ?_
              cases hf
              exact z_zret C rfl rfl (Nat.le_of_ble_eq_true rfl) (Nat.le_of_ble_eq_true rfl) d_Law_says_283
            · have hf := iff_t hf h47
              refine z_iconst C d_Law_says_278 zki_1 ?_
              refine z_goto (tgt := 283) C d_Law_says_279 rfl ?_
              cases hf
              exact z_zret C rfl rfl (Nat.le_of_ble_eq_true rfl) (Nat.le_of_ble_eq_true rfl) d_Law_says_283
      · have hf := iff_t hf h54
        refine z_iload C d_Law_says_221 0 rfl ?_
        refine z_bipush C d_Law_says_223 zkb_m3 ?_
        refine z_icmp_ne (tgt := 248) C d_Law_says_225 rfl (fun h53 => ?_) (fun h53 => ?_)
        · have hf := iff_f hf h53
          refine z_iconst C d_Law_says_248 zki_0 ?_
          cases hf
          exact z_zret C rfl rfl (Nat.le_of_ble_eq_true rfl) (Nat.le_of_ble_eq_true rfl) d_Law_says_249
        · have hf := iff_t hf h53
          refine z_aload_n C d_Law_says_228 7 rfl rfl ?_
          refine gf_Law_10 C hm rfl rfl d_Law_says_229 ?_
          refine z_iload C d_Law_says_232 3 rfl ?_
          refine z_bipush C d_Law_says_234 zkb_7 ?_
          obtain ⟨r51, h50, hf⟩ := bd_s hf
          refine z_cHi C kh_Law_news (c_Law_news hx h50) rfl rfl (Nat.le_of_ble_eq_true rfl) ⟨(Nat.le_of_ble_eq_true rfl), (Nat.le_of_ble_eq_true rfl)⟩ ⟨(Nat.le_of_ble_eq_true rfl), (Nat.le_of_ble_eq_true rfl)⟩ d_Law_says_236 ?_
          refine z_iload C d_Law_says_239 2 rfl ?_
          refine z_icmp_ne (tgt := 248) C d_Law_says_241 rfl (fun h52 => ?_) (fun h52 => ?_)
          · have hf := iff_f hf h52
            refine z_iconst C d_Law_says_248 zki_0 ?_
            cases hf
            exact z_zret C rfl rfl (Nat.le_of_ble_eq_true rfl) (Nat.le_of_ble_eq_true rfl) d_Law_says_249
          · have hf := iff_t hf h52
            refine z_iconst C d_Law_says_244 zki_1 ?_
            refine z_goto (tgt := 249) C d_Law_says_245 rfl ?_
            cases hf
            exact z_zret C rfl rfl (Nat.le_of_ble_eq_true rfl) (Nat.le_of_ble_eq_true rfl) d_Law_says_249
    · have hf := iff_t hf h55
      exact z_sub [3, 2, 1, 0] rfl (w_Law_says_43 C hx hm hf)
