abbrev rm_Law_queuesAreSo : Room := { frames := 9, cells := 0, slots := 0, locals := 163 }
theorem d_Law_queuesAreSo_0 : decode b_Law_queuesAreSo 0 = .ok (.iconst 0, 1) := by decide +kernel
theorem d_Law_queuesAreSo_1 : decode b_Law_queuesAreSo 1 = .ok (.istore_n 1, 1) := by decide +kernel
theorem d_Law_queuesAreSo_2 : decode b_Law_queuesAreSo 2 = .ok (.iconst 0, 1) := by decide +kernel
theorem d_Law_queuesAreSo_3 : decode b_Law_queuesAreSo 3 = .ok (.istore_n 2, 1) := by decide +kernel
theorem d_Law_queuesAreSo_4 : decode b_Law_queuesAreSo 4 = .ok (.iload_n 2, 1) := by decide +kernel
theorem d_Law_queuesAreSo_5 : decode b_Law_queuesAreSo 5 = .ok (.aload_n 0, 1) := by decide +kernel
theorem d_Law_queuesAreSo_6 : decode b_Law_queuesAreSo 6 = .ok (.getfield 10, 3) := by decide +kernel
theorem d_Law_queuesAreSo_9 : decode b_Law_queuesAreSo 9 = .ok (.bipush 6, 2) := by decide +kernel
theorem d_Law_queuesAreSo_11 : decode b_Law_queuesAreSo 11 = .ok (.invokestatic 144, 3) := by decide +kernel
theorem d_Law_queuesAreSo_14 : decode b_Law_queuesAreSo 14 = .ok (.if_icmp .ge 342, 3) := by decide +kernel
theorem d_Law_queuesAreSo_17 : decode b_Law_queuesAreSo 17 = .ok (.aload_n 0, 1) := by decide +kernel
theorem d_Law_queuesAreSo_18 : decode b_Law_queuesAreSo 18 = .ok (.getfield 10, 3) := by decide +kernel
theorem d_Law_queuesAreSo_21 : decode b_Law_queuesAreSo 21 = .ok (.iload_n 2, 1) := by decide +kernel
theorem d_Law_queuesAreSo_22 : decode b_Law_queuesAreSo 22 = .ok (.bipush 13, 2) := by decide +kernel
theorem d_Law_queuesAreSo_24 : decode b_Law_queuesAreSo 24 = .ok (.invokestatic 152, 3) := by decide +kernel
theorem d_Law_queuesAreSo_27 : decode b_Law_queuesAreSo 27 = .ok (.istore_n 3, 1) := by decide +kernel
theorem d_Law_queuesAreSo_28 : decode b_Law_queuesAreSo 28 = .ok (.iload_n 1, 1) := by decide +kernel
theorem d_Law_queuesAreSo_29 : decode b_Law_queuesAreSo 29 = .ok (.iload_n 3, 1) := by decide +kernel
theorem d_Law_queuesAreSo_30 : decode b_Law_queuesAreSo 30 = .ok (.iadd, 1) := by decide +kernel
theorem d_Law_queuesAreSo_31 : decode b_Law_queuesAreSo 31 = .ok (.istore_n 1, 1) := by decide +kernel
theorem d_Law_queuesAreSo_32 : decode b_Law_queuesAreSo 32 = .ok (.iconst 0, 1) := by decide +kernel
theorem d_Law_queuesAreSo_33 : decode b_Law_queuesAreSo 33 = .ok (.istore 4, 2) := by decide +kernel
theorem d_Law_queuesAreSo_35 : decode b_Law_queuesAreSo 35 = .ok (.iload 4, 2) := by decide +kernel
theorem d_Law_queuesAreSo_37 : decode b_Law_queuesAreSo 37 = .ok (.iload_n 3, 1) := by decide +kernel
theorem d_Law_queuesAreSo_38 : decode b_Law_queuesAreSo 38 = .ok (.if_icmp .ge 312, 3) := by decide +kernel
theorem d_Law_queuesAreSo_41 : decode b_Law_queuesAreSo 41 = .ok (.aload_n 0, 1) := by decide +kernel
theorem d_Law_queuesAreSo_42 : decode b_Law_queuesAreSo 42 = .ok (.getfield 10, 3) := by decide +kernel
theorem d_Law_queuesAreSo_45 : decode b_Law_queuesAreSo 45 = .ok (.iload_n 2, 1) := by decide +kernel
theorem d_Law_queuesAreSo_46 : decode b_Law_queuesAreSo 46 = .ok (.iload 4, 2) := by decide +kernel
theorem d_Law_queuesAreSo_48 : decode b_Law_queuesAreSo 48 = .ok (.iconst 0, 1) := by decide +kernel
theorem d_Law_queuesAreSo_49 : decode b_Law_queuesAreSo 49 = .ok (.invokestatic 154, 3) := by decide +kernel
theorem d_Law_queuesAreSo_52 : decode b_Law_queuesAreSo 52 = .ok (.istore 5, 2) := by decide +kernel
theorem d_Law_queuesAreSo_54 : decode b_Law_queuesAreSo 54 = .ok (.aload_n 0, 1) := by decide +kernel
theorem d_Law_queuesAreSo_55 : decode b_Law_queuesAreSo 55 = .ok (.getfield 10, 3) := by decide +kernel
theorem d_Law_queuesAreSo_58 : decode b_Law_queuesAreSo 58 = .ok (.iload_n 2, 1) := by decide +kernel
theorem d_Law_queuesAreSo_59 : decode b_Law_queuesAreSo 59 = .ok (.iload 4, 2) := by decide +kernel
theorem d_Law_queuesAreSo_61 : decode b_Law_queuesAreSo 61 = .ok (.iconst 1, 1) := by decide +kernel
theorem d_Law_queuesAreSo_62 : decode b_Law_queuesAreSo 62 = .ok (.invokestatic 154, 3) := by decide +kernel
theorem d_Law_queuesAreSo_65 : decode b_Law_queuesAreSo 65 = .ok (.istore 6, 2) := by decide +kernel
theorem d_Law_queuesAreSo_67 : decode b_Law_queuesAreSo 67 = .ok (.aload_n 0, 1) := by decide +kernel
theorem d_Law_queuesAreSo_68 : decode b_Law_queuesAreSo 68 = .ok (.getfield 10, 3) := by decide +kernel
theorem d_Law_queuesAreSo_71 : decode b_Law_queuesAreSo 71 = .ok (.iload_n 2, 1) := by decide +kernel
theorem d_Law_queuesAreSo_72 : decode b_Law_queuesAreSo 72 = .ok (.iload 4, 2) := by decide +kernel
theorem d_Law_queuesAreSo_74 : decode b_Law_queuesAreSo 74 = .ok (.iconst 2, 1) := by decide +kernel
theorem d_Law_queuesAreSo_75 : decode b_Law_queuesAreSo 75 = .ok (.invokestatic 154, 3) := by decide +kernel
theorem d_Law_queuesAreSo_78 : decode b_Law_queuesAreSo 78 = .ok (.istore 7, 2) := by decide +kernel
theorem d_Law_queuesAreSo_80 : decode b_Law_queuesAreSo 80 = .ok (.aload_n 0, 1) := by decide +kernel
theorem d_Law_queuesAreSo_81 : decode b_Law_queuesAreSo 81 = .ok (.getfield 10, 3) := by decide +kernel
theorem d_Law_queuesAreSo_84 : decode b_Law_queuesAreSo 84 = .ok (.iload_n 2, 1) := by decide +kernel
theorem d_Law_queuesAreSo_85 : decode b_Law_queuesAreSo 85 = .ok (.iload 4, 2) := by decide +kernel
theorem d_Law_queuesAreSo_87 : decode b_Law_queuesAreSo 87 = .ok (.iconst 3, 1) := by decide +kernel
theorem d_Law_queuesAreSo_88 : decode b_Law_queuesAreSo 88 = .ok (.invokestatic 154, 3) := by decide +kernel
theorem d_Law_queuesAreSo_91 : decode b_Law_queuesAreSo 91 = .ok (.istore 8, 2) := by decide +kernel
theorem d_Law_queuesAreSo_93 : decode b_Law_queuesAreSo 93 = .ok (.iload 7, 2) := by decide +kernel
theorem d_Law_queuesAreSo_95 : decode b_Law_queuesAreSo 95 = .ok (.aload_n 0, 1) := by decide +kernel
theorem d_Law_queuesAreSo_96 : decode b_Law_queuesAreSo 96 = .ok (.getfield 10, 3) := by decide +kernel
theorem d_Law_queuesAreSo_99 : decode b_Law_queuesAreSo 99 = .ok (.bipush 8, 2) := by decide +kernel
theorem d_Law_queuesAreSo_101 : decode b_Law_queuesAreSo 101 = .ok (.invokestatic 144, 3) := by decide +kernel
theorem d_Law_queuesAreSo_104 : decode b_Law_queuesAreSo 104 = .ok (.if_icmp .gt 49, 3) := by decide +kernel
theorem d_Law_queuesAreSo_107 : decode b_Law_queuesAreSo 107 = .ok (.aload_n 0, 1) := by decide +kernel
theorem d_Law_queuesAreSo_108 : decode b_Law_queuesAreSo 108 = .ok (.getfield 10, 3) := by decide +kernel
theorem d_Law_queuesAreSo_111 : decode b_Law_queuesAreSo 111 = .ok (.iload_n 2, 1) := by decide +kernel
theorem d_Law_queuesAreSo_112 : decode b_Law_queuesAreSo 112 = .ok (.bipush 10, 2) := by decide +kernel
theorem d_Law_queuesAreSo_114 : decode b_Law_queuesAreSo 114 = .ok (.iload 5, 2) := by decide +kernel
theorem d_Law_queuesAreSo_116 : decode b_Law_queuesAreSo 116 = .ok (.iadd, 1) := by decide +kernel
theorem d_Law_queuesAreSo_117 : decode b_Law_queuesAreSo 117 = .ok (.invokestatic 152, 3) := by decide +kernel
theorem d_Law_queuesAreSo_120 : decode b_Law_queuesAreSo 120 = .ok (.iload 6, 2) := by decide +kernel
theorem d_Law_queuesAreSo_122 : decode b_Law_queuesAreSo 122 = .ok (.ishr, 1) := by decide +kernel
theorem d_Law_queuesAreSo_123 : decode b_Law_queuesAreSo 123 = .ok (.iconst 1, 1) := by decide +kernel
theorem d_Law_queuesAreSo_124 : decode b_Law_queuesAreSo 124 = .ok (.iand, 1) := by decide +kernel
theorem d_Law_queuesAreSo_125 : decode b_Law_queuesAreSo 125 = .ok (.ifCond .eq 28, 3) := by decide +kernel
theorem d_Law_queuesAreSo_128 : decode b_Law_queuesAreSo 128 = .ok (.iload 8, 2) := by decide +kernel
theorem d_Law_queuesAreSo_130 : decode b_Law_queuesAreSo 130 = .ok (.iconst (-1), 1) := by decide +kernel
theorem d_Law_queuesAreSo_131 : decode b_Law_queuesAreSo 131 = .ok (.if_icmp .ne 7, 3) := by decide +kernel
theorem d_Law_queuesAreSo_134 : decode b_Law_queuesAreSo 134 = .ok (.iconst 1, 1) := by decide +kernel
theorem d_Law_queuesAreSo_135 : decode b_Law_queuesAreSo 135 = .ok (.goto 4, 3) := by decide +kernel
theorem d_Law_queuesAreSo_138 : decode b_Law_queuesAreSo 138 = .ok (.iconst 0, 1) := by decide +kernel
theorem d_Law_queuesAreSo_139 : decode b_Law_queuesAreSo 139 = .ok (.iload 5, 2) := by decide +kernel
theorem d_Law_queuesAreSo_141 : decode b_Law_queuesAreSo 141 = .ok (.iconst 1, 1) := by decide +kernel
theorem d_Law_queuesAreSo_142 : decode b_Law_queuesAreSo 142 = .ok (.if_icmp .ne 7, 3) := by decide +kernel
theorem d_Law_queuesAreSo_145 : decode b_Law_queuesAreSo 145 = .ok (.iconst 1, 1) := by decide +kernel
theorem d_Law_queuesAreSo_146 : decode b_Law_queuesAreSo 146 = .ok (.goto 4, 3) := by decide +kernel
theorem d_Law_queuesAreSo_149 : decode b_Law_queuesAreSo 149 = .ok (.iconst 0, 1) := by decide +kernel
theorem d_Law_queuesAreSo_150 : decode b_Law_queuesAreSo 150 = .ok (.if_icmp .eq 5, 3) := by decide +kernel
theorem d_Law_queuesAreSo_153 : decode b_Law_queuesAreSo 153 = .ok (.iconst 0, 1) := by decide +kernel
theorem d_Law_queuesAreSo_154 : decode b_Law_queuesAreSo 154 = .ok (.ireturn, 1) := by decide +kernel
theorem d_Law_queuesAreSo_155 : decode b_Law_queuesAreSo 155 = .ok (.iload 5, 2) := by decide +kernel
theorem d_Law_queuesAreSo_157 : decode b_Law_queuesAreSo 157 = .ok (.iconst 1, 1) := by decide +kernel
theorem d_Law_queuesAreSo_158 : decode b_Law_queuesAreSo 158 = .ok (.if_icmp .ne 59, 3) := by decide +kernel
theorem d_Law_queuesAreSo_161 : decode b_Law_queuesAreSo 161 = .ok (.aload_n 0, 1) := by decide +kernel
theorem d_Law_queuesAreSo_162 : decode b_Law_queuesAreSo 162 = .ok (.getfield 10, 3) := by decide +kernel
theorem d_Law_queuesAreSo_165 : decode b_Law_queuesAreSo 165 = .ok (.iload_n 2, 1) := by decide +kernel
theorem d_Law_queuesAreSo_166 : decode b_Law_queuesAreSo 166 = .ok (.iload 6, 2) := by decide +kernel
theorem d_Law_queuesAreSo_168 : decode b_Law_queuesAreSo 168 = .ok (.invokestatic 150, 3) := by decide +kernel
theorem d_Law_queuesAreSo_171 : decode b_Law_queuesAreSo 171 = .ok (.ifCond .eq 85, 3) := by decide +kernel
theorem d_Law_queuesAreSo_174 : decode b_Law_queuesAreSo 174 = .ok (.aload_n 0, 1) := by decide +kernel
theorem d_Law_queuesAreSo_175 : decode b_Law_queuesAreSo 175 = .ok (.getfield 10, 3) := by decide +kernel
theorem d_Law_queuesAreSo_178 : decode b_Law_queuesAreSo 178 = .ok (.iload_n 2, 1) := by decide +kernel
theorem d_Law_queuesAreSo_179 : decode b_Law_queuesAreSo 179 = .ok (.iload 4, 2) := by decide +kernel
theorem d_Law_queuesAreSo_181 : decode b_Law_queuesAreSo 181 = .ok (.iconst 4, 1) := by decide +kernel
theorem d_Law_queuesAreSo_182 : decode b_Law_queuesAreSo 182 = .ok (.invokestatic 154, 3) := by decide +kernel
theorem d_Law_queuesAreSo_185 : decode b_Law_queuesAreSo 185 = .ok (.aload_n 0, 1) := by decide +kernel
theorem d_Law_queuesAreSo_186 : decode b_Law_queuesAreSo 186 = .ok (.getfield 10, 3) := by decide +kernel
theorem d_Law_queuesAreSo_189 : decode b_Law_queuesAreSo 189 = .ok (.iload_n 2, 1) := by decide +kernel
theorem d_Law_queuesAreSo_190 : decode b_Law_queuesAreSo 190 = .ok (.iload 6, 2) := by decide +kernel
theorem d_Law_queuesAreSo_192 : decode b_Law_queuesAreSo 192 = .ok (.invokestatic 150, 3) := by decide +kernel
theorem d_Law_queuesAreSo_195 : decode b_Law_queuesAreSo 195 = .ok (.aload_n 0, 1) := by decide +kernel
theorem d_Law_queuesAreSo_196 : decode b_Law_queuesAreSo 196 = .ok (.getfield 10, 3) := by decide +kernel
theorem d_Law_queuesAreSo_199 : decode b_Law_queuesAreSo 199 = .ok (.iload_n 2, 1) := by decide +kernel
theorem d_Law_queuesAreSo_200 : decode b_Law_queuesAreSo 200 = .ok (.bipush 14, 2) := by decide +kernel
theorem d_Law_queuesAreSo_202 : decode b_Law_queuesAreSo 202 = .ok (.invokestatic 152, 3) := by decide +kernel
theorem d_Law_queuesAreSo_205 : decode b_Law_queuesAreSo 205 = .ok (.iand, 1) := by decide +kernel
theorem d_Law_queuesAreSo_206 : decode b_Law_queuesAreSo 206 = .ok (.ifCond .eq 7, 3) := by decide +kernel
theorem d_Law_queuesAreSo_209 : decode b_Law_queuesAreSo 209 = .ok (.iconst 1, 1) := by decide +kernel
theorem d_Law_queuesAreSo_210 : decode b_Law_queuesAreSo 210 = .ok (.goto 4, 3) := by decide +kernel
theorem d_Law_queuesAreSo_213 : decode b_Law_queuesAreSo 213 = .ok (.iconst 0, 1) := by decide +kernel
theorem d_Law_queuesAreSo_214 : decode b_Law_queuesAreSo 214 = .ok (.if_icmp .ne 42, 3) := by decide +kernel
theorem d_Law_queuesAreSo_217 : decode b_Law_queuesAreSo 217 = .ok (.iload 5, 2) := by decide +kernel
theorem d_Law_queuesAreSo_219 : decode b_Law_queuesAreSo 219 = .ok (.ifCond .ne 39, 3) := by decide +kernel
theorem d_Law_queuesAreSo_222 : decode b_Law_queuesAreSo 222 = .ok (.aload_n 0, 1) := by decide +kernel
theorem d_Law_queuesAreSo_223 : decode b_Law_queuesAreSo 223 = .ok (.getfield 10, 3) := by decide +kernel
theorem d_Law_queuesAreSo_226 : decode b_Law_queuesAreSo 226 = .ok (.iload_n 2, 1) := by decide +kernel
theorem d_Law_queuesAreSo_227 : decode b_Law_queuesAreSo 227 = .ok (.iload 4, 2) := by decide +kernel
theorem d_Law_queuesAreSo_229 : decode b_Law_queuesAreSo 229 = .ok (.iconst 4, 1) := by decide +kernel
theorem d_Law_queuesAreSo_230 : decode b_Law_queuesAreSo 230 = .ok (.invokestatic 154, 3) := by decide +kernel
theorem d_Law_queuesAreSo_233 : decode b_Law_queuesAreSo 233 = .ok (.iconst 1, 1) := by decide +kernel
theorem d_Law_queuesAreSo_234 : decode b_Law_queuesAreSo 234 = .ok (.if_icmp .ne 22, 3) := by decide +kernel
theorem d_Law_queuesAreSo_237 : decode b_Law_queuesAreSo 237 = .ok (.aload_n 0, 1) := by decide +kernel
theorem d_Law_queuesAreSo_238 : decode b_Law_queuesAreSo 238 = .ok (.getfield 10, 3) := by decide +kernel
theorem d_Law_queuesAreSo_241 : decode b_Law_queuesAreSo 241 = .ok (.iload_n 2, 1) := by decide +kernel
theorem d_Law_queuesAreSo_242 : decode b_Law_queuesAreSo 242 = .ok (.bipush 11, 2) := by decide +kernel
theorem d_Law_queuesAreSo_244 : decode b_Law_queuesAreSo 244 = .ok (.invokestatic 152, 3) := by decide +kernel
theorem d_Law_queuesAreSo_247 : decode b_Law_queuesAreSo 247 = .ok (.iload 6, 2) := by decide +kernel
theorem d_Law_queuesAreSo_249 : decode b_Law_queuesAreSo 249 = .ok (.ishr, 1) := by decide +kernel
theorem d_Law_queuesAreSo_250 : decode b_Law_queuesAreSo 250 = .ok (.iconst 1, 1) := by decide +kernel
theorem d_Law_queuesAreSo_251 : decode b_Law_queuesAreSo 251 = .ok (.iand, 1) := by decide +kernel
theorem d_Law_queuesAreSo_252 : decode b_Law_queuesAreSo 252 = .ok (.iconst 1, 1) := by decide +kernel
theorem d_Law_queuesAreSo_253 : decode b_Law_queuesAreSo 253 = .ok (.if_icmp .ne 5, 3) := by decide +kernel
theorem d_Law_queuesAreSo_256 : decode b_Law_queuesAreSo 256 = .ok (.iconst 0, 1) := by decide +kernel
theorem d_Law_queuesAreSo_257 : decode b_Law_queuesAreSo 257 = .ok (.ireturn, 1) := by decide +kernel
theorem d_Law_queuesAreSo_258 : decode b_Law_queuesAreSo 258 = .ok (.iload 4, 2) := by decide +kernel
theorem d_Law_queuesAreSo_260 : decode b_Law_queuesAreSo 260 = .ok (.ifCond .ne 6, 3) := by decide +kernel
theorem d_Law_queuesAreSo_263 : decode b_Law_queuesAreSo 263 = .ok (.goto 81, 3) := by decide +kernel
theorem d_Law_queuesAreSo_266 : decode b_Law_queuesAreSo 266 = .ok (.aload_n 0, 1) := by decide +kernel
theorem d_Law_queuesAreSo_267 : decode b_Law_queuesAreSo 267 = .ok (.getfield 10, 3) := by decide +kernel
theorem d_Law_queuesAreSo_270 : decode b_Law_queuesAreSo 270 = .ok (.iload_n 2, 1) := by decide +kernel
theorem d_Law_queuesAreSo_271 : decode b_Law_queuesAreSo 271 = .ok (.iload 4, 2) := by decide +kernel
theorem d_Law_queuesAreSo_273 : decode b_Law_queuesAreSo 273 = .ok (.iconst 1, 1) := by decide +kernel
theorem d_Law_queuesAreSo_274 : decode b_Law_queuesAreSo 274 = .ok (.isub, 1) := by decide +kernel
theorem d_Law_queuesAreSo_275 : decode b_Law_queuesAreSo 275 = .ok (.iconst 0, 1) := by decide +kernel
theorem d_Law_queuesAreSo_276 : decode b_Law_queuesAreSo 276 = .ok (.invokestatic 154, 3) := by decide +kernel
theorem d_Law_queuesAreSo_279 : decode b_Law_queuesAreSo 279 = .ok (.istore 9, 2) := by decide +kernel
theorem d_Law_queuesAreSo_281 : decode b_Law_queuesAreSo 281 = .ok (.aload_n 0, 1) := by decide +kernel
theorem d_Law_queuesAreSo_282 : decode b_Law_queuesAreSo 282 = .ok (.getfield 10, 3) := by decide +kernel
theorem d_Law_queuesAreSo_285 : decode b_Law_queuesAreSo 285 = .ok (.iload_n 2, 1) := by decide +kernel
theorem d_Law_queuesAreSo_286 : decode b_Law_queuesAreSo 286 = .ok (.iload 4, 2) := by decide +kernel
theorem d_Law_queuesAreSo_288 : decode b_Law_queuesAreSo 288 = .ok (.iconst 1, 1) := by decide +kernel
theorem d_Law_queuesAreSo_289 : decode b_Law_queuesAreSo 289 = .ok (.isub, 1) := by decide +kernel
theorem d_Law_queuesAreSo_290 : decode b_Law_queuesAreSo 290 = .ok (.iconst 2, 1) := by decide +kernel
theorem d_Law_queuesAreSo_291 : decode b_Law_queuesAreSo 291 = .ok (.invokestatic 154, 3) := by decide +kernel
theorem d_Law_queuesAreSo_294 : decode b_Law_queuesAreSo 294 = .ok (.istore 10, 2) := by decide +kernel
theorem d_Law_queuesAreSo_296 : decode b_Law_queuesAreSo 296 = .ok (.iload 9, 2) := by decide +kernel
theorem d_Law_queuesAreSo_298 : decode b_Law_queuesAreSo 298 = .ok (.iload 5, 2) := by decide +kernel
theorem d_Law_queuesAreSo_300 : decode b_Law_queuesAreSo 300 = .ok (.if_icmp .lt 42, 3) := by decide +kernel
theorem d_Law_queuesAreSo_303 : decode b_Law_queuesAreSo 303 = .ok (.iload 9, 2) := by decide +kernel
theorem d_Law_queuesAreSo_305 : decode b_Law_queuesAreSo 305 = .ok (.iload 5, 2) := by decide +kernel
theorem d_Law_queuesAreSo_307 : decode b_Law_queuesAreSo 307 = .ok (.if_icmp .ne 37, 3) := by decide +kernel
theorem d_Law_queuesAreSo_310 : decode b_Law_queuesAreSo 310 = .ok (.iload 10, 2) := by decide +kernel
theorem d_Law_queuesAreSo_312 : decode b_Law_queuesAreSo 312 = .ok (.iload 7, 2) := by decide +kernel
theorem d_Law_queuesAreSo_314 : decode b_Law_queuesAreSo 314 = .ok (.if_icmp .gt 28, 3) := by decide +kernel
theorem d_Law_queuesAreSo_317 : decode b_Law_queuesAreSo 317 = .ok (.iload 10, 2) := by decide +kernel
theorem d_Law_queuesAreSo_319 : decode b_Law_queuesAreSo 319 = .ok (.iload 7, 2) := by decide +kernel
theorem d_Law_queuesAreSo_321 : decode b_Law_queuesAreSo 321 = .ok (.if_icmp .ne 23, 3) := by decide +kernel
theorem d_Law_queuesAreSo_324 : decode b_Law_queuesAreSo 324 = .ok (.aload_n 0, 1) := by decide +kernel
theorem d_Law_queuesAreSo_325 : decode b_Law_queuesAreSo 325 = .ok (.getfield 10, 3) := by decide +kernel
theorem d_Law_queuesAreSo_328 : decode b_Law_queuesAreSo 328 = .ok (.iload_n 2, 1) := by decide +kernel
theorem d_Law_queuesAreSo_329 : decode b_Law_queuesAreSo 329 = .ok (.iload 4, 2) := by decide +kernel
theorem d_Law_queuesAreSo_331 : decode b_Law_queuesAreSo 331 = .ok (.iconst 1, 1) := by decide +kernel
theorem d_Law_queuesAreSo_332 : decode b_Law_queuesAreSo 332 = .ok (.isub, 1) := by decide +kernel
theorem d_Law_queuesAreSo_333 : decode b_Law_queuesAreSo 333 = .ok (.iconst 1, 1) := by decide +kernel
theorem d_Law_queuesAreSo_334 : decode b_Law_queuesAreSo 334 = .ok (.invokestatic 154, 3) := by decide +kernel
theorem d_Law_queuesAreSo_337 : decode b_Law_queuesAreSo 337 = .ok (.iload 6, 2) := by decide +kernel
theorem d_Law_queuesAreSo_339 : decode b_Law_queuesAreSo 339 = .ok (.if_icmp .lt 5, 3) := by decide +kernel
theorem d_Law_queuesAreSo_342 : decode b_Law_queuesAreSo 342 = .ok (.iconst 0, 1) := by decide +kernel
theorem d_Law_queuesAreSo_343 : decode b_Law_queuesAreSo 343 = .ok (.ireturn, 1) := by decide +kernel
theorem d_Law_queuesAreSo_344 : decode b_Law_queuesAreSo 344 = .ok (.iinc 4 1, 3) := by decide +kernel
theorem d_Law_queuesAreSo_347 : decode b_Law_queuesAreSo 347 = .ok (.goto (-312), 3) := by decide +kernel
theorem d_Law_queuesAreSo_350 : decode b_Law_queuesAreSo 350 = .ok (.iinc 2 1, 3) := by decide +kernel
theorem d_Law_queuesAreSo_353 : decode b_Law_queuesAreSo 353 = .ok (.goto (-349), 3) := by decide +kernel
theorem d_Law_queuesAreSo_356 : decode b_Law_queuesAreSo 356 = .ok (.iload_n 1, 1) := by decide +kernel
theorem d_Law_queuesAreSo_357 : decode b_Law_queuesAreSo 357 = .ok (.aload_n 0, 1) := by decide +kernel
theorem d_Law_queuesAreSo_358 : decode b_Law_queuesAreSo 358 = .ok (.getfield 10, 3) := by decide +kernel
theorem d_Law_queuesAreSo_361 : decode b_Law_queuesAreSo 361 = .ok (.bipush 13, 2) := by decide +kernel
theorem d_Law_queuesAreSo_363 : decode b_Law_queuesAreSo 363 = .ok (.invokestatic 144, 3) := by decide +kernel
theorem d_Law_queuesAreSo_366 : decode b_Law_queuesAreSo 366 = .ok (.if_icmp .ne 7, 3) := by decide +kernel
theorem d_Law_queuesAreSo_369 : decode b_Law_queuesAreSo 369 = .ok (.iconst 1, 1) := by decide +kernel
theorem d_Law_queuesAreSo_370 : decode b_Law_queuesAreSo 370 = .ok (.goto 4, 3) := by decide +kernel
theorem d_Law_queuesAreSo_373 : decode b_Law_queuesAreSo 373 = .ok (.iconst 0, 1) := by decide +kernel
theorem d_Law_queuesAreSo_374 : decode b_Law_queuesAreSo 374 = .ok (.ireturn, 1) := by decide +kernel
def L_Law_queuesAreSo (G : zLA) (σ : zSt) : Nat → Nat → Int32 → Int32 → Int32 → Int32 → Int32 → Int32 → Int32 → Int32 → Int32 → Option (Int32)
  | 0, _, _, _, _, _, _, _, _, _, _ => none
  | n + 1, 0, x1, x2, x3, x4, x5, x6, x7, y0, y1 => (F_Law_count (6 : Int32) σ).bind fun r2 => if r2 ≤ x2 then ((F_Law_count (13 : Int32) σ).bind fun r4 => if x1 = r4 then some (1 : Int32) else some (0 : Int32)) else ((F_Law_house x2 (13 : Int32) σ).bind fun r7 => L_Law_queuesAreSo G σ n 1 (x1 + r7) x2 r7 (0 : Int32) 0 0 0 0 0)
  | n + 1, 1, x1, x2, x3, x4, x5, x6, x7, y0, y1 => if x3 ≤ x4 then L_Law_queuesAreSo G σ n 0 x1 (x2 + (1 : Int32)) 0 0 0 0 0 0 0 else ((F_Law_entry x2 x4 (0 : Int32) σ).bind fun r10 => (F_Law_entry x2 x4 (1 : Int32) σ).bind fun r12 => (F_Law_entry x2 x4 (2 : Int32) σ).bind fun r14 => (F_Law_entry x2 x4 (3 : Int32) σ).bind fun r16 => (F_Law_count (8 : Int32) σ).bind fun r18 => if r18 < r14 then some (0 : Int32) else ((F_Law_house x2 ((10 : Int32) + r10) σ).bind fun r20 => if ((r20 >>> (r12 &&& 31)) &&& (1 : Int32)) = 0 then some (0 : Int32) else (if r16 = (-1 : Int32) then (if r10 = (1 : Int32) then L_Law_queuesAreSo G σ n 2 x1 x2 x3 x4 r10 r12 r14 (1 : Int32) (1 : Int32) else L_Law_queuesAreSo G σ n 2 x1 x2 x3 x4 r10 r12 r14 (1 : Int32) (0 : Int32)) else (if r10 = (1 : Int32) then L_Law_queuesAreSo G σ n 2 x1 x2 x3 x4 r10 r12 r14 (0 : Int32) (1 : Int32) else L_Law_queuesAreSo G σ n 2 x1 x2 x3 x4 r10 r12 r14 (0 : Int32) (0 : Int32)))))
  | n + 1, 2, x1, x2, x3, x4, x5, x6, x7, y0, y1 => if y0 = y1 then (if x5 = (1 : Int32) then ((F_Law_owes x2 x6 σ).bind fun r28 => if r28 = 0 then some (0 : Int32) else ((F_Law_entry x2 x4 (4 : Int32) σ).bind fun r30 => (F_Law_owes x2 x6 σ).bind fun r32 => (F_Law_house x2 (14 : Int32) σ).bind fun r34 => if (r32 &&& r34) = 0 then (if r30 = (0 : Int32) then L_Law_queuesAreSo G σ n 3 x1 x2 x3 x4 x5 x6 x7 0 0 else some (0 : Int32)) else (if r30 = (1 : Int32) then L_Law_queuesAreSo G σ n 3 x1 x2 x3 x4 x5 x6 x7 0 0 else some (0 : Int32)))) else L_Law_queuesAreSo G σ n 3 x1 x2 x3 x4 x5 x6 x7 0 0) else some (0 : Int32)
  | n + 1, 3, x1, x2, x3, x4, x5, x6, x7, y0, y1 => if x5 = 0 then ((F_Law_entry x2 x4 (4 : Int32) σ).bind fun r42 => if r42 = (1 : Int32) then ((F_Law_house x2 (11 : Int32) σ).bind fun r44 => if ((r44 >>> (x6 &&& 31)) &&& (1 : Int32)) = (1 : Int32) then some (0 : Int32) else L_Law_queuesAreSo G σ n 4 x1 x2 x3 x4 x5 x6 x7 0 0) else some (0 : Int32)) else L_Law_queuesAreSo G σ n 4 x1 x2 x3 x4 x5 x6 x7 0 0
  | n + 1, 4, x1, x2, x3, x4, x5, x6, x7, y0, y1 => if x4 = 0 then L_Law_queuesAreSo G σ n 1 x1 x2 x3 (x4 + (1 : Int32)) 0 0 0 0 0 else ((F_Law_entry x2 (x4 - (1 : Int32)) (0 : Int32) σ).bind fun r49 => (F_Law_entry x2 (x4 - (1 : Int32)) (2 : Int32) σ).bind fun r51 => if r49 < x5 then some (0 : Int32) else (if r49 = x5 then (if x7 < r51 then some (0 : Int32) else (if r51 = x7 then ((F_Law_entry x2 (x4 - (1 : Int32)) (1 : Int32) σ).bind fun r53 => if r53 < x6 then L_Law_queuesAreSo G σ n 1 x1 x2 x3 (x4 + (1 : Int32)) 0 0 0 0 0 else some (0 : Int32)) else L_Law_queuesAreSo G σ n 1 x1 x2 x3 (x4 + (1 : Int32)) 0 0 0 0 0)) else L_Law_queuesAreSo G σ n 1 x1 x2 x3 (x4 + (1 : Int32)) 0 0 0 0 0))
  | _ + 1, _, _, _, _, _, _, _, _, _, _ => none
theorem e_Law_queuesAreSo_0 (G : zLA) (σ : zSt) (n : Nat) (x1 : Int32) (x2 : Int32) (x3 : Int32) (x4 : Int32) (x5 : Int32) (x6 : Int32) (x7 : Int32) (y0 : Int32) (y1 : Int32) : L_Law_queuesAreSo G σ (n + 1) 0 x1 x2 x3 x4 x5 x6 x7 y0 y1 = ((F_Law_count (6 : Int32) σ).bind fun r2 => if r2 ≤ x2 then ((F_Law_count (13 : Int32) σ).bind fun r4 => if x1 = r4 then some (1 : Int32) else some (0 : Int32)) else ((F_Law_house x2 (13 : Int32) σ).bind fun r7 => L_Law_queuesAreSo G σ n 1 (x1 + r7) x2 r7 (0 : Int32) 0 0 0 0 0)) := rfl
theorem e_Law_queuesAreSo_1 (G : zLA) (σ : zSt) (n : Nat) (x1 : Int32) (x2 : Int32) (x3 : Int32) (x4 : Int32) (x5 : Int32) (x6 : Int32) (x7 : Int32) (y0 : Int32) (y1 : Int32) : L_Law_queuesAreSo G σ (n + 1) 1 x1 x2 x3 x4 x5 x6 x7 y0 y1 = (if x3 ≤ x4 then L_Law_queuesAreSo G σ n 0 x1 (x2 + (1 : Int32)) 0 0 0 0 0 0 0 else ((F_Law_entry x2 x4 (0 : Int32) σ).bind fun r10 => (F_Law_entry x2 x4 (1 : Int32) σ).bind fun r12 => (F_Law_entry x2 x4 (2 : Int32) σ).bind fun r14 => (F_Law_entry x2 x4 (3 : Int32) σ).bind fun r16 => (F_Law_count (8 : Int32) σ).bind fun r18 => if r18 < r14 then some (0 : Int32) else ((F_Law_house x2 ((10 : Int32) + r10) σ).bind fun r20 => if ((r20 >>> (r12 &&& 31)) &&& (1 : Int32)) = 0 then some (0 : Int32) else (if r16 = (-1 : Int32) then (if r10 = (1 : Int32) then L_Law_queuesAreSo G σ n 2 x1 x2 x3 x4 r10 r12 r14 (1 : Int32) (1 : Int32) else L_Law_queuesAreSo G σ n 2 x1 x2 x3 x4 r10 r12 r14 (1 : Int32) (0 : Int32)) else (if r10 = (1 : Int32) then L_Law_queuesAreSo G σ n 2 x1 x2 x3 x4 r10 r12 r14 (0 : Int32) (1 : Int32) else L_Law_queuesAreSo G σ n 2 x1 x2 x3 x4 r10 r12 r14 (0 : Int32) (0 : Int32)))))) := rfl
theorem e_Law_queuesAreSo_2 (G : zLA) (σ : zSt) (n : Nat) (x1 : Int32) (x2 : Int32) (x3 : Int32) (x4 : Int32) (x5 : Int32) (x6 : Int32) (x7 : Int32) (y0 : Int32) (y1 : Int32) : L_Law_queuesAreSo G σ (n + 1) 2 x1 x2 x3 x4 x5 x6 x7 y0 y1 = (if y0 = y1 then (if x5 = (1 : Int32) then ((F_Law_owes x2 x6 σ).bind fun r28 => if r28 = 0 then some (0 : Int32) else ((F_Law_entry x2 x4 (4 : Int32) σ).bind fun r30 => (F_Law_owes x2 x6 σ).bind fun r32 => (F_Law_house x2 (14 : Int32) σ).bind fun r34 => if (r32 &&& r34) = 0 then (if r30 = (0 : Int32) then L_Law_queuesAreSo G σ n 3 x1 x2 x3 x4 x5 x6 x7 0 0 else some (0 : Int32)) else (if r30 = (1 : Int32) then L_Law_queuesAreSo G σ n 3 x1 x2 x3 x4 x5 x6 x7 0 0 else some (0 : Int32)))) else L_Law_queuesAreSo G σ n 3 x1 x2 x3 x4 x5 x6 x7 0 0) else some (0 : Int32)) := rfl
theorem e_Law_queuesAreSo_3 (G : zLA) (σ : zSt) (n : Nat) (x1 : Int32) (x2 : Int32) (x3 : Int32) (x4 : Int32) (x5 : Int32) (x6 : Int32) (x7 : Int32) (y0 : Int32) (y1 : Int32) : L_Law_queuesAreSo G σ (n + 1) 3 x1 x2 x3 x4 x5 x6 x7 y0 y1 = (if x5 = 0 then ((F_Law_entry x2 x4 (4 : Int32) σ).bind fun r42 => if r42 = (1 : Int32) then ((F_Law_house x2 (11 : Int32) σ).bind fun r44 => if ((r44 >>> (x6 &&& 31)) &&& (1 : Int32)) = (1 : Int32) then some (0 : Int32) else L_Law_queuesAreSo G σ n 4 x1 x2 x3 x4 x5 x6 x7 0 0) else some (0 : Int32)) else L_Law_queuesAreSo G σ n 4 x1 x2 x3 x4 x5 x6 x7 0 0) := rfl
theorem e_Law_queuesAreSo_4 (G : zLA) (σ : zSt) (n : Nat) (x1 : Int32) (x2 : Int32) (x3 : Int32) (x4 : Int32) (x5 : Int32) (x6 : Int32) (x7 : Int32) (y0 : Int32) (y1 : Int32) : L_Law_queuesAreSo G σ (n + 1) 4 x1 x2 x3 x4 x5 x6 x7 y0 y1 = (if x4 = 0 then L_Law_queuesAreSo G σ n 1 x1 x2 x3 (x4 + (1 : Int32)) 0 0 0 0 0 else ((F_Law_entry x2 (x4 - (1 : Int32)) (0 : Int32) σ).bind fun r49 => (F_Law_entry x2 (x4 - (1 : Int32)) (2 : Int32) σ).bind fun r51 => if r49 < x5 then some (0 : Int32) else (if r49 = x5 then (if x7 < r51 then some (0 : Int32) else (if r51 = x7 then ((F_Law_entry x2 (x4 - (1 : Int32)) (1 : Int32) σ).bind fun r53 => if r53 < x6 then L_Law_queuesAreSo G σ n 1 x1 x2 x3 (x4 + (1 : Int32)) 0 0 0 0 0 else some (0 : Int32)) else L_Law_queuesAreSo G σ n 1 x1 x2 x3 (x4 + (1 : Int32)) 0 0 0 0 0)) else L_Law_queuesAreSo G σ n 1 x1 x2 x3 (x4 + (1 : Int32)) 0 0 0 0 0))) := rfl
set_option maxHeartbeats 4000000 in
set_option maxRecDepth 100000 in
theorem w_Law_queuesAreSo {l : Launch} {G : zLA} {p : Program} {e : Env} {s : State} {m : MethodId} {args : Array Value} {below : List Frame} {meth : Method} {c : Code} (C : zCx G p s m args meth c "VillageWavesLaw" b_Law_queuesAreSo 11 (some .boolean)) (hx : zxl G) (hm : zml G) {σ : zSt} {r : Int32} : ∀ n : Nat, (∀ (x1 : Int32) (x2 : Int32) (x3 : Int32) (x4 : Int32) (x5 : Int32) (x6 : Int32) (x7 : Int32) (y0 : Int32) (y1 : Int32), L_Law_queuesAreSo G σ n 0 x1 x2 x3 x4 x5 x6 x7 y0 y1 = some r → zWV G p l e rm_Law_queuesAreSo s m args below meth c 11 0 0 (zQ G below args s rm_Law_queuesAreSo (some (.int r)) σ) 4 [(0, .ref (zad G 4 80)), (1, .int x1), (2, .int x2)] [] σ) ∧ (∀ (x1 : Int32) (x2 : Int32) (x3 : Int32) (x4 : Int32) (x5 : Int32) (x6 : Int32) (x7 : Int32) (y0 : Int32) (y1 : Int32), L_Law_queuesAreSo G σ n 1 x1 x2 x3 x4 x5 x6 x7 y0 y1 = some r → zWV G p l e rm_Law_queuesAreSo s m args below meth c 11 0 0 (zQ G below args s rm_Law_queuesAreSo (some (.int r)) σ) 35 [(0, .ref (zad G 4 80)), (1, .int x1), (2, .int x2), (3, .int x3), (4, .int x4)] [] σ) ∧ (∀ (x1 : Int32) (x2 : Int32) (x3 : Int32) (x4 : Int32) (x5 : Int32) (x6 : Int32) (x7 : Int32) (y0 : Int32) (y1 : Int32), L_Law_queuesAreSo G σ n 2 x1 x2 x3 x4 x5 x6 x7 y0 y1 = some r → zWV G p l e rm_Law_queuesAreSo s m args below meth c 11 0 0 (zQ G below args s rm_Law_queuesAreSo (some (.int r)) σ) 150 [(0, .ref (zad G 4 80)), (1, .int x1), (2, .int x2), (3, .int x3), (4, .int x4), (5, .int x5), (6, .int x6), (7, .int x7)] [.int y1, .int y0] σ) ∧ (∀ (x1 : Int32) (x2 : Int32) (x3 : Int32) (x4 : Int32) (x5 : Int32) (x6 : Int32) (x7 : Int32) (y0 : Int32) (y1 : Int32), L_Law_queuesAreSo G σ n 3 x1 x2 x3 x4 x5 x6 x7 y0 y1 = some r → zWV G p l e rm_Law_queuesAreSo s m args below meth c 11 0 0 (zQ G below args s rm_Law_queuesAreSo (some (.int r)) σ) 217 [(0, .ref (zad G 4 80)), (1, .int x1), (2, .int x2), (3, .int x3), (4, .int x4), (5, .int x5), (6, .int x6), (7, .int x7)] [] σ) ∧ (∀ (x1 : Int32) (x2 : Int32) (x3 : Int32) (x4 : Int32) (x5 : Int32) (x6 : Int32) (x7 : Int32) (y0 : Int32) (y1 : Int32), L_Law_queuesAreSo G σ n 4 x1 x2 x3 x4 x5 x6 x7 y0 y1 = some r → zWV G p l e rm_Law_queuesAreSo s m args below meth c 11 0 0 (zQ G below args s rm_Law_queuesAreSo (some (.int r)) σ) 258 [(0, .ref (zad G 4 80)), (1, .int x1), (2, .int x2), (3, .int x3), (4, .int x4), (5, .int x5), (6, .int x6), (7, .int x7)] [] σ) := by
  intro n
  induction n with
  | zero => exact ⟨fun _ _ _ _ _ _ _ _ _ hf => (by cases hf), fun _ _ _ _ _ _ _ _ _ hf => (by cases hf), fun _ _ _ _ _ _ _ _ _ hf => (by cases hf), fun _ _ _ _ _ _ _ _ _ hf => (by cases hf), fun _ _ _ _ _ _ _ _ _ hf => (by cases hf)⟩
  | succ n ih =>
    refine ⟨?_, ?_, ?_, ?_, ?_⟩
    · intro x1 x2 x3 x4 x5 x6 x7 y0 y1 hf
      rw [e_Law_queuesAreSo_0] at hf
      refine z_iload_n C d_Law_queuesAreSo_4 2 rfl rfl ?_
      refine z_aload_n C d_Law_queuesAreSo_5 0 rfl rfl ?_
      refine gf_Law_10 C hm rfl rfl d_Law_queuesAreSo_6 ?_
      refine z_bipush C d_Law_queuesAreSo_9 zkb_6 ?_
      obtain ⟨r2, h1, hf⟩ := bd_s hf
      refine z_cHi C kh_Law_count (c_Law_count hx h1) rfl rfl (Nat.le_of_ble_eq_true rfl) ⟨(Nat.le_of_ble_eq_true rfl), (Nat.le_of_ble_eq_true rfl)⟩ ⟨(Nat.le_of_ble_eq_true rfl), (Nat.le_of_ble_eq_true rfl)⟩ d_Law_queuesAreSo_11 ?_
      refine z_icmp_ge (tgt := 356) C d_Law_queuesAreSo_14 rfl (fun h8 => ?_) (fun h8 => ?_)
      · have hf := iff_t hf h8
        refine z_iload_n C d_Law_queuesAreSo_356 1 rfl rfl ?_
        refine z_aload_n C d_Law_queuesAreSo_357 0 rfl rfl ?_
        refine gf_Law_10 C hm rfl rfl d_Law_queuesAreSo_358 ?_
        refine z_bipush C d_Law_queuesAreSo_361 zkb_13 ?_
        obtain ⟨r4, h3, hf⟩ := bd_s hf
        refine z_cHi C kh_Law_count (c_Law_count hx h3) rfl rfl (Nat.le_of_ble_eq_true rfl) ⟨(Nat.le_of_ble_eq_true rfl), (Nat.le_of_ble_eq_true rfl)⟩ ⟨(Nat.le_of_ble_eq_true rfl), (Nat.le_of_ble_eq_true rfl)⟩ d_Law_queuesAreSo_363 ?_
        refine z_icmp_ne (tgt := 373) C d_Law_queuesAreSo_366 rfl (fun h5 => ?_) (fun h5 => ?_)
        · have hf := iff_f hf h5
          refine z_iconst C d_Law_queuesAreSo_373 zki_0 ?_
          cases hf
          exact z_zret C rfl rfl (Nat.le_of_ble_eq_true rfl) (Nat.le_of_ble_eq_true rfl) d_Law_queuesAreSo_374
        · have hf := iff_t hf h5
          refine z_iconst C d_Law_queuesAreSo_369 zki_1 ?_
          refine z_goto (tgt := 374) C d_Law_queuesAreSo_370 rfl ?_
          cases hf
          exact z_zret C rfl rfl (Nat.le_of_ble_eq_true rfl) (Nat.le_of_ble_eq_true rfl) d_Law_queuesAreSo_374
      · have hf := iff_f hf h8
        refine z_aload_n C d_Law_queuesAreSo_17 0 rfl rfl ?_
        refine gf_Law_10 C hm rfl rfl d_Law_queuesAreSo_18 ?_
        refine z_iload_n C d_Law_queuesAreSo_21 2 rfl rfl ?_
        refine z_bipush C d_Law_queuesAreSo_22 zkb_13 ?_
        obtain ⟨r7, h6, hf⟩ := bd_s hf
        refine z_cHi C kh_Law_house (c_Law_house hx h6) rfl rfl (Nat.le_of_ble_eq_true rfl) ⟨(Nat.le_of_ble_eq_true rfl), (Nat.le_of_ble_eq_true rfl)⟩ ⟨(Nat.le_of_ble_eq_true rfl), (Nat.le_of_ble_eq_true rfl)⟩ d_Law_queuesAreSo_24 ?_
        refine z_istore_n C d_Law_queuesAreSo_27 rfl (by decide) ?_
        refine z_lv (lv1 := [(3, .int r7), (0, .ref (zad G 4 80)), (1, .int x1), (2, .int x2)]) rfl ?_
        refine z_iload_n C d_Law_queuesAreSo_28 2 rfl rfl ?_
        refine z_iload_n C d_Law_queuesAreSo_29 0 rfl rfl ?_
        refine z_iadd C d_Law_queuesAreSo_30 ?_
        refine z_istore_n C d_Law_queuesAreSo_31 rfl (by decide) ?_
        refine z_lv (lv1 := [(1, .int (x1 + r7)), (3, .int r7), (0, .ref (zad G 4 80)), (2, .int x2)]) rfl ?_
        refine z_iconst C d_Law_queuesAreSo_32 zki_0 ?_
        refine z_istore C d_Law_queuesAreSo_33 (by decide) ?_
        refine z_lv (lv1 := [(4, .int (0 : Int32)), (1, .int (x1 + r7)), (3, .int r7), (0, .ref (zad G 4 80)), (2, .int x2)]) rfl ?_
        have hw := ih.2.1 _ _ _ _ _ _ _ _ _ hf
        exact z_sub [3, 1, 4, 2, 0] rfl hw
    · intro x1 x2 x3 x4 x5 x6 x7 y0 y1 hf
      rw [e_Law_queuesAreSo_1] at hf
      refine z_iload C d_Law_queuesAreSo_35 4 rfl ?_
      refine z_iload_n C d_Law_queuesAreSo_37 3 rfl rfl ?_
      refine z_icmp_ge (tgt := 350) C d_Law_queuesAreSo_38 rfl (fun h26 => ?_) (fun h26 => ?_)
      · have hf := iff_t hf h26
        refine z_iinc C d_Law_queuesAreSo_350 2 rfl zki_1 (by decide) ?_
        refine z_lv (lv1 := [(2, .int (x2 + (1 : Int32))), (0, .ref (zad G 4 80)), (1, .int x1), (3, .int x3), (4, .int x4)]) rfl ?_
        refine z_goto (tgt := 4) C d_Law_queuesAreSo_353 rfl ?_
        have hw := ih.1 _ _ _ _ _ _ _ _ _ hf
        exact z_sub [1, 2, 0] rfl hw
      · have hf := iff_f hf h26
        refine z_aload_n C d_Law_queuesAreSo_41 0 rfl rfl ?_
        refine gf_Law_10 C hm rfl rfl d_Law_queuesAreSo_42 ?_
        refine z_iload_n C d_Law_queuesAreSo_45 2 rfl rfl ?_
        refine z_iload C d_Law_queuesAreSo_46 4 rfl ?_
        refine z_iconst C d_Law_queuesAreSo_48 zki_0 ?_
        obtain ⟨r10, h9, hf⟩ := bd_s hf
        refine z_cHi C kh_Law_entry (c_Law_entry hx h9) rfl rfl (Nat.le_of_ble_eq_true rfl) ⟨(Nat.le_of_ble_eq_true rfl), (Nat.le_of_ble_eq_true rfl)⟩ ⟨(Nat.le_of_ble_eq_true rfl), (Nat.le_of_ble_eq_true rfl)⟩ d_Law_queuesAreSo_49 ?_
        refine z_istore C d_Law_queuesAreSo_52 (by decide) ?_
        refine z_lv (lv1 := [(5, .int r10), (0, .ref (zad G 4 80)), (1, .int x1), (2, .int x2), (3, .int x3), (4, .int x4)]) rfl ?_
        refine z_aload_n C d_Law_queuesAreSo_54 1 rfl rfl ?_
        refine gf_Law_10 C hm rfl rfl d_Law_queuesAreSo_55 ?_
        refine z_iload_n C d_Law_queuesAreSo_58 3 rfl rfl ?_
        refine z_iload C d_Law_queuesAreSo_59 5 rfl ?_
        refine z_iconst C d_Law_queuesAreSo_61 zki_1 ?_
        obtain ⟨r12, h11, hf⟩ := bd_s hf
        refine z_cHi C kh_Law_entry (c_Law_entry hx h11) rfl rfl (Nat.le_of_ble_eq_true rfl) ⟨(Nat.le_of_ble_eq_true rfl), (Nat.le_of_ble_eq_true rfl)⟩ ⟨(Nat.le_of_ble_eq_true rfl), (Nat.le_of_ble_eq_true rfl)⟩ d_Law_queuesAreSo_62 ?_
        refine z_istore C d_Law_queuesAreSo_65 (by decide) ?_
        refine z_lv (lv1 := [(6, .int r12), (5, .int r10), (0, .ref (zad G 4 80)), (1, .int x1), (2, .int x2), (3, .int x3), (4, .int x4)]) rfl ?_
        refine z_aload_n C d_Law_queuesAreSo_67 2 rfl rfl ?_
        refine gf_Law_10 C hm rfl rfl d_Law_queuesAreSo_68 ?_
        refine z_iload_n C d_Law_queuesAreSo_71 4 rfl rfl ?_
        refine z_iload C d_Law_queuesAreSo_72 6 rfl ?_
        refine z_iconst C d_Law_queuesAreSo_74 zki_2 ?_
        obtain ⟨r14, h13, hf⟩ := bd_s hf
        refine z_cHi C kh_Law_entry (c_Law_entry hx h13) rfl rfl (Nat.le_of_ble_eq_true rfl) ⟨(Nat.le_of_ble_eq_true rfl), (Nat.le_of_ble_eq_true rfl)⟩ ⟨(Nat.le_of_ble_eq_true rfl), (Nat.le_of_ble_eq_true rfl)⟩ d_Law_queuesAreSo_75 ?_
        refine z_istore C d_Law_queuesAreSo_78 (by decide) ?_
        refine z_lv (lv1 := [(7, .int r14), (6, .int r12), (5, .int r10), (0, .ref (zad G 4 80)), (1, .int x1), (2, .int x2), (3, .int x3), (4, .int x4)]) rfl ?_
        refine z_aload_n C d_Law_queuesAreSo_80 3 rfl rfl ?_
        refine gf_Law_10 C hm rfl rfl d_Law_queuesAreSo_81 ?_
        refine z_iload_n C d_Law_queuesAreSo_84 5 rfl rfl ?_
        refine z_iload C d_Law_queuesAreSo_85 7 rfl ?_
        refine z_iconst C d_Law_queuesAreSo_87 zki_3 ?_
        obtain ⟨r16, h15, hf⟩ := bd_s hf
        refine z_cHi C kh_Law_entry (c_Law_entry hx h15) rfl rfl (Nat.le_of_ble_eq_true rfl) ⟨(Nat.le_of_ble_eq_true rfl), (Nat.le_of_ble_eq_true rfl)⟩ ⟨(Nat.le_of_ble_eq_true rfl), (Nat.le_of_ble_eq_true rfl)⟩ d_Law_queuesAreSo_88 ?_
        refine z_istore C d_Law_queuesAreSo_91 (by decide) ?_
        refine z_lv (lv1 := [(8, .int r16), (7, .int r14), (6, .int r12), (5, .int r10), (0, .ref (zad G 4 80)), (1, .int x1), (2, .int x2), (3, .int x3), (4, .int x4)]) rfl ?_
        refine z_iload C d_Law_queuesAreSo_93 1 rfl ?_
        refine z_aload_n C d_Law_queuesAreSo_95 4 rfl rfl ?_
        refine gf_Law_10 C hm rfl rfl d_Law_queuesAreSo_96 ?_
        refine z_bipush C d_Law_queuesAreSo_99 zkb_8 ?_
        obtain ⟨r18, h17, hf⟩ := bd_s hf
        refine z_cHi C kh_Law_count (c_Law_count hx h17) rfl rfl (Nat.le_of_ble_eq_true rfl) ⟨(Nat.le_of_ble_eq_true rfl), (Nat.le_of_ble_eq_true rfl)⟩ ⟨(Nat.le_of_ble_eq_true rfl), (Nat.le_of_ble_eq_true rfl)⟩ d_Law_queuesAreSo_101 ?_
        refine z_icmp_gt (tgt := 153) C d_Law_queuesAreSo_104 rfl (fun h25 => ?_) (fun h25 => ?_)
        · have hf := iff_t hf h25
          refine z_iconst C d_Law_queuesAreSo_153 zki_0 ?_
          cases hf
          exact z_zret C rfl rfl (Nat.le_of_ble_eq_true rfl) (Nat.le_of_ble_eq_true rfl) d_Law_queuesAreSo_154
        · have hf := iff_f hf h25
          refine z_aload_n C d_Law_queuesAreSo_107 4 rfl rfl ?_
          refine gf_Law_10 C hm rfl rfl d_Law_queuesAreSo_108 ?_
          refine z_iload_n C d_Law_queuesAreSo_111 6 rfl rfl ?_
          refine z_bipush C d_Law_queuesAreSo_112 zkb_10 ?_
          refine z_iload C d_Law_queuesAreSo_114 3 rfl ?_
          refine z_iadd C d_Law_queuesAreSo_116 ?_
          obtain ⟨r20, h19, hf⟩ := bd_s hf
          refine z_cHi C kh_Law_house (c_Law_house hx h19) rfl rfl (Nat.le_of_ble_eq_true rfl) ⟨(Nat.le_of_ble_eq_true rfl), (Nat.le_of_ble_eq_true rfl)⟩ ⟨(Nat.le_of_ble_eq_true rfl), (Nat.le_of_ble_eq_true rfl)⟩ d_Law_queuesAreSo_117 ?_
          refine z_iload C d_Law_queuesAreSo_120 2 rfl ?_
          refine z_ishr C d_Law_queuesAreSo_122 ?_
          refine z_iconst C d_Law_queuesAreSo_123 zki_1 ?_
          refine z_iand C d_Law_queuesAreSo_124 ?_
          refine z_if_eq (tgt := 153) C d_Law_queuesAreSo_125 rfl (fun h24 => ?_) (fun h24 => ?_)
          · have hf := iff_t hf h24
            refine z_iconst C d_Law_queuesAreSo_153 zki_0 ?_
            cases hf
            exact z_zret C rfl rfl (Nat.le_of_ble_eq_true rfl) (Nat.le_of_ble_eq_true rfl) d_Law_queuesAreSo_154
          · have hf := iff_f hf h24
            refine z_iload C d_Law_queuesAreSo_128 0 rfl ?_
            refine z_iconst C d_Law_queuesAreSo_130 zki_m1 ?_
            refine z_icmp_ne (tgt := 138) C d_Law_queuesAreSo_131 rfl (fun h23 => ?_) (fun h23 => ?_)
            · have hf := iff_f hf h23
              refine z_iconst C d_Law_queuesAreSo_138 zki_0 ?_
              refine z_iload C d_Law_queuesAreSo_139 3 rfl ?_
              refine z_iconst C d_Law_queuesAreSo_141 zki_1 ?_
              refine z_icmp_ne (tgt := 149) C d_Law_queuesAreSo_142 rfl (fun h21 => ?_) (fun h21 => ?_)
              · have hf := iff_f hf h21
                refine z_iconst C d_Law_queuesAreSo_149 zki_0 ?_
                have hw := ih.2.2.1 _ _ _ _ _ _ _ _ _ hf
                exact z_sub [4, 5, 6, 7, 8, 3, 2, 1] rfl hw
              · have hf := iff_t hf h21
                refine z_iconst C d_Law_queuesAreSo_145 zki_1 ?_
                refine z_goto (tgt := 150) C d_Law_queuesAreSo_146 rfl ?_
                have hw := ih.2.2.1 _ _ _ _ _ _ _ _ _ hf
                exact z_sub [4, 5, 6, 7, 8, 3, 2, 1] rfl hw
            · have hf := iff_t hf h23
              refine z_iconst C d_Law_queuesAreSo_134 zki_1 ?_
              refine z_goto (tgt := 139) C d_Law_queuesAreSo_135 rfl ?_
              refine z_iload C d_Law_queuesAreSo_139 3 rfl ?_
              refine z_iconst C d_Law_queuesAreSo_141 zki_1 ?_
              refine z_icmp_ne (tgt := 149) C d_Law_queuesAreSo_142 rfl (fun h22 => ?_) (fun h22 => ?_)
              · have hf := iff_f hf h22
                refine z_iconst C d_Law_queuesAreSo_149 zki_0 ?_
                have hw := ih.2.2.1 _ _ _ _ _ _ _ _ _ hf
                exact z_sub [4, 5, 6, 7, 8, 3, 2, 1] rfl hw
              · have hf := iff_t hf h22
                refine z_iconst C d_Law_queuesAreSo_145 zki_1 ?_
                refine z_goto (tgt := 150) C d_Law_queuesAreSo_146 rfl ?_
                have hw := ih.2.2.1 _ _ _ _ _ _ _ _ _ hf
                exact z_sub [4, 5, 6, 7, 8, 3, 2, 1] rfl hw
    · intro x1 x2 x3 x4 x5 x6 x7 y0 y1 hf
      rw [e_Law_queuesAreSo_2] at hf
      refine z_icmp_eq (tgt := 155) C d_Law_queuesAreSo_150 rfl (fun h40 => ?_) (fun h40 => ?_)
      · have hf := iff_t hf h40
        refine z_iload C d_Law_queuesAreSo_155 5 rfl ?_
        refine z_iconst C d_Law_queuesAreSo_157 zki_1 ?_
        refine z_icmp_ne (tgt := 217) C d_Law_queuesAreSo_158 rfl (fun h39 => ?_) (fun h39 => ?_)
        · have hf := iff_f hf h39
          have hw := ih.2.2.2.1 _ _ _ _ _ _ _ _ _ hf
          exact z_sub [0, 1, 2, 3, 4, 5, 6, 7] rfl hw
        · have hf := iff_t hf h39
          refine z_aload_n C d_Law_queuesAreSo_161 0 rfl rfl ?_
          refine gf_Law_10 C hm rfl rfl d_Law_queuesAreSo_162 ?_
          refine z_iload_n C d_Law_queuesAreSo_165 2 rfl rfl ?_
          refine z_iload C d_Law_queuesAreSo_166 6 rfl ?_
          obtain ⟨r28, h27, hf⟩ := bd_s hf
          refine z_cHi C kh_Law_owes (c_Law_owes hx h27) rfl rfl (Nat.le_of_ble_eq_true rfl) ⟨(Nat.le_of_ble_eq_true rfl), (Nat.le_of_ble_eq_true rfl)⟩ ⟨(Nat.le_of_ble_eq_true rfl), (Nat.le_of_ble_eq_true rfl)⟩ d_Law_queuesAreSo_168 ?_
          refine z_if_eq (tgt := 256) C d_Law_queuesAreSo_171 rfl (fun h38 => ?_) (fun h38 => ?_)
          · have hf := iff_t hf h38
            refine z_iconst C d_Law_queuesAreSo_256 zki_0 ?_
            cases hf
            exact z_zret C rfl rfl (Nat.le_of_ble_eq_true rfl) (Nat.le_of_ble_eq_true rfl) d_Law_queuesAreSo_257
          · have hf := iff_f hf h38
            refine z_aload_n C d_Law_queuesAreSo_174 0 rfl rfl ?_
            refine gf_Law_10 C hm rfl rfl d_Law_queuesAreSo_175 ?_
            refine z_iload_n C d_Law_queuesAreSo_178 2 rfl rfl ?_
            refine z_iload C d_Law_queuesAreSo_179 4 rfl ?_
            refine z_iconst C d_Law_queuesAreSo_181 zki_4 ?_
            obtain ⟨r30, h29, hf⟩ := bd_s hf
            refine z_cHi C kh_Law_entry (c_Law_entry hx h29) rfl rfl (Nat.le_of_ble_eq_true rfl) ⟨(Nat.le_of_ble_eq_true rfl), (Nat.le_of_ble_eq_true rfl)⟩ ⟨(Nat.le_of_ble_eq_true rfl), (Nat.le_of_ble_eq_true rfl)⟩ d_Law_queuesAreSo_182 ?_
            refine z_aload_n C d_Law_queuesAreSo_185 0 rfl rfl ?_
            refine gf_Law_10 C hm rfl rfl d_Law_queuesAreSo_186 ?_
            refine z_iload_n C d_Law_queuesAreSo_189 2 rfl rfl ?_
            refine z_iload C d_Law_queuesAreSo_190 6 rfl ?_
            obtain ⟨r32, h31, hf⟩ := bd_s hf
            refine z_cHi C kh_Law_owes (c_Law_owes hx h31) rfl rfl (Nat.le_of_ble_eq_true rfl) ⟨(Nat.le_of_ble_eq_true rfl), (Nat.le_of_ble_eq_true rfl)⟩ ⟨(Nat.le_of_ble_eq_true rfl), (Nat.le_of_ble_eq_true rfl)⟩ d_Law_queuesAreSo_192 ?_
            refine z_aload_n C d_Law_queuesAreSo_195 0 rfl rfl ?_
            refine gf_Law_10 C hm rfl rfl d_Law_queuesAreSo_196 ?_
            refine z_iload_n C d_Law_queuesAreSo_199 2 rfl rfl ?_
            refine z_bipush C d_Law_queuesAreSo_200 zkb_14 ?_
            obtain ⟨r34, h33, hf⟩ := bd_s hf
            refine z_cHi C kh_Law_house (c_Law_house hx h33) rfl rfl (Nat.le_of_ble_eq_true rfl) ⟨(Nat.le_of_ble_eq_true rfl), (Nat.le_of_ble_eq_true rfl)⟩ ⟨(Nat.le_of_ble_eq_true rfl), (Nat.le_of_ble_eq_true rfl)⟩ d_Law_queuesAreSo_202 ?_
            refine z_iand C d_Law_queuesAreSo_205 ?_
            refine z_if_eq (tgt := 213) C d_Law_queuesAreSo_206 rfl (fun h37 => ?_) (fun h37 => ?_)
            · have hf := iff_t hf h37
              refine z_iconst C d_Law_queuesAreSo_213 zki_0 ?_
              refine z_icmp_ne (tgt := 256) C d_Law_queuesAreSo_214 rfl (fun h35 => ?_) (fun h35 => ?_)
              · have hf := iff_f hf h35
                refine z_iconst C d_Law_queuesAreSo_256 zki_0 ?_
                cases hf
                exact z_zret C rfl rfl (Nat.le_of_ble_eq_true rfl) (Nat.le_of_ble_eq_true rfl) d_Law_queuesAreSo_257
              · have hf := iff_t hf h35
                have hw := ih.2.2.2.1 _ _ _ _ _ _ _ _ _ hf
                exact z_sub [0, 1, 2, 3, 4, 5, 6, 7] rfl hw
            · have hf := iff_f hf h37
              refine z_iconst C d_Law_queuesAreSo_209 zki_1 ?_
              refine z_goto (tgt := 214) C d_Law_queuesAreSo_210 rfl ?_
              refine z_icmp_ne (tgt := 256) C d_Law_queuesAreSo_214 rfl (fun h36 => ?_) (fun h36 => ?_)
              · have hf := iff_f hf h36
                refine z_iconst C d_Law_queuesAreSo_256 zki_0 ?_
                cases hf
                exact z_zret C rfl rfl (Nat.le_of_ble_eq_true rfl) (Nat.le_of_ble_eq_true rfl) d_Law_queuesAreSo_257
              · have hf := iff_t hf h36
                have hw := ih.2.2.2.1 _ _ _ _ _ _ _ _ _ hf
                exact z_sub [0, 1, 2, 3, 4, 5, 6, 7] rfl hw
      · have hf := iff_f hf h40
        refine z_iconst C d_Law_queuesAreSo_153 zki_0 ?_
        cases hf
        exact z_zret C rfl rfl (Nat.le_of_ble_eq_true rfl) (Nat.le_of_ble_eq_true rfl) d_Law_queuesAreSo_154
    · intro x1 x2 x3 x4 x5 x6 x7 y0 y1 hf
      rw [e_Law_queuesAreSo_3] at hf
      refine z_iload C d_Law_queuesAreSo_217 5 rfl ?_
      refine z_if_ne (tgt := 258) C d_Law_queuesAreSo_219 rfl (fun h47 => ?_) (fun h47 => ?_)
      · have hf := iff_f hf h47
        have hw := ih.2.2.2.2 _ _ _ _ _ _ _ _ _ hf
        exact z_sub [0, 1, 2, 3, 4, 5, 6, 7] rfl hw
      · have hf := iff_t hf h47
        refine z_aload_n C d_Law_queuesAreSo_222 0 rfl rfl ?_
        refine gf_Law_10 C hm rfl rfl d_Law_queuesAreSo_223 ?_
        refine z_iload_n C d_Law_queuesAreSo_226 2 rfl rfl ?_
        refine z_iload C d_Law_queuesAreSo_227 4 rfl ?_
        refine z_iconst C d_Law_queuesAreSo_229 zki_4 ?_
        obtain ⟨r42, h41, hf⟩ := bd_s hf
        refine z_cHi C kh_Law_entry (c_Law_entry hx h41) rfl rfl (Nat.le_of_ble_eq_true rfl) ⟨(Nat.le_of_ble_eq_true rfl), (Nat.le_of_ble_eq_true rfl)⟩ ⟨(Nat.le_of_ble_eq_true rfl), (Nat.le_of_ble_eq_true rfl)⟩ d_Law_queuesAreSo_230 ?_
        refine z_iconst C d_Law_queuesAreSo_233 zki_1 ?_
        refine z_icmp_ne (tgt := 256) C d_Law_queuesAreSo_234 rfl (fun h46 => ?_) (fun h46 => ?_)
        · have hf := iff_f hf h46
          refine z_iconst C d_Law_queuesAreSo_256 zki_0 ?_
          cases hf
          exact z_zret C rfl rfl (Nat.le_of_ble_eq_true rfl) (Nat.le_of_ble_eq_true rfl) d_Law_queuesAreSo_257
        · have hf := iff_t hf h46
          refine z_aload_n C d_Law_queuesAreSo_237 0 rfl rfl ?_
          refine gf_Law_10 C hm rfl rfl d_Law_queuesAreSo_238 ?_
          refine z_iload_n C d_Law_queuesAreSo_241 2 rfl rfl ?_
          refine z_bipush C d_Law_queuesAreSo_242 zkb_11 ?_
          obtain ⟨r44, h43, hf⟩ := bd_s hf
          refine z_cHi C kh_Law_house (c_Law_house hx h43) rfl rfl (Nat.le_of_ble_eq_true rfl) ⟨(Nat.le_of_ble_eq_true rfl), (Nat.le_of_ble_eq_true rfl)⟩ ⟨(Nat.le_of_ble_eq_true rfl), (Nat.le_of_ble_eq_true rfl)⟩ d_Law_queuesAreSo_244 ?_
          refine z_iload C d_Law_queuesAreSo_247 6 rfl ?_
          refine z_ishr C d_Law_queuesAreSo_249 ?_
          refine z_iconst C d_Law_queuesAreSo_250 zki_1 ?_
          refine z_iand C d_Law_queuesAreSo_251 ?_
          refine z_iconst C d_Law_queuesAreSo_252 zki_1 ?_
          refine z_icmp_ne (tgt := 258) C d_Law_queuesAreSo_253 rfl (fun h45 => ?_) (fun h45 => ?_)
          · have hf := iff_f hf h45
            have hw := ih.2.2.2.2 _ _ _ _ _ _ _ _ _ hf
            exact z_sub [0, 1, 2, 3, 4, 5, 6, 7] rfl hw
          · have hf := iff_t hf h45
            refine z_iconst C d_Law_queuesAreSo_256 zki_0 ?_
            cases hf
            exact z_zret C rfl rfl (Nat.le_of_ble_eq_true rfl) (Nat.le_of_ble_eq_true rfl) d_Law_queuesAreSo_257
    · intro x1 x2 x3 x4 x5 x6 x7 y0 y1 hf
      rw [e_Law_queuesAreSo_4] at hf
      refine z_iload C d_Law_queuesAreSo_258 4 rfl ?_
      refine z_if_ne (tgt := 266) C d_Law_queuesAreSo_260 rfl (fun h59 => ?_) (fun h59 => ?_)
      · have hf := iff_f hf h59
        refine z_aload_n C d_Law_queuesAreSo_266 0 rfl rfl ?_
        refine gf_Law_10 C hm rfl rfl d_Law_queuesAreSo_267 ?_
        refine z_iload_n C d_Law_queuesAreSo_270 2 rfl rfl ?_
        refine z_iload C d_Law_queuesAreSo_271 4 rfl ?_
        refine z_iconst C d_Law_queuesAreSo_273 zki_1 ?_
        refine z_isub C d_Law_queuesAreSo_274 ?_
        refine z_iconst C d_Law_queuesAreSo_275 zki_0 ?_
        obtain ⟨r49, h48, hf⟩ := bd_s hf
        refine z_cHi C kh_Law_entry (c_Law_entry hx h48) rfl rfl (Nat.le_of_ble_eq_true rfl) ⟨(Nat.le_of_ble_eq_true rfl), (Nat.le_of_ble_eq_true rfl)⟩ ⟨(Nat.le_of_ble_eq_true rfl), (Nat.le_of_ble_eq_true rfl)⟩ d_Law_queuesAreSo_276 ?_
        refine z_istore C d_Law_queuesAreSo_279 (by decide) ?_
        refine z_lv (lv1 := [(9, .int r49), (0, .ref (zad G 4 80)), (1, .int x1), (2, .int x2), (3, .int x3), (4, .int x4), (5, .int x5), (6, .int x6), (7, .int x7)]) rfl ?_
        refine z_aload_n C d_Law_queuesAreSo_281 1 rfl rfl ?_
        refine gf_Law_10 C hm rfl rfl d_Law_queuesAreSo_282 ?_
        refine z_iload_n C d_Law_queuesAreSo_285 3 rfl rfl ?_
        refine z_iload C d_Law_queuesAreSo_286 5 rfl ?_
        refine z_iconst C d_Law_queuesAreSo_288 zki_1 ?_
        refine z_isub C d_Law_queuesAreSo_289 ?_
        refine z_iconst C d_Law_queuesAreSo_290 zki_2 ?_
        obtain ⟨r51, h50, hf⟩ := bd_s hf
        refine z_cHi C kh_Law_entry (c_Law_entry hx h50) rfl rfl (Nat.le_of_ble_eq_true rfl) ⟨(Nat.le_of_ble_eq_true rfl), (Nat.le_of_ble_eq_true rfl)⟩ ⟨(Nat.le_of_ble_eq_true rfl), (Nat.le_of_ble_eq_true rfl)⟩ d_Law_queuesAreSo_291 ?_
        refine z_istore C d_Law_queuesAreSo_294 (by decide) ?_
        refine z_lv (lv1 := [(10, .int r51), (9, .int r49), (0, .ref (zad G 4 80)), (1, .int x1), (2, .int x2), (3, .int x3), (4, .int x4), (5, .int x5), (6, .int x6), (7, .int x7)]) rfl ?_
        refine z_iload C d_Law_queuesAreSo_296 1 rfl ?_
        refine z_iload C d_Law_queuesAreSo_298 7 rfl ?_
        refine z_icmp_lt (tgt := 342) C d_Law_queuesAreSo_300 rfl (fun h58 => ?_) (fun h58 => ?_)
        · have hf := iff_t hf h58
          refine z_iconst C d_Law_queuesAreSo_342 zki_0 ?_
          cases hf
          exact z_zret C rfl rfl (Nat.le_of_ble_eq_true rfl) (Nat.le_of_ble_eq_true rfl) d_Law_queuesAreSo_343
        · have hf := iff_f hf h58
          refine z_iload C d_Law_queuesAreSo_303 1 rfl ?_
          refine z_iload C d_Law_queuesAreSo_305 7 rfl ?_
          refine z_icmp_ne (tgt := 344) C d_Law_queuesAreSo_307 rfl (fun h57 => ?_) (fun h57 => ?_)
          · have hf := iff_f hf h57
            refine z_iinc C d_Law_queuesAreSo_344 6 rfl zki_1 (by decide) ?_
            refine z_lv (lv1 := [(4, .int (x4 + (1 : Int32))), (10, .int r51), (9, .int r49), (0, .ref (zad G 4 80)), (1, .int x1), (2, .int x2), (3, .int x3), (5, .int x5), (6, .int x6), (7, .int x7)]) rfl ?_
            refine z_goto (tgt := 35) C d_Law_queuesAreSo_347 rfl ?_
            have hw := ih.2.1 _ _ _ _ _ _ _ _ _ hf
            exact z_sub [3, 4, 5, 6, 0] rfl hw
          · have hf := iff_t hf h57
            refine z_iload C d_Law_queuesAreSo_310 0 rfl ?_
            refine z_iload C d_Law_queuesAreSo_312 9 rfl ?_
            refine z_icmp_gt (tgt := 342) C d_Law_queuesAreSo_314 rfl (fun h56 => ?_) (fun h56 => ?_)
            · have hf := iff_t hf h56
              refine z_iconst C d_Law_queuesAreSo_342 zki_0 ?_
              cases hf
              exact z_zret C rfl rfl (Nat.le_of_ble_eq_true rfl) (Nat.le_of_ble_eq_true rfl) d_Law_queuesAreSo_343
            · have hf := iff_f hf h56
              refine z_iload C d_Law_queuesAreSo_317 0 rfl ?_
              refine z_iload C d_Law_queuesAreSo_319 9 rfl ?_
              refine z_icmp_ne (tgt := 344) C d_Law_queuesAreSo_321 rfl (fun h55 => ?_) (fun h55 => ?_)
              · have hf := iff_f hf h55
                refine z_iinc C d_Law_queuesAreSo_344 6 rfl zki_1 (by decide) ?_
                refine z_lv (lv1 := [(4, .int (x4 + (1 : Int32))), (10, .int r51), (9, .int r49), (0, .ref (zad G 4 80)), (1, .int x1), (2, .int x2), (3, .int x3), (5, .int x5), (6, .int x6), (7, .int x7)]) rfl ?_
                refine z_goto (tgt := 35) C d_Law_queuesAreSo_347 rfl ?_
                have hw := ih.2.1 _ _ _ _ _ _ _ _ _ hf
                exact z_sub [3, 4, 5, 6, 0] rfl hw
              · have hf := iff_t hf h55
                refine z_aload_n C d_Law_queuesAreSo_324 2 rfl rfl ?_
                refine gf_Law_10 C hm rfl rfl d_Law_queuesAreSo_325 ?_
                refine z_iload_n C d_Law_queuesAreSo_328 4 rfl rfl ?_
                refine z_iload C d_Law_queuesAreSo_329 6 rfl ?_
                refine z_iconst C d_Law_queuesAreSo_331 zki_1 ?_
                refine z_isub C d_Law_queuesAreSo_332 ?_
                refine z_iconst C d_Law_queuesAreSo_333 zki_1 ?_
                obtain ⟨r53, h52, hf⟩ := bd_s hf
                refine z_cHi C kh_Law_entry (c_Law_entry hx h52) rfl rfl (Nat.le_of_ble_eq_true rfl) ⟨(Nat.le_of_ble_eq_true rfl), (Nat.le_of_ble_eq_true rfl)⟩ ⟨(Nat.le_of_ble_eq_true rfl), (Nat.le_of_ble_eq_true rfl)⟩ d_Law_queuesAreSo_334 ?_
                refine z_iload C d_Law_queuesAreSo_337 8 rfl ?_
                refine z_icmp_lt (tgt := 344) C d_Law_queuesAreSo_339 rfl (fun h54 => ?_) (fun h54 => ?_)
                · have hf := iff_t hf h54
                  refine z_iinc C d_Law_queuesAreSo_344 6 rfl zki_1 (by decide) ?_
                  refine z_lv (lv1 := [(4, .int (x4 + (1 : Int32))), (10, .int r51), (9, .int r49), (0, .ref (zad G 4 80)), (1, .int x1), (2, .int x2), (3, .int x3), (5, .int x5), (6, .int x6), (7, .int x7)]) rfl ?_
                  refine z_goto (tgt := 35) C d_Law_queuesAreSo_347 rfl ?_
                  have hw := ih.2.1 _ _ _ _ _ _ _ _ _ hf
                  exact z_sub [3, 4, 5, 6, 0] rfl hw
                · have hf := iff_f hf h54
                  refine z_iconst C d_Law_queuesAreSo_342 zki_0 ?_
                  cases hf
                  exact z_zret C rfl rfl (Nat.le_of_ble_eq_true rfl) (Nat.le_of_ble_eq_true rfl) d_Law_queuesAreSo_343
      · have hf := iff_t hf h59
        refine z_goto (tgt := 344) C d_Law_queuesAreSo_263 rfl ?_
        refine z_iinc C d_Law_queuesAreSo_344 4 rfl zki_1 (by decide) ?_
        refine z_lv (lv1 := [(4, .int (x4 + (1 : Int32))), (0, .ref (zad G 4 80)), (1, .int x1), (2, .int x2), (3, .int x3), (5, .int x5), (6, .int x6), (7, .int x7)]) rfl ?_
        refine z_goto (tgt := 35) C d_Law_queuesAreSo_347 rfl ?_
        have hw := ih.2.1 _ _ _ _ _ _ _ _ _ hf
        exact z_sub [1, 2, 3, 4, 0] rfl hw
def F_Law_queuesAreSo (G : zLA) (σ : zSt) : Option (Int32) :=
  L_Law_queuesAreSo G σ zK 0 (0 : Int32) (0 : Int32) 0 0 0 0 0 0 0
set_option maxHeartbeats 4000000 in
set_option maxRecDepth 100000 in
theorem c_Law_queuesAreSo {l : Launch} {G : zLA} (hx : zxl G) (hm : zml G) {σ : zSt} {r : Int32} (hf : F_Law_queuesAreSo G σ = some r) : zM l G y_Law_queuesAreSo (zws y_Law_queuesAreSo b_Law_queuesAreSo 11 (some .boolean)) rm_Law_queuesAreSo [.ref (zad G 4 80)] σ (some (.int r)) σ := by
  refine z_ofM (own := "VillageWavesLaw") (lv := [(0, .ref (zad G 4 80))]) (by decide +kernel) rfl rfl (Nat.le_of_ble_eq_true rfl) (fun p e s m args below meth c C => ?_)
  rw [F_Law_queuesAreSo] at hf
  refine z_iconst C d_Law_queuesAreSo_0 zki_0 ?_
  refine z_istore_n C d_Law_queuesAreSo_1 rfl (by decide) ?_
  refine z_lv (lv1 := [(1, .int (0 : Int32)), (0, .ref (zad G 4 80))]) rfl ?_
  refine z_iconst C d_Law_queuesAreSo_2 zki_0 ?_
  refine z_istore_n C d_Law_queuesAreSo_3 rfl (by decide) ?_
  refine z_lv (lv1 := [(2, .int (0 : Int32)), (1, .int (0 : Int32)), (0, .ref (zad G 4 80))]) rfl ?_
  have hw := (w_Law_queuesAreSo (l := l) (e := e) (below := below) C hx hm zK).1 _ _ _ _ _ _ _ _ _ hf
  exact z_sub [2, 1, 0] rfl hw
