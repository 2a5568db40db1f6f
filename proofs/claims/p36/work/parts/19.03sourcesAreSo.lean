abbrev rm_Law_sourcesAreSo : Room := { frames := 9, cells := 0, slots := 0, locals := 159 }
theorem d_Law_sourcesAreSo_0 : decode b_Law_sourcesAreSo 0 = .ok (.iconst 0, 1) := by decide +kernel
theorem d_Law_sourcesAreSo_1 : decode b_Law_sourcesAreSo 1 = .ok (.istore_n 1, 1) := by decide +kernel
theorem d_Law_sourcesAreSo_2 : decode b_Law_sourcesAreSo 2 = .ok (.iload_n 1, 1) := by decide +kernel
theorem d_Law_sourcesAreSo_3 : decode b_Law_sourcesAreSo 3 = .ok (.aload_n 0, 1) := by decide +kernel
theorem d_Law_sourcesAreSo_4 : decode b_Law_sourcesAreSo 4 = .ok (.getfield 10, 3) := by decide +kernel
theorem d_Law_sourcesAreSo_7 : decode b_Law_sourcesAreSo 7 = .ok (.bipush 7, 2) := by decide +kernel
theorem d_Law_sourcesAreSo_9 : decode b_Law_sourcesAreSo 9 = .ok (.invokestatic 144, 3) := by decide +kernel
theorem d_Law_sourcesAreSo_12 : decode b_Law_sourcesAreSo 12 = .ok (.if_icmp .ge 501, 3) := by decide +kernel
theorem d_Law_sourcesAreSo_15 : decode b_Law_sourcesAreSo 15 = .ok (.aload_n 0, 1) := by decide +kernel
theorem d_Law_sourcesAreSo_16 : decode b_Law_sourcesAreSo 16 = .ok (.getfield 10, 3) := by decide +kernel
theorem d_Law_sourcesAreSo_19 : decode b_Law_sourcesAreSo 19 = .ok (.iload_n 1, 1) := by decide +kernel
theorem d_Law_sourcesAreSo_20 : decode b_Law_sourcesAreSo 20 = .ok (.iconst 0, 1) := by decide +kernel
theorem d_Law_sourcesAreSo_21 : decode b_Law_sourcesAreSo 21 = .ok (.invokestatic 146, 3) := by decide +kernel
theorem d_Law_sourcesAreSo_24 : decode b_Law_sourcesAreSo 24 = .ok (.istore_n 2, 1) := by decide +kernel
theorem d_Law_sourcesAreSo_25 : decode b_Law_sourcesAreSo 25 = .ok (.aload_n 0, 1) := by decide +kernel
theorem d_Law_sourcesAreSo_26 : decode b_Law_sourcesAreSo 26 = .ok (.getfield 10, 3) := by decide +kernel
theorem d_Law_sourcesAreSo_29 : decode b_Law_sourcesAreSo 29 = .ok (.iload_n 1, 1) := by decide +kernel
theorem d_Law_sourcesAreSo_30 : decode b_Law_sourcesAreSo 30 = .ok (.bipush 6, 2) := by decide +kernel
theorem d_Law_sourcesAreSo_32 : decode b_Law_sourcesAreSo 32 = .ok (.invokestatic 146, 3) := by decide +kernel
theorem d_Law_sourcesAreSo_35 : decode b_Law_sourcesAreSo 35 = .ok (.istore_n 3, 1) := by decide +kernel
theorem d_Law_sourcesAreSo_36 : decode b_Law_sourcesAreSo 36 = .ok (.aload_n 0, 1) := by decide +kernel
theorem d_Law_sourcesAreSo_37 : decode b_Law_sourcesAreSo 37 = .ok (.getfield 10, 3) := by decide +kernel
theorem d_Law_sourcesAreSo_40 : decode b_Law_sourcesAreSo 40 = .ok (.iload_n 1, 1) := by decide +kernel
theorem d_Law_sourcesAreSo_41 : decode b_Law_sourcesAreSo 41 = .ok (.bipush 7, 2) := by decide +kernel
theorem d_Law_sourcesAreSo_43 : decode b_Law_sourcesAreSo 43 = .ok (.invokestatic 146, 3) := by decide +kernel
theorem d_Law_sourcesAreSo_46 : decode b_Law_sourcesAreSo 46 = .ok (.istore 4, 2) := by decide +kernel
theorem d_Law_sourcesAreSo_48 : decode b_Law_sourcesAreSo 48 = .ok (.iconst 0, 1) := by decide +kernel
theorem d_Law_sourcesAreSo_49 : decode b_Law_sourcesAreSo 49 = .ok (.istore 5, 2) := by decide +kernel
theorem d_Law_sourcesAreSo_51 : decode b_Law_sourcesAreSo 51 = .ok (.iload_n 3, 1) := by decide +kernel
theorem d_Law_sourcesAreSo_52 : decode b_Law_sourcesAreSo 52 = .ok (.iload_n 2, 1) := by decide +kernel
theorem d_Law_sourcesAreSo_53 : decode b_Law_sourcesAreSo 53 = .ok (.ishr, 1) := by decide +kernel
theorem d_Law_sourcesAreSo_54 : decode b_Law_sourcesAreSo 54 = .ok (.iconst 1, 1) := by decide +kernel
theorem d_Law_sourcesAreSo_55 : decode b_Law_sourcesAreSo 55 = .ok (.iand, 1) := by decide +kernel
theorem d_Law_sourcesAreSo_56 : decode b_Law_sourcesAreSo 56 = .ok (.ifCond .eq 68, 3) := by decide +kernel
theorem d_Law_sourcesAreSo_59 : decode b_Law_sourcesAreSo 59 = .ok (.aload_n 0, 1) := by decide +kernel
theorem d_Law_sourcesAreSo_60 : decode b_Law_sourcesAreSo 60 = .ok (.getfield 10, 3) := by decide +kernel
theorem d_Law_sourcesAreSo_63 : decode b_Law_sourcesAreSo 63 = .ok (.iload_n 2, 1) := by decide +kernel
theorem d_Law_sourcesAreSo_64 : decode b_Law_sourcesAreSo 64 = .ok (.iload_n 1, 1) := by decide +kernel
theorem d_Law_sourcesAreSo_65 : decode b_Law_sourcesAreSo 65 = .ok (.invokestatic 148, 3) := by decide +kernel
theorem d_Law_sourcesAreSo_68 : decode b_Law_sourcesAreSo 68 = .ok (.iconst (-1), 1) := by decide +kernel
theorem d_Law_sourcesAreSo_69 : decode b_Law_sourcesAreSo 69 = .ok (.if_icmp .ne 55, 3) := by decide +kernel
theorem d_Law_sourcesAreSo_72 : decode b_Law_sourcesAreSo 72 = .ok (.aload_n 0, 1) := by decide +kernel
theorem d_Law_sourcesAreSo_73 : decode b_Law_sourcesAreSo 73 = .ok (.getfield 10, 3) := by decide +kernel
theorem d_Law_sourcesAreSo_76 : decode b_Law_sourcesAreSo 76 = .ok (.iload_n 1, 1) := by decide +kernel
theorem d_Law_sourcesAreSo_77 : decode b_Law_sourcesAreSo 77 = .ok (.bipush 8, 2) := by decide +kernel
theorem d_Law_sourcesAreSo_79 : decode b_Law_sourcesAreSo 79 = .ok (.invokestatic 146, 3) := by decide +kernel
theorem d_Law_sourcesAreSo_82 : decode b_Law_sourcesAreSo 82 = .ok (.aload_n 0, 1) := by decide +kernel
theorem d_Law_sourcesAreSo_83 : decode b_Law_sourcesAreSo 83 = .ok (.getfield 10, 3) := by decide +kernel
theorem d_Law_sourcesAreSo_86 : decode b_Law_sourcesAreSo 86 = .ok (.iload_n 1, 1) := by decide +kernel
theorem d_Law_sourcesAreSo_87 : decode b_Law_sourcesAreSo 87 = .ok (.iconst 4, 1) := by decide +kernel
theorem d_Law_sourcesAreSo_88 : decode b_Law_sourcesAreSo 88 = .ok (.invokestatic 146, 3) := by decide +kernel
theorem d_Law_sourcesAreSo_91 : decode b_Law_sourcesAreSo 91 = .ok (.ifCond .ge 7, 3) := by decide +kernel
theorem d_Law_sourcesAreSo_94 : decode b_Law_sourcesAreSo 94 = .ok (.iconst 0, 1) := by decide +kernel
theorem d_Law_sourcesAreSo_95 : decode b_Law_sourcesAreSo 95 = .ok (.goto 9, 3) := by decide +kernel
theorem d_Law_sourcesAreSo_98 : decode b_Law_sourcesAreSo 98 = .ok (.iload_n 3, 1) := by decide +kernel
theorem d_Law_sourcesAreSo_99 : decode b_Law_sourcesAreSo 99 = .ok (.iload 4, 2) := by decide +kernel
theorem d_Law_sourcesAreSo_101 : decode b_Law_sourcesAreSo 101 = .ok (.iconst (-1), 1) := by decide +kernel
theorem d_Law_sourcesAreSo_102 : decode b_Law_sourcesAreSo 102 = .ok (.ixor, 1) := by decide +kernel
theorem d_Law_sourcesAreSo_103 : decode b_Law_sourcesAreSo 103 = .ok (.iand, 1) := by decide +kernel
theorem d_Law_sourcesAreSo_104 : decode b_Law_sourcesAreSo 104 = .ok (.if_icmp .ne 20, 3) := by decide +kernel
theorem d_Law_sourcesAreSo_107 : decode b_Law_sourcesAreSo 107 = .ok (.aload_n 0, 1) := by decide +kernel
theorem d_Law_sourcesAreSo_108 : decode b_Law_sourcesAreSo 108 = .ok (.getfield 10, 3) := by decide +kernel
theorem d_Law_sourcesAreSo_111 : decode b_Law_sourcesAreSo 111 = .ok (.iload_n 1, 1) := by decide +kernel
theorem d_Law_sourcesAreSo_112 : decode b_Law_sourcesAreSo 112 = .ok (.iconst 4, 1) := by decide +kernel
theorem d_Law_sourcesAreSo_113 : decode b_Law_sourcesAreSo 113 = .ok (.invokestatic 146, 3) := by decide +kernel
theorem d_Law_sourcesAreSo_116 : decode b_Law_sourcesAreSo 116 = .ok (.ifCond .ge 10, 3) := by decide +kernel
theorem d_Law_sourcesAreSo_119 : decode b_Law_sourcesAreSo 119 = .ok (.iload 4, 2) := by decide +kernel
theorem d_Law_sourcesAreSo_121 : decode b_Law_sourcesAreSo 121 = .ok (.ifCond .eq 5, 3) := by decide +kernel
theorem d_Law_sourcesAreSo_124 : decode b_Law_sourcesAreSo 124 = .ok (.iconst 0, 1) := by decide +kernel
theorem d_Law_sourcesAreSo_125 : decode b_Law_sourcesAreSo 125 = .ok (.ireturn, 1) := by decide +kernel
theorem d_Law_sourcesAreSo_126 : decode b_Law_sourcesAreSo 126 = .ok (.aload_n 0, 1) := by decide +kernel
theorem d_Law_sourcesAreSo_127 : decode b_Law_sourcesAreSo 127 = .ok (.getfield 10, 3) := by decide +kernel
theorem d_Law_sourcesAreSo_130 : decode b_Law_sourcesAreSo 130 = .ok (.iload_n 1, 1) := by decide +kernel
theorem d_Law_sourcesAreSo_131 : decode b_Law_sourcesAreSo 131 = .ok (.iconst 4, 1) := by decide +kernel
theorem d_Law_sourcesAreSo_132 : decode b_Law_sourcesAreSo 132 = .ok (.invokestatic 146, 3) := by decide +kernel
theorem d_Law_sourcesAreSo_135 : decode b_Law_sourcesAreSo 135 = .ok (.ifCond .lt 22, 3) := by decide +kernel
theorem d_Law_sourcesAreSo_138 : decode b_Law_sourcesAreSo 138 = .ok (.iload 4, 2) := by decide +kernel
theorem d_Law_sourcesAreSo_140 : decode b_Law_sourcesAreSo 140 = .ok (.aload_n 0, 1) := by decide +kernel
theorem d_Law_sourcesAreSo_141 : decode b_Law_sourcesAreSo 141 = .ok (.getfield 10, 3) := by decide +kernel
theorem d_Law_sourcesAreSo_144 : decode b_Law_sourcesAreSo 144 = .ok (.iload_n 1, 1) := by decide +kernel
theorem d_Law_sourcesAreSo_145 : decode b_Law_sourcesAreSo 145 = .ok (.iconst 4, 1) := by decide +kernel
theorem d_Law_sourcesAreSo_146 : decode b_Law_sourcesAreSo 146 = .ok (.invokestatic 146, 3) := by decide +kernel
theorem d_Law_sourcesAreSo_149 : decode b_Law_sourcesAreSo 149 = .ok (.ishr, 1) := by decide +kernel
theorem d_Law_sourcesAreSo_150 : decode b_Law_sourcesAreSo 150 = .ok (.iconst 1, 1) := by decide +kernel
theorem d_Law_sourcesAreSo_151 : decode b_Law_sourcesAreSo 151 = .ok (.iand, 1) := by decide +kernel
theorem d_Law_sourcesAreSo_152 : decode b_Law_sourcesAreSo 152 = .ok (.ifCond .ne 5, 3) := by decide +kernel
theorem d_Law_sourcesAreSo_155 : decode b_Law_sourcesAreSo 155 = .ok (.iconst 0, 1) := by decide +kernel
theorem d_Law_sourcesAreSo_156 : decode b_Law_sourcesAreSo 156 = .ok (.ireturn, 1) := by decide +kernel
theorem d_Law_sourcesAreSo_157 : decode b_Law_sourcesAreSo 157 = .ok (.iconst 0, 1) := by decide +kernel
theorem d_Law_sourcesAreSo_158 : decode b_Law_sourcesAreSo 158 = .ok (.istore 6, 2) := by decide +kernel
theorem d_Law_sourcesAreSo_160 : decode b_Law_sourcesAreSo 160 = .ok (.iload 6, 2) := by decide +kernel
theorem d_Law_sourcesAreSo_162 : decode b_Law_sourcesAreSo 162 = .ok (.aload_n 0, 1) := by decide +kernel
theorem d_Law_sourcesAreSo_163 : decode b_Law_sourcesAreSo 163 = .ok (.getfield 10, 3) := by decide +kernel
theorem d_Law_sourcesAreSo_166 : decode b_Law_sourcesAreSo 166 = .ok (.bipush 6, 2) := by decide +kernel
theorem d_Law_sourcesAreSo_168 : decode b_Law_sourcesAreSo 168 = .ok (.invokestatic 144, 3) := by decide +kernel
theorem d_Law_sourcesAreSo_171 : decode b_Law_sourcesAreSo 171 = .ok (.if_icmp .ge 319, 3) := by decide +kernel
theorem d_Law_sourcesAreSo_174 : decode b_Law_sourcesAreSo 174 = .ok (.aload_n 0, 1) := by decide +kernel
theorem d_Law_sourcesAreSo_175 : decode b_Law_sourcesAreSo 175 = .ok (.getfield 10, 3) := by decide +kernel
theorem d_Law_sourcesAreSo_178 : decode b_Law_sourcesAreSo 178 = .ok (.iload 6, 2) := by decide +kernel
theorem d_Law_sourcesAreSo_180 : decode b_Law_sourcesAreSo 180 = .ok (.iload_n 1, 1) := by decide +kernel
theorem d_Law_sourcesAreSo_181 : decode b_Law_sourcesAreSo 181 = .ok (.invokestatic 148, 3) := by decide +kernel
theorem d_Law_sourcesAreSo_184 : decode b_Law_sourcesAreSo 184 = .ok (.istore 7, 2) := by decide +kernel
theorem d_Law_sourcesAreSo_186 : decode b_Law_sourcesAreSo 186 = .ok (.iconst 0, 1) := by decide +kernel
theorem d_Law_sourcesAreSo_187 : decode b_Law_sourcesAreSo 187 = .ok (.istore 8, 2) := by decide +kernel
theorem d_Law_sourcesAreSo_189 : decode b_Law_sourcesAreSo 189 = .ok (.aload_n 0, 1) := by decide +kernel
theorem d_Law_sourcesAreSo_190 : decode b_Law_sourcesAreSo 190 = .ok (.getfield 10, 3) := by decide +kernel
theorem d_Law_sourcesAreSo_193 : decode b_Law_sourcesAreSo 193 = .ok (.iload 6, 2) := by decide +kernel
theorem d_Law_sourcesAreSo_195 : decode b_Law_sourcesAreSo 195 = .ok (.iload_n 1, 1) := by decide +kernel
theorem d_Law_sourcesAreSo_196 : decode b_Law_sourcesAreSo 196 = .ok (.invokestatic 150, 3) := by decide +kernel
theorem d_Law_sourcesAreSo_199 : decode b_Law_sourcesAreSo 199 = .ok (.istore 9, 2) := by decide +kernel
theorem d_Law_sourcesAreSo_201 : decode b_Law_sourcesAreSo 201 = .ok (.iload_n 3, 1) := by decide +kernel
theorem d_Law_sourcesAreSo_202 : decode b_Law_sourcesAreSo 202 = .ok (.iload 6, 2) := by decide +kernel
theorem d_Law_sourcesAreSo_204 : decode b_Law_sourcesAreSo 204 = .ok (.ishr, 1) := by decide +kernel
theorem d_Law_sourcesAreSo_205 : decode b_Law_sourcesAreSo 205 = .ok (.iconst 1, 1) := by decide +kernel
theorem d_Law_sourcesAreSo_206 : decode b_Law_sourcesAreSo 206 = .ok (.iand, 1) := by decide +kernel
theorem d_Law_sourcesAreSo_207 : decode b_Law_sourcesAreSo 207 = .ok (.iconst 1, 1) := by decide +kernel
theorem d_Law_sourcesAreSo_208 : decode b_Law_sourcesAreSo 208 = .ok (.if_icmp .ne 7, 3) := by decide +kernel
theorem d_Law_sourcesAreSo_211 : decode b_Law_sourcesAreSo 211 = .ok (.iconst 1, 1) := by decide +kernel
theorem d_Law_sourcesAreSo_212 : decode b_Law_sourcesAreSo 212 = .ok (.goto 4, 3) := by decide +kernel
theorem d_Law_sourcesAreSo_215 : decode b_Law_sourcesAreSo 215 = .ok (.iconst 0, 1) := by decide +kernel
theorem d_Law_sourcesAreSo_216 : decode b_Law_sourcesAreSo 216 = .ok (.istore 10, 2) := by decide +kernel
theorem d_Law_sourcesAreSo_218 : decode b_Law_sourcesAreSo 218 = .ok (.aload_n 0, 1) := by decide +kernel
theorem d_Law_sourcesAreSo_219 : decode b_Law_sourcesAreSo 219 = .ok (.getfield 10, 3) := by decide +kernel
theorem d_Law_sourcesAreSo_222 : decode b_Law_sourcesAreSo 222 = .ok (.iload 6, 2) := by decide +kernel
theorem d_Law_sourcesAreSo_224 : decode b_Law_sourcesAreSo 224 = .ok (.bipush 10, 2) := by decide +kernel
theorem d_Law_sourcesAreSo_226 : decode b_Law_sourcesAreSo 226 = .ok (.invokestatic 152, 3) := by decide +kernel
theorem d_Law_sourcesAreSo_229 : decode b_Law_sourcesAreSo 229 = .ok (.iload_n 1, 1) := by decide +kernel
theorem d_Law_sourcesAreSo_230 : decode b_Law_sourcesAreSo 230 = .ok (.ishr, 1) := by decide +kernel
theorem d_Law_sourcesAreSo_231 : decode b_Law_sourcesAreSo 231 = .ok (.iconst 1, 1) := by decide +kernel
theorem d_Law_sourcesAreSo_232 : decode b_Law_sourcesAreSo 232 = .ok (.iand, 1) := by decide +kernel
theorem d_Law_sourcesAreSo_233 : decode b_Law_sourcesAreSo 233 = .ok (.iload_n 3, 1) := by decide +kernel
theorem d_Law_sourcesAreSo_234 : decode b_Law_sourcesAreSo 234 = .ok (.iload 6, 2) := by decide +kernel
theorem d_Law_sourcesAreSo_236 : decode b_Law_sourcesAreSo 236 = .ok (.ishr, 1) := by decide +kernel
theorem d_Law_sourcesAreSo_237 : decode b_Law_sourcesAreSo 237 = .ok (.iconst 1, 1) := by decide +kernel
theorem d_Law_sourcesAreSo_238 : decode b_Law_sourcesAreSo 238 = .ok (.iand, 1) := by decide +kernel
theorem d_Law_sourcesAreSo_239 : decode b_Law_sourcesAreSo 239 = .ok (.if_icmp .ne 28, 3) := by decide +kernel
theorem d_Law_sourcesAreSo_242 : decode b_Law_sourcesAreSo 242 = .ok (.aload_n 0, 1) := by decide +kernel
theorem d_Law_sourcesAreSo_243 : decode b_Law_sourcesAreSo 243 = .ok (.getfield 10, 3) := by decide +kernel
theorem d_Law_sourcesAreSo_246 : decode b_Law_sourcesAreSo 246 = .ok (.iload 6, 2) := by decide +kernel
theorem d_Law_sourcesAreSo_248 : decode b_Law_sourcesAreSo 248 = .ok (.bipush 11, 2) := by decide +kernel
theorem d_Law_sourcesAreSo_250 : decode b_Law_sourcesAreSo 250 = .ok (.invokestatic 152, 3) := by decide +kernel
theorem d_Law_sourcesAreSo_253 : decode b_Law_sourcesAreSo 253 = .ok (.iload_n 1, 1) := by decide +kernel
theorem d_Law_sourcesAreSo_254 : decode b_Law_sourcesAreSo 254 = .ok (.ishr, 1) := by decide +kernel
theorem d_Law_sourcesAreSo_255 : decode b_Law_sourcesAreSo 255 = .ok (.iconst 1, 1) := by decide +kernel
theorem d_Law_sourcesAreSo_256 : decode b_Law_sourcesAreSo 256 = .ok (.iand, 1) := by decide +kernel
theorem d_Law_sourcesAreSo_257 : decode b_Law_sourcesAreSo 257 = .ok (.iload 4, 2) := by decide +kernel
theorem d_Law_sourcesAreSo_259 : decode b_Law_sourcesAreSo 259 = .ok (.iload 6, 2) := by decide +kernel
theorem d_Law_sourcesAreSo_261 : decode b_Law_sourcesAreSo 261 = .ok (.ishr, 1) := by decide +kernel
theorem d_Law_sourcesAreSo_262 : decode b_Law_sourcesAreSo 262 = .ok (.iconst 1, 1) := by decide +kernel
theorem d_Law_sourcesAreSo_263 : decode b_Law_sourcesAreSo 263 = .ok (.iand, 1) := by decide +kernel
theorem d_Law_sourcesAreSo_264 : decode b_Law_sourcesAreSo 264 = .ok (.if_icmp .eq 5, 3) := by decide +kernel
theorem d_Law_sourcesAreSo_267 : decode b_Law_sourcesAreSo 267 = .ok (.iconst 0, 1) := by decide +kernel
theorem d_Law_sourcesAreSo_268 : decode b_Law_sourcesAreSo 268 = .ok (.ireturn, 1) := by decide +kernel
theorem d_Law_sourcesAreSo_269 : decode b_Law_sourcesAreSo 269 = .ok (.iload 7, 2) := by decide +kernel
theorem d_Law_sourcesAreSo_271 : decode b_Law_sourcesAreSo 271 = .ok (.ifCond .lt 34, 3) := by decide +kernel
theorem d_Law_sourcesAreSo_274 : decode b_Law_sourcesAreSo 274 = .ok (.iload 10, 2) := by decide +kernel
theorem d_Law_sourcesAreSo_276 : decode b_Law_sourcesAreSo 276 = .ok (.ifCond .eq 45, 3) := by decide +kernel
theorem d_Law_sourcesAreSo_279 : decode b_Law_sourcesAreSo 279 = .ok (.iload 7, 2) := by decide +kernel
theorem d_Law_sourcesAreSo_281 : decode b_Law_sourcesAreSo 281 = .ok (.iload 6, 2) := by decide +kernel
theorem d_Law_sourcesAreSo_283 : decode b_Law_sourcesAreSo 283 = .ok (.if_icmp .eq 38, 3) := by decide +kernel
theorem d_Law_sourcesAreSo_286 : decode b_Law_sourcesAreSo 286 = .ok (.aload_n 0, 1) := by decide +kernel
theorem d_Law_sourcesAreSo_287 : decode b_Law_sourcesAreSo 287 = .ok (.getfield 10, 3) := by decide +kernel
theorem d_Law_sourcesAreSo_290 : decode b_Law_sourcesAreSo 290 = .ok (.iload 7, 2) := by decide +kernel
theorem d_Law_sourcesAreSo_292 : decode b_Law_sourcesAreSo 292 = .ok (.bipush 14, 2) := by decide +kernel
theorem d_Law_sourcesAreSo_294 : decode b_Law_sourcesAreSo 294 = .ok (.invokestatic 152, 3) := by decide +kernel
theorem d_Law_sourcesAreSo_297 : decode b_Law_sourcesAreSo 297 = .ok (.iload 6, 2) := by decide +kernel
theorem d_Law_sourcesAreSo_299 : decode b_Law_sourcesAreSo 299 = .ok (.ishr, 1) := by decide +kernel
theorem d_Law_sourcesAreSo_300 : decode b_Law_sourcesAreSo 300 = .ok (.iconst 1, 1) := by decide +kernel
theorem d_Law_sourcesAreSo_301 : decode b_Law_sourcesAreSo 301 = .ok (.iand, 1) := by decide +kernel
theorem d_Law_sourcesAreSo_302 : decode b_Law_sourcesAreSo 302 = .ok (.ifCond .eq 19, 3) := by decide +kernel
theorem d_Law_sourcesAreSo_305 : decode b_Law_sourcesAreSo 305 = .ok (.iload 10, 2) := by decide +kernel
theorem d_Law_sourcesAreSo_307 : decode b_Law_sourcesAreSo 307 = .ok (.ifCond .eq 16, 3) := by decide +kernel
theorem d_Law_sourcesAreSo_310 : decode b_Law_sourcesAreSo 310 = .ok (.iload 7, 2) := by decide +kernel
theorem d_Law_sourcesAreSo_312 : decode b_Law_sourcesAreSo 312 = .ok (.ifCond .ge 11, 3) := by decide +kernel
theorem d_Law_sourcesAreSo_315 : decode b_Law_sourcesAreSo 315 = .ok (.iload 6, 2) := by decide +kernel
theorem d_Law_sourcesAreSo_317 : decode b_Law_sourcesAreSo 317 = .ok (.iload_n 2, 1) := by decide +kernel
theorem d_Law_sourcesAreSo_318 : decode b_Law_sourcesAreSo 318 = .ok (.if_icmp .eq 5, 3) := by decide +kernel
theorem d_Law_sourcesAreSo_321 : decode b_Law_sourcesAreSo 321 = .ok (.iconst 0, 1) := by decide +kernel
theorem d_Law_sourcesAreSo_322 : decode b_Law_sourcesAreSo 322 = .ok (.ireturn, 1) := by decide +kernel
theorem d_Law_sourcesAreSo_323 : decode b_Law_sourcesAreSo 323 = .ok (.iload 6, 2) := by decide +kernel
theorem d_Law_sourcesAreSo_325 : decode b_Law_sourcesAreSo 325 = .ok (.istore 11, 2) := by decide +kernel
theorem d_Law_sourcesAreSo_327 : decode b_Law_sourcesAreSo 327 = .ok (.aload_n 0, 1) := by decide +kernel
theorem d_Law_sourcesAreSo_328 : decode b_Law_sourcesAreSo 328 = .ok (.getfield 10, 3) := by decide +kernel
theorem d_Law_sourcesAreSo_331 : decode b_Law_sourcesAreSo 331 = .ok (.iload 11, 2) := by decide +kernel
theorem d_Law_sourcesAreSo_333 : decode b_Law_sourcesAreSo 333 = .ok (.iload_n 1, 1) := by decide +kernel
theorem d_Law_sourcesAreSo_334 : decode b_Law_sourcesAreSo 334 = .ok (.invokestatic 148, 3) := by decide +kernel
theorem d_Law_sourcesAreSo_337 : decode b_Law_sourcesAreSo 337 = .ok (.ifCond .lt 21, 3) := by decide +kernel
theorem d_Law_sourcesAreSo_340 : decode b_Law_sourcesAreSo 340 = .ok (.iinc 8 1, 3) := by decide +kernel
theorem d_Law_sourcesAreSo_343 : decode b_Law_sourcesAreSo 343 = .ok (.aload_n 0, 1) := by decide +kernel
theorem d_Law_sourcesAreSo_344 : decode b_Law_sourcesAreSo 344 = .ok (.getfield 10, 3) := by decide +kernel
theorem d_Law_sourcesAreSo_347 : decode b_Law_sourcesAreSo 347 = .ok (.iload 11, 2) := by decide +kernel
theorem d_Law_sourcesAreSo_349 : decode b_Law_sourcesAreSo 349 = .ok (.iload_n 1, 1) := by decide +kernel
theorem d_Law_sourcesAreSo_350 : decode b_Law_sourcesAreSo 350 = .ok (.invokestatic 148, 3) := by decide +kernel
theorem d_Law_sourcesAreSo_353 : decode b_Law_sourcesAreSo 353 = .ok (.istore 11, 2) := by decide +kernel
theorem d_Law_sourcesAreSo_355 : decode b_Law_sourcesAreSo 355 = .ok (.goto (-28), 3) := by decide +kernel
theorem d_Law_sourcesAreSo_358 : decode b_Law_sourcesAreSo 358 = .ok (.iload 8, 2) := by decide +kernel
theorem d_Law_sourcesAreSo_360 : decode b_Law_sourcesAreSo 360 = .ok (.bipush 11, 2) := by decide +kernel
theorem d_Law_sourcesAreSo_362 : decode b_Law_sourcesAreSo 362 = .ok (.if_icmp .le 5, 3) := by decide +kernel
theorem d_Law_sourcesAreSo_365 : decode b_Law_sourcesAreSo 365 = .ok (.iconst 0, 1) := by decide +kernel
theorem d_Law_sourcesAreSo_366 : decode b_Law_sourcesAreSo 366 = .ok (.ireturn, 1) := by decide +kernel
theorem d_Law_sourcesAreSo_367 : decode b_Law_sourcesAreSo 367 = .ok (.iload 5, 2) := by decide +kernel
theorem d_Law_sourcesAreSo_369 : decode b_Law_sourcesAreSo 369 = .ok (.iload 8, 2) := by decide +kernel
theorem d_Law_sourcesAreSo_371 : decode b_Law_sourcesAreSo 371 = .ok (.invokestatic 26, 3) := by decide +kernel
theorem d_Law_sourcesAreSo_374 : decode b_Law_sourcesAreSo 374 = .ok (.istore 5, 2) := by decide +kernel
theorem d_Law_sourcesAreSo_376 : decode b_Law_sourcesAreSo 376 = .ok (.iconst 0, 1) := by decide +kernel
theorem d_Law_sourcesAreSo_377 : decode b_Law_sourcesAreSo 377 = .ok (.istore 11, 2) := by decide +kernel
theorem d_Law_sourcesAreSo_379 : decode b_Law_sourcesAreSo 379 = .ok (.iload 11, 2) := by decide +kernel
theorem d_Law_sourcesAreSo_381 : decode b_Law_sourcesAreSo 381 = .ok (.aload_n 0, 1) := by decide +kernel
theorem d_Law_sourcesAreSo_382 : decode b_Law_sourcesAreSo 382 = .ok (.getfield 10, 3) := by decide +kernel
theorem d_Law_sourcesAreSo_385 : decode b_Law_sourcesAreSo 385 = .ok (.bipush 6, 2) := by decide +kernel
theorem d_Law_sourcesAreSo_387 : decode b_Law_sourcesAreSo 387 = .ok (.invokestatic 144, 3) := by decide +kernel
theorem d_Law_sourcesAreSo_390 : decode b_Law_sourcesAreSo 390 = .ok (.if_icmp .ge 94, 3) := by decide +kernel
theorem d_Law_sourcesAreSo_393 : decode b_Law_sourcesAreSo 393 = .ok (.aload_n 0, 1) := by decide +kernel
theorem d_Law_sourcesAreSo_394 : decode b_Law_sourcesAreSo 394 = .ok (.getfield 10, 3) := by decide +kernel
theorem d_Law_sourcesAreSo_397 : decode b_Law_sourcesAreSo 397 = .ok (.iload 11, 2) := by decide +kernel
theorem d_Law_sourcesAreSo_399 : decode b_Law_sourcesAreSo 399 = .ok (.iload_n 1, 1) := by decide +kernel
theorem d_Law_sourcesAreSo_400 : decode b_Law_sourcesAreSo 400 = .ok (.invokestatic 148, 3) := by decide +kernel
theorem d_Law_sourcesAreSo_403 : decode b_Law_sourcesAreSo 403 = .ok (.iload 6, 2) := by decide +kernel
theorem d_Law_sourcesAreSo_405 : decode b_Law_sourcesAreSo 405 = .ok (.if_icmp .eq 10, 3) := by decide +kernel
theorem d_Law_sourcesAreSo_408 : decode b_Law_sourcesAreSo 408 = .ok (.iload 7, 2) := by decide +kernel
theorem d_Law_sourcesAreSo_410 : decode b_Law_sourcesAreSo 410 = .ok (.iload 11, 2) := by decide +kernel
theorem d_Law_sourcesAreSo_412 : decode b_Law_sourcesAreSo 412 = .ok (.if_icmp .ne 7, 3) := by decide +kernel
theorem d_Law_sourcesAreSo_415 : decode b_Law_sourcesAreSo 415 = .ok (.iconst 1, 1) := by decide +kernel
theorem d_Law_sourcesAreSo_416 : decode b_Law_sourcesAreSo 416 = .ok (.goto 4, 3) := by decide +kernel
theorem d_Law_sourcesAreSo_419 : decode b_Law_sourcesAreSo 419 = .ok (.iconst 0, 1) := by decide +kernel
theorem d_Law_sourcesAreSo_420 : decode b_Law_sourcesAreSo 420 = .ok (.istore 12, 2) := by decide +kernel
theorem d_Law_sourcesAreSo_422 : decode b_Law_sourcesAreSo 422 = .ok (.iload 12, 2) := by decide +kernel
theorem d_Law_sourcesAreSo_424 : decode b_Law_sourcesAreSo 424 = .ok (.ifCond .eq 28, 3) := by decide +kernel
theorem d_Law_sourcesAreSo_427 : decode b_Law_sourcesAreSo 427 = .ok (.iload 4, 2) := by decide +kernel
theorem d_Law_sourcesAreSo_429 : decode b_Law_sourcesAreSo 429 = .ok (.iload 6, 2) := by decide +kernel
theorem d_Law_sourcesAreSo_431 : decode b_Law_sourcesAreSo 431 = .ok (.ishr, 1) := by decide +kernel
theorem d_Law_sourcesAreSo_432 : decode b_Law_sourcesAreSo 432 = .ok (.iconst 1, 1) := by decide +kernel
theorem d_Law_sourcesAreSo_433 : decode b_Law_sourcesAreSo 433 = .ok (.iand, 1) := by decide +kernel
theorem d_Law_sourcesAreSo_434 : decode b_Law_sourcesAreSo 434 = .ok (.iconst 1, 1) := by decide +kernel
theorem d_Law_sourcesAreSo_435 : decode b_Law_sourcesAreSo 435 = .ok (.if_icmp .ne 17, 3) := by decide +kernel
theorem d_Law_sourcesAreSo_438 : decode b_Law_sourcesAreSo 438 = .ok (.iload 4, 2) := by decide +kernel
theorem d_Law_sourcesAreSo_440 : decode b_Law_sourcesAreSo 440 = .ok (.iload 11, 2) := by decide +kernel
theorem d_Law_sourcesAreSo_442 : decode b_Law_sourcesAreSo 442 = .ok (.ishr, 1) := by decide +kernel
theorem d_Law_sourcesAreSo_443 : decode b_Law_sourcesAreSo 443 = .ok (.iconst 1, 1) := by decide +kernel
theorem d_Law_sourcesAreSo_444 : decode b_Law_sourcesAreSo 444 = .ok (.iand, 1) := by decide +kernel
theorem d_Law_sourcesAreSo_445 : decode b_Law_sourcesAreSo 445 = .ok (.ifCond .ne 7, 3) := by decide +kernel
theorem d_Law_sourcesAreSo_448 : decode b_Law_sourcesAreSo 448 = .ok (.iconst 1, 1) := by decide +kernel
theorem d_Law_sourcesAreSo_449 : decode b_Law_sourcesAreSo 449 = .ok (.goto 4, 3) := by decide +kernel
theorem d_Law_sourcesAreSo_452 : decode b_Law_sourcesAreSo 452 = .ok (.iconst 0, 1) := by decide +kernel
theorem d_Law_sourcesAreSo_453 : decode b_Law_sourcesAreSo 453 = .ok (.istore 13, 2) := by decide +kernel
theorem d_Law_sourcesAreSo_455 : decode b_Law_sourcesAreSo 455 = .ok (.iload 13, 2) := by decide +kernel
theorem d_Law_sourcesAreSo_457 : decode b_Law_sourcesAreSo 457 = .ok (.iload 9, 2) := by decide +kernel
theorem d_Law_sourcesAreSo_459 : decode b_Law_sourcesAreSo 459 = .ok (.iload 11, 2) := by decide +kernel
theorem d_Law_sourcesAreSo_461 : decode b_Law_sourcesAreSo 461 = .ok (.ishr, 1) := by decide +kernel
theorem d_Law_sourcesAreSo_462 : decode b_Law_sourcesAreSo 462 = .ok (.iconst 1, 1) := by decide +kernel
theorem d_Law_sourcesAreSo_463 : decode b_Law_sourcesAreSo 463 = .ok (.iand, 1) := by decide +kernel
theorem d_Law_sourcesAreSo_464 : decode b_Law_sourcesAreSo 464 = .ok (.iconst 1, 1) := by decide +kernel
theorem d_Law_sourcesAreSo_465 : decode b_Law_sourcesAreSo 465 = .ok (.if_icmp .ne 7, 3) := by decide +kernel
theorem d_Law_sourcesAreSo_468 : decode b_Law_sourcesAreSo 468 = .ok (.iconst 1, 1) := by decide +kernel
theorem d_Law_sourcesAreSo_469 : decode b_Law_sourcesAreSo 469 = .ok (.goto 4, 3) := by decide +kernel
theorem d_Law_sourcesAreSo_472 : decode b_Law_sourcesAreSo 472 = .ok (.iconst 0, 1) := by decide +kernel
theorem d_Law_sourcesAreSo_473 : decode b_Law_sourcesAreSo 473 = .ok (.if_icmp .eq 5, 3) := by decide +kernel
theorem d_Law_sourcesAreSo_476 : decode b_Law_sourcesAreSo 476 = .ok (.iconst 0, 1) := by decide +kernel
theorem d_Law_sourcesAreSo_477 : decode b_Law_sourcesAreSo 477 = .ok (.ireturn, 1) := by decide +kernel
theorem d_Law_sourcesAreSo_478 : decode b_Law_sourcesAreSo 478 = .ok (.iinc 11 1, 3) := by decide +kernel
theorem d_Law_sourcesAreSo_481 : decode b_Law_sourcesAreSo 481 = .ok (.goto (-102), 3) := by decide +kernel
theorem d_Law_sourcesAreSo_484 : decode b_Law_sourcesAreSo 484 = .ok (.iinc 6 1, 3) := by decide +kernel
theorem d_Law_sourcesAreSo_487 : decode b_Law_sourcesAreSo 487 = .ok (.goto (-327), 3) := by decide +kernel
theorem d_Law_sourcesAreSo_490 : decode b_Law_sourcesAreSo 490 = .ok (.aload_n 0, 1) := by decide +kernel
theorem d_Law_sourcesAreSo_491 : decode b_Law_sourcesAreSo 491 = .ok (.getfield 10, 3) := by decide +kernel
theorem d_Law_sourcesAreSo_494 : decode b_Law_sourcesAreSo 494 = .ok (.iload_n 1, 1) := by decide +kernel
theorem d_Law_sourcesAreSo_495 : decode b_Law_sourcesAreSo 495 = .ok (.bipush 9, 2) := by decide +kernel
theorem d_Law_sourcesAreSo_497 : decode b_Law_sourcesAreSo 497 = .ok (.invokestatic 146, 3) := by decide +kernel
theorem d_Law_sourcesAreSo_500 : decode b_Law_sourcesAreSo 500 = .ok (.iload 5, 2) := by decide +kernel
theorem d_Law_sourcesAreSo_502 : decode b_Law_sourcesAreSo 502 = .ok (.if_icmp .eq 5, 3) := by decide +kernel
theorem d_Law_sourcesAreSo_505 : decode b_Law_sourcesAreSo 505 = .ok (.iconst 0, 1) := by decide +kernel
theorem d_Law_sourcesAreSo_506 : decode b_Law_sourcesAreSo 506 = .ok (.ireturn, 1) := by decide +kernel
theorem d_Law_sourcesAreSo_507 : decode b_Law_sourcesAreSo 507 = .ok (.iinc 1 1, 3) := by decide +kernel
theorem d_Law_sourcesAreSo_510 : decode b_Law_sourcesAreSo 510 = .ok (.goto (-508), 3) := by decide +kernel
theorem d_Law_sourcesAreSo_513 : decode b_Law_sourcesAreSo 513 = .ok (.iconst 1, 1) := by decide +kernel
theorem d_Law_sourcesAreSo_514 : decode b_Law_sourcesAreSo 514 = .ok (.ireturn, 1) := by decide +kernel
def L_Law_sourcesAreSo (G : zLA) (σ : zSt) : Nat → Nat → Int32 → Int32 → Int32 → Int32 → Int32 → Int32 → Int32 → Int32 → Int32 → Int32 → Int32 → Int32 → Int32 → Option (Int32)
  | 0, _, _, _, _, _, _, _, _, _, _, _, _, _, _ => none
  | n + 1, 0, x1, x2, x3, x4, x5, y0, y1, x6, x7, x8, x9, x10, x11 => (F_Law_count (7 : Int32) σ).bind fun r2 => if r2 ≤ x1 then some (1 : Int32) else ((F_Law_news x1 (0 : Int32) σ).bind fun r4 => (F_Law_news x1 (6 : Int32) σ).bind fun r6 => (F_Law_news x1 (7 : Int32) σ).bind fun r8 => if ((r6 >>> (r4 &&& 31)) &&& (1 : Int32)) = 0 then some (0 : Int32) else ((F_Law_source r4 x1 σ).bind fun r10 => if r10 = (-1 : Int32) then ((F_Law_news x1 (8 : Int32) σ).bind fun r12 => (F_Law_news x1 (4 : Int32) σ).bind fun r14 => if 0 ≤ r14 then L_Law_sourcesAreSo G σ n 1 x1 r4 r6 r8 (0 : Int32) r12 (r6 &&& (r8 ^^^ (-1 : Int32))) 0 0 0 0 0 0 else L_Law_sourcesAreSo G σ n 1 x1 r4 r6 r8 (0 : Int32) r12 (0 : Int32) 0 0 0 0 0 0) else some (0 : Int32)))
  | n + 1, 1, x1, x2, x3, x4, x5, y0, y1, x6, x7, x8, x9, x10, x11 => if y0 = y1 then ((F_Law_news x1 (4 : Int32) σ).bind fun r20 => if 0 ≤ r20 then L_Law_sourcesAreSo G σ n 2 x1 x2 x3 x4 x5 0 0 0 0 0 0 0 0 else (if x4 = 0 then L_Law_sourcesAreSo G σ n 2 x1 x2 x3 x4 x5 0 0 0 0 0 0 0 0 else some (0 : Int32))) else some (0 : Int32)
  | n + 1, 2, x1, x2, x3, x4, x5, y0, y1, x6, x7, x8, x9, x10, x11 => (F_Law_news x1 (4 : Int32) σ).bind fun r25 => if r25 < 0 then L_Law_sourcesAreSo G σ n 3 x1 x2 x3 x4 x5 0 0 (0 : Int32) 0 0 0 0 0 else ((F_Law_news x1 (4 : Int32) σ).bind fun r27 => if ((x4 >>> (r27 &&& 31)) &&& (1 : Int32)) = 0 then some (0 : Int32) else L_Law_sourcesAreSo G σ n 3 x1 x2 x3 x4 x5 0 0 (0 : Int32) 0 0 0 0 0)
  | n + 1, 3, x1, x2, x3, x4, x5, y0, y1, x6, x7, x8, x9, x10, x11 => (F_Law_count (6 : Int32) σ).bind fun r31 => if r31 ≤ x6 then ((F_Law_news x1 (9 : Int32) σ).bind fun r33 => if r33 = x5 then L_Law_sourcesAreSo G σ n 0 (x1 + (1 : Int32)) 0 0 0 0 0 0 0 0 0 0 0 0 else some (0 : Int32)) else ((F_Law_source x6 x1 σ).bind fun r36 => (F_Law_owes x6 x1 σ).bind fun r38 => if ((x3 >>> (x6 &&& 31)) &&& (1 : Int32)) = (1 : Int32) then L_Law_sourcesAreSo G σ n 4 x1 x2 x3 x4 x5 (1 : Int32) 0 x6 r36 (0 : Int32) r38 0 0 else L_Law_sourcesAreSo G σ n 4 x1 x2 x3 x4 x5 (0 : Int32) 0 x6 r36 (0 : Int32) r38 0 0)
  | n + 1, 4, x1, x2, x3, x4, x5, y0, y1, x6, x7, x8, x9, x10, x11 => (F_Law_house x6 (10 : Int32) σ).bind fun r42 => if ((r42 >>> (x1 &&& 31)) &&& (1 : Int32)) = ((x3 >>> (x6 &&& 31)) &&& (1 : Int32)) then ((F_Law_house x6 (11 : Int32) σ).bind fun r44 => if ((r44 >>> (x1 &&& 31)) &&& (1 : Int32)) = ((x4 >>> (x6 &&& 31)) &&& (1 : Int32)) then (if x7 < 0 then L_Law_sourcesAreSo G σ n 5 x1 x2 x3 x4 x5 0 0 x6 x7 x8 x9 y0 0 else (if y0 = 0 then some (0 : Int32) else (if x7 = x6 then some (0 : Int32) else ((F_Law_house x7 (14 : Int32) σ).bind fun r46 => if ((r46 >>> (x6 &&& 31)) &&& (1 : Int32)) = 0 then some (0 : Int32) else L_Law_sourcesAreSo G σ n 5 x1 x2 x3 x4 x5 0 0 x6 x7 x8 x9 y0 0)))) else some (0 : Int32)) else some (0 : Int32)
  | n + 1, 5, x1, x2, x3, x4, x5, y0, y1, x6, x7, x8, x9, x10, x11 => if x10 = 0 then L_Law_sourcesAreSo G σ n 6 x1 x2 x3 x4 x5 0 0 x6 x7 x8 x9 0 x6 else (if 0 ≤ x7 then L_Law_sourcesAreSo G σ n 6 x1 x2 x3 x4 x5 0 0 x6 x7 x8 x9 0 x6 else (if x6 = x2 then L_Law_sourcesAreSo G σ n 6 x1 x2 x3 x4 x5 0 0 x6 x7 x8 x9 0 x6 else some (0 : Int32)))
  | n + 1, 6, x1, x2, x3, x4, x5, y0, y1, x6, x7, x8, x9, x10, x11 => (F_Law_source x11 x1 σ).bind fun r57 => if r57 < 0 then (if x8 ≤ (11 : Int32) then L_Law_sourcesAreSo G σ n 7 x1 x2 x3 x4 (if x5 < x8 then x8 else x5) 0 0 x6 x7 0 x9 0 (0 : Int32) else some (0 : Int32)) else ((F_Law_source x11 x1 σ).bind fun r60 => L_Law_sourcesAreSo G σ n 6 x1 x2 x3 x4 x5 0 0 x6 x7 (x8 + (1 : Int32)) x9 0 r60)
  | n + 1, 7, x1, x2, x3, x4, x5, y0, y1, x6, x7, x8, x9, x10, x11 => (F_Law_count (6 : Int32) σ).bind fun r63 => if r63 ≤ x11 then L_Law_sourcesAreSo G σ n 3 x1 x2 x3 x4 x5 0 0 (x6 + (1 : Int32)) 0 0 0 0 0 else ((F_Law_source x11 x1 σ).bind fun r65 => if r65 = x6 then L_Law_sourcesAreSo G σ n 8 x1 x2 x3 x4 x5 (1 : Int32) 0 x6 x7 0 x9 0 x11 else (if x7 = x11 then L_Law_sourcesAreSo G σ n 8 x1 x2 x3 x4 x5 (1 : Int32) 0 x6 x7 0 x9 0 x11 else L_Law_sourcesAreSo G σ n 8 x1 x2 x3 x4 x5 (0 : Int32) 0 x6 x7 0 x9 0 x11))
  | n + 1, 8, x1, x2, x3, x4, x5, y0, y1, x6, x7, x8, x9, x10, x11 => if y0 = 0 then L_Law_sourcesAreSo G σ n 9 x1 x2 x3 x4 x5 (0 : Int32) 0 x6 x7 0 x9 0 x11 else (if ((x4 >>> (x6 &&& 31)) &&& (1 : Int32)) = (1 : Int32) then (if ((x4 >>> (x11 &&& 31)) &&& (1 : Int32)) = 0 then L_Law_sourcesAreSo G σ n 9 x1 x2 x3 x4 x5 (1 : Int32) 0 x6 x7 0 x9 0 x11 else L_Law_sourcesAreSo G σ n 9 x1 x2 x3 x4 x5 (0 : Int32) 0 x6 x7 0 x9 0 x11) else L_Law_sourcesAreSo G σ n 9 x1 x2 x3 x4 x5 (0 : Int32) 0 x6 x7 0 x9 0 x11)
  | n + 1, 9, x1, x2, x3, x4, x5, y0, y1, x6, x7, x8, x9, x10, x11 => if ((x9 >>> (x11 &&& 31)) &&& (1 : Int32)) = (1 : Int32) then (if y0 = (1 : Int32) then L_Law_sourcesAreSo G σ n 7 x1 x2 x3 x4 x5 0 0 x6 x7 0 x9 0 (x11 + (1 : Int32)) else some (0 : Int32)) else (if y0 = (0 : Int32) then L_Law_sourcesAreSo G σ n 7 x1 x2 x3 x4 x5 0 0 x6 x7 0 x9 0 (x11 + (1 : Int32)) else some (0 : Int32))
  | _ + 1, _, _, _, _, _, _, _, _, _, _, _, _, _, _ => none
theorem e_Law_sourcesAreSo_0 (G : zLA) (σ : zSt) (n : Nat) (x1 : Int32) (x2 : Int32) (x3 : Int32) (x4 : Int32) (x5 : Int32) (y0 : Int32) (y1 : Int32) (x6 : Int32) (x7 : Int32) (x8 : Int32) (x9 : Int32) (x10 : Int32) (x11 : Int32) : L_Law_sourcesAreSo G σ (n + 1) 0 x1 x2 x3 x4 x5 y0 y1 x6 x7 x8 x9 x10 x11 = ((F_Law_count (7 : Int32) σ).bind fun r2 => if r2 ≤ x1 then some (1 : Int32) else ((F_Law_news x1 (0 : Int32) σ).bind fun r4 => (F_Law_news x1 (6 : Int32) σ).bind fun r6 => (F_Law_news x1 (7 : Int32) σ).bind fun r8 => if ((r6 >>> (r4 &&& 31)) &&& (1 : Int32)) = 0 then some (0 : Int32) else ((F_Law_source r4 x1 σ).bind fun r10 => if r10 = (-1 : Int32) then ((F_Law_news x1 (8 : Int32) σ).bind fun r12 => (F_Law_news x1 (4 : Int32) σ).bind fun r14 => if 0 ≤ r14 then L_Law_sourcesAreSo G σ n 1 x1 r4 r6 r8 (0 : Int32) r12 (r6 &&& (r8 ^^^ (-1 : Int32))) 0 0 0 0 0 0 else L_Law_sourcesAreSo G σ n 1 x1 r4 r6 r8 (0 : Int32) r12 (0 : Int32) 0 0 0 0 0 0) else some (0 : Int32)))) := rfl
theorem e_Law_sourcesAreSo_1 (G : zLA) (σ : zSt) (n : Nat) (x1 : Int32) (x2 : Int32) (x3 : Int32) (x4 : Int32) (x5 : Int32) (y0 : Int32) (y1 : Int32) (x6 : Int32) (x7 : Int32) (x8 : Int32) (x9 : Int32) (x10 : Int32) (x11 : Int32) : L_Law_sourcesAreSo G σ (n + 1) 1 x1 x2 x3 x4 x5 y0 y1 x6 x7 x8 x9 x10 x11 = (if y0 = y1 then ((F_Law_news x1 (4 : Int32) σ).bind fun r20 => if 0 ≤ r20 then L_Law_sourcesAreSo G σ n 2 x1 x2 x3 x4 x5 0 0 0 0 0 0 0 0 else (if x4 = 0 then L_Law_sourcesAreSo G σ n 2 x1 x2 x3 x4 x5 0 0 0 0 0 0 0 0 else some (0 : Int32))) else some (0 : Int32)) := rfl
theorem e_Law_sourcesAreSo_2 (G : zLA) (σ : zSt) (n : Nat) (x1 : Int32) (x2 : Int32) (x3 : Int32) (x4 : Int32) (x5 : Int32) (y0 : Int32) (y1 : Int32) (x6 : Int32) (x7 : Int32) (x8 : Int32) (x9 : Int32) (x10 : Int32) (x11 : Int32) : L_Law_sourcesAreSo G σ (n + 1) 2 x1 x2 x3 x4 x5 y0 y1 x6 x7 x8 x9 x10 x11 = ((F_Law_news x1 (4 : Int32) σ).bind fun r25 => if r25 < 0 then L_Law_sourcesAreSo G σ n 3 x1 x2 x3 x4 x5 0 0 (0 : Int32) 0 0 0 0 0 else ((F_Law_news x1 (4 : Int32) σ).bind fun r27 => if ((x4 >>> (r27 &&& 31)) &&& (1 : Int32)) = 0 then some (0 : Int32) else L_Law_sourcesAreSo G σ n 3 x1 x2 x3 x4 x5 0 0 (0 : Int32) 0 0 0 0 0)) := rfl
theorem e_Law_sourcesAreSo_3 (G : zLA) (σ : zSt) (n : Nat) (x1 : Int32) (x2 : Int32) (x3 : Int32) (x4 : Int32) (x5 : Int32) (y0 : Int32) (y1 : Int32) (x6 : Int32) (x7 : Int32) (x8 : Int32) (x9 : Int32) (x10 : Int32) (x11 : Int32) : L_Law_sourcesAreSo G σ (n + 1) 3 x1 x2 x3 x4 x5 y0 y1 x6 x7 x8 x9 x10 x11 = ((F_Law_count (6 : Int32) σ).bind fun r31 => if r31 ≤ x6 then ((F_Law_news x1 (9 : Int32) σ).bind fun r33 => if r33 = x5 then L_Law_sourcesAreSo G σ n 0 (x1 + (1 : Int32)) 0 0 0 0 0 0 0 0 0 0 0 0 else some (0 : Int32)) else ((F_Law_source x6 x1 σ).bind fun r36 => (F_Law_owes x6 x1 σ).bind fun r38 => if ((x3 >>> (x6 &&& 31)) &&& (1 : Int32)) = (1 : Int32) then L_Law_sourcesAreSo G σ n 4 x1 x2 x3 x4 x5 (1 : Int32) 0 x6 r36 (0 : Int32) r38 0 0 else L_Law_sourcesAreSo G σ n 4 x1 x2 x3 x4 x5 (0 : Int32) 0 x6 r36 (0 : Int32) r38 0 0)) := rfl
theorem e_Law_sourcesAreSo_4 (G : zLA) (σ : zSt) (n : Nat) (x1 : Int32) (x2 : Int32) (x3 : Int32) (x4 : Int32) (x5 : Int32) (y0 : Int32) (y1 : Int32) (x6 : Int32) (x7 : Int32) (x8 : Int32) (x9 : Int32) (x10 : Int32) (x11 : Int32) : L_Law_sourcesAreSo G σ (n + 1) 4 x1 x2 x3 x4 x5 y0 y1 x6 x7 x8 x9 x10 x11 = ((F_Law_house x6 (10 : Int32) σ).bind fun r42 => if ((r42 >>> (x1 &&& 31)) &&& (1 : Int32)) = ((x3 >>> (x6 &&& 31)) &&& (1 : Int32)) then ((F_Law_house x6 (11 : Int32) σ).bind fun r44 => if ((r44 >>> (x1 &&& 31)) &&& (1 : Int32)) = ((x4 >>> (x6 &&& 31)) &&& (1 : Int32)) then (if x7 < 0 then L_Law_sourcesAreSo G σ n 5 x1 x2 x3 x4 x5 0 0 x6 x7 x8 x9 y0 0 else (if y0 = 0 then some (0 : Int32) else (if x7 = x6 then some (0 : Int32) else ((F_Law_house x7 (14 : Int32) σ).bind fun r46 => if ((r46 >>> (x6 &&& 31)) &&& (1 : Int32)) = 0 then some (0 : Int32) else L_Law_sourcesAreSo G σ n 5 x1 x2 x3 x4 x5 0 0 x6 x7 x8 x9 y0 0)))) else some (0 : Int32)) else some (0 : Int32)) := rfl
theorem e_Law_sourcesAreSo_5 (G : zLA) (σ : zSt) (n : Nat) (x1 : Int32) (x2 : Int32) (x3 : Int32) (x4 : Int32) (x5 : Int32) (y0 : Int32) (y1 : Int32) (x6 : Int32) (x7 : Int32) (x8 : Int32) (x9 : Int32) (x10 : Int32) (x11 : Int32) : L_Law_sourcesAreSo G σ (n + 1) 5 x1 x2 x3 x4 x5 y0 y1 x6 x7 x8 x9 x10 x11 = (if x10 = 0 then L_Law_sourcesAreSo G σ n 6 x1 x2 x3 x4 x5 0 0 x6 x7 x8 x9 0 x6 else (if 0 ≤ x7 then L_Law_sourcesAreSo G σ n 6 x1 x2 x3 x4 x5 0 0 x6 x7 x8 x9 0 x6 else (if x6 = x2 then L_Law_sourcesAreSo G σ n 6 x1 x2 x3 x4 x5 0 0 x6 x7 x8 x9 0 x6 else some (0 : Int32)))) := rfl
theorem e_Law_sourcesAreSo_6 (G : zLA) (σ : zSt) (n : Nat) (x1 : Int32) (x2 : Int32) (x3 : Int32) (x4 : Int32) (x5 : Int32) (y0 : Int32) (y1 : Int32) (x6 : Int32) (x7 : Int32) (x8 : Int32) (x9 : Int32) (x10 : Int32) (x11 : Int32) : L_Law_sourcesAreSo G σ (n + 1) 6 x1 x2 x3 x4 x5 y0 y1 x6 x7 x8 x9 x10 x11 = ((F_Law_source x11 x1 σ).bind fun r57 => if r57 < 0 then (if x8 ≤ (11 : Int32) then L_Law_sourcesAreSo G σ n 7 x1 x2 x3 x4 (if x5 < x8 then x8 else x5) 0 0 x6 x7 0 x9 0 (0 : Int32) else some (0 : Int32)) else ((F_Law_source x11 x1 σ).bind fun r60 => L_Law_sourcesAreSo G σ n 6 x1 x2 x3 x4 x5 0 0 x6 x7 (x8 + (1 : Int32)) x9 0 r60)) := rfl
theorem e_Law_sourcesAreSo_7 (G : zLA) (σ : zSt) (n : Nat) (x1 : Int32) (x2 : Int32) (x3 : Int32) (x4 : Int32) (x5 : Int32) (y0 : Int32) (y1 : Int32) (x6 : Int32) (x7 : Int32) (x8 : Int32) (x9 : Int32) (x10 : Int32) (x11 : Int32) : L_Law_sourcesAreSo G σ (n + 1) 7 x1 x2 x3 x4 x5 y0 y1 x6 x7 x8 x9 x10 x11 = ((F_Law_count (6 : Int32) σ).bind fun r63 => if r63 ≤ x11 then L_Law_sourcesAreSo G σ n 3 x1 x2 x3 x4 x5 0 0 (x6 + (1 : Int32)) 0 0 0 0 0 else ((F_Law_source x11 x1 σ).bind fun r65 => if r65 = x6 then L_Law_sourcesAreSo G σ n 8 x1 x2 x3 x4 x5 (1 : Int32) 0 x6 x7 0 x9 0 x11 else (if x7 = x11 then L_Law_sourcesAreSo G σ n 8 x1 x2 x3 x4 x5 (1 : Int32) 0 x6 x7 0 x9 0 x11 else L_Law_sourcesAreSo G σ n 8 x1 x2 x3 x4 x5 (0 : Int32) 0 x6 x7 0 x9 0 x11))) := rfl
theorem e_Law_sourcesAreSo_8 (G : zLA) (σ : zSt) (n : Nat) (x1 : Int32) (x2 : Int32) (x3 : Int32) (x4 : Int32) (x5 : Int32) (y0 : Int32) (y1 : Int32) (x6 : Int32) (x7 : Int32) (x8 : Int32) (x9 : Int32) (x10 : Int32) (x11 : Int32) : L_Law_sourcesAreSo G σ (n + 1) 8 x1 x2 x3 x4 x5 y0 y1 x6 x7 x8 x9 x10 x11 = (if y0 = 0 then L_Law_sourcesAreSo G σ n 9 x1 x2 x3 x4 x5 (0 : Int32) 0 x6 x7 0 x9 0 x11 else (if ((x4 >>> (x6 &&& 31)) &&& (1 : Int32)) = (1 : Int32) then (if ((x4 >>> (x11 &&& 31)) &&& (1 : Int32)) = 0 then L_Law_sourcesAreSo G σ n 9 x1 x2 x3 x4 x5 (1 : Int32) 0 x6 x7 0 x9 0 x11 else L_Law_sourcesAreSo G σ n 9 x1 x2 x3 x4 x5 (0 : Int32) 0 x6 x7 0 x9 0 x11) else L_Law_sourcesAreSo G σ n 9 x1 x2 x3 x4 x5 (0 : Int32) 0 x6 x7 0 x9 0 x11)) := rfl
theorem e_Law_sourcesAreSo_9 (G : zLA) (σ : zSt) (n : Nat) (x1 : Int32) (x2 : Int32) (x3 : Int32) (x4 : Int32) (x5 : Int32) (y0 : Int32) (y1 : Int32) (x6 : Int32) (x7 : Int32) (x8 : Int32) (x9 : Int32) (x10 : Int32) (x11 : Int32) : L_Law_sourcesAreSo G σ (n + 1) 9 x1 x2 x3 x4 x5 y0 y1 x6 x7 x8 x9 x10 x11 = (if ((x9 >>> (x11 &&& 31)) &&& (1 : Int32)) = (1 : Int32) then (if y0 = (1 : Int32) then L_Law_sourcesAreSo G σ n 7 x1 x2 x3 x4 x5 0 0 x6 x7 0 x9 0 (x11 + (1 : Int32)) else some (0 : Int32)) else (if y0 = (0 : Int32) then L_Law_sourcesAreSo G σ n 7 x1 x2 x3 x4 x5 0 0 x6 x7 0 x9 0 (x11 + (1 : Int32)) else some (0 : Int32))) := rfl
set_option maxHeartbeats 4000000 in
set_option maxRecDepth 100000 in
theorem w_Law_sourcesAreSo {l : Launch} {G : zLA} {p : Program} {e : Env} {s : State} {m : MethodId} {args : Array Value} {below : List Frame} {meth : Method} {c : Code} (C : zCx G p s m args meth c "VillageWavesLaw" b_Law_sourcesAreSo 14 (some .boolean)) (hx : zxl G) (hm : zml G) {σ : zSt} {r : Int32} : ∀ n : Nat, (∀ (x1 : Int32) (x2 : Int32) (x3 : Int32) (x4 : Int32) (x5 : Int32) (y0 : Int32) (y1 : Int32) (x6 : Int32) (x7 : Int32) (x8 : Int32) (x9 : Int32) (x10 : Int32) (x11 : Int32), L_Law_sourcesAreSo G σ n 0 x1 x2 x3 x4 x5 y0 y1 x6 x7 x8 x9 x10 x11 = some r → zWV G p l e rm_Law_sourcesAreSo s m args below meth c 14 0 0 (zQ G below args s rm_Law_sourcesAreSo (some (.int r)) σ) 2 [(0, .ref (zad G 4 80)), (1, .int x1)] [] σ) ∧ (∀ (x1 : Int32) (x2 : Int32) (x3 : Int32) (x4 : Int32) (x5 : Int32) (y0 : Int32) (y1 : Int32) (x6 : Int32) (x7 : Int32) (x8 : Int32) (x9 : Int32) (x10 : Int32) (x11 : Int32), L_Law_sourcesAreSo G σ n 1 x1 x2 x3 x4 x5 y0 y1 x6 x7 x8 x9 x10 x11 = some r → zWV G p l e rm_Law_sourcesAreSo s m args below meth c 14 0 0 (zQ G below args s rm_Law_sourcesAreSo (some (.int r)) σ) 104 [(0, .ref (zad G 4 80)), (1, .int x1), (2, .int x2), (3, .int x3), (4, .int x4), (5, .int x5)] [.int y1, .int y0] σ) ∧ (∀ (x1 : Int32) (x2 : Int32) (x3 : Int32) (x4 : Int32) (x5 : Int32) (y0 : Int32) (y1 : Int32) (x6 : Int32) (x7 : Int32) (x8 : Int32) (x9 : Int32) (x10 : Int32) (x11 : Int32), L_Law_sourcesAreSo G σ n 2 x1 x2 x3 x4 x5 y0 y1 x6 x7 x8 x9 x10 x11 = some r → zWV G p l e rm_Law_sourcesAreSo s m args below meth c 14 0 0 (zQ G below args s rm_Law_sourcesAreSo (some (.int r)) σ) 126 [(0, .ref (zad G 4 80)), (1, .int x1), (2, .int x2), (3, .int x3), (4, .int x4), (5, .int x5)] [] σ) ∧ (∀ (x1 : Int32) (x2 : Int32) (x3 : Int32) (x4 : Int32) (x5 : Int32) (y0 : Int32) (y1 : Int32) (x6 : Int32) (x7 : Int32) (x8 : Int32) (x9 : Int32) (x10 : Int32) (x11 : Int32), L_Law_sourcesAreSo G σ n 3 x1 x2 x3 x4 x5 y0 y1 x6 x7 x8 x9 x10 x11 = some r → zWV G p l e rm_Law_sourcesAreSo s m args below meth c 14 0 0 (zQ G below args s rm_Law_sourcesAreSo (some (.int r)) σ) 160 [(0, .ref (zad G 4 80)), (1, .int x1), (2, .int x2), (3, .int x3), (4, .int x4), (5, .int x5), (6, .int x6)] [] σ) ∧ (∀ (x1 : Int32) (x2 : Int32) (x3 : Int32) (x4 : Int32) (x5 : Int32) (y0 : Int32) (y1 : Int32) (x6 : Int32) (x7 : Int32) (x8 : Int32) (x9 : Int32) (x10 : Int32) (x11 : Int32), L_Law_sourcesAreSo G σ n 4 x1 x2 x3 x4 x5 y0 y1 x6 x7 x8 x9 x10 x11 = some r → zWV G p l e rm_Law_sourcesAreSo s m args below meth c 14 0 0 (zQ G below args s rm_Law_sourcesAreSo (some (.int r)) σ) 216 [(0, .ref (zad G 4 80)), (1, .int x1), (2, .int x2), (3, .int x3), (4, .int x4), (5, .int x5), (6, .int x6), (7, .int x7), (8, .int x8), (9, .int x9)] [.int y0] σ) ∧ (∀ (x1 : Int32) (x2 : Int32) (x3 : Int32) (x4 : Int32) (x5 : Int32) (y0 : Int32) (y1 : Int32) (x6 : Int32) (x7 : Int32) (x8 : Int32) (x9 : Int32) (x10 : Int32) (x11 : Int32), L_Law_sourcesAreSo G σ n 5 x1 x2 x3 x4 x5 y0 y1 x6 x7 x8 x9 x10 x11 = some r → zWV G p l e rm_Law_sourcesAreSo s m args below meth c 14 0 0 (zQ G below args s rm_Law_sourcesAreSo (some (.int r)) σ) 305 [(0, .ref (zad G 4 80)), (1, .int x1), (2, .int x2), (3, .int x3), (4, .int x4), (5, .int x5), (6, .int x6), (7, .int x7), (8, .int x8), (9, .int x9), (10, .int x10)] [] σ) ∧ (∀ (x1 : Int32) (x2 : Int32) (x3 : Int32) (x4 : Int32) (x5 : Int32) (y0 : Int32) (y1 : Int32) (x6 : Int32) (x7 : Int32) (x8 : Int32) (x9 : Int32) (x10 : Int32) (x11 : Int32), L_Law_sourcesAreSo G σ n 6 x1 x2 x3 x4 x5 y0 y1 x6 x7 x8 x9 x10 x11 = some r → zWV G p l e rm_Law_sourcesAreSo s m args below meth c 14 0 0 (zQ G below args s rm_Law_sourcesAreSo (some (.int r)) σ) 327 [(0, .ref (zad G 4 80)), (1, .int x1), (2, .int x2), (3, .int x3), (4, .int x4), (5, .int x5), (6, .int x6), (7, .int x7), (8, .int x8), (9, .int x9), (11, .int x11)] [] σ) ∧ (∀ (x1 : Int32) (x2 : Int32) (x3 : Int32) (x4 : Int32) (x5 : Int32) (y0 : Int32) (y1 : Int32) (x6 : Int32) (x7 : Int32) (x8 : Int32) (x9 : Int32) (x10 : Int32) (x11 : Int32), L_Law_sourcesAreSo G σ n 7 x1 x2 x3 x4 x5 y0 y1 x6 x7 x8 x9 x10 x11 = some r → zWV G p l e rm_Law_sourcesAreSo s m args below meth c 14 0 0 (zQ G below args s rm_Law_sourcesAreSo (some (.int r)) σ) 379 [(0, .ref (zad G 4 80)), (1, .int x1), (2, .int x2), (3, .int x3), (4, .int x4), (5, .int x5), (6, .int x6), (7, .int x7), (9, .int x9), (11, .int x11)] [] σ) ∧ (∀ (x1 : Int32) (x2 : Int32) (x3 : Int32) (x4 : Int32) (x5 : Int32) (y0 : Int32) (y1 : Int32) (x6 : Int32) (x7 : Int32) (x8 : Int32) (x9 : Int32) (x10 : Int32) (x11 : Int32), L_Law_sourcesAreSo G σ n 8 x1 x2 x3 x4 x5 y0 y1 x6 x7 x8 x9 x10 x11 = some r → zWV G p l e rm_Law_sourcesAreSo s m args below meth c 14 0 0 (zQ G below args s rm_Law_sourcesAreSo (some (.int r)) σ) 420 [(0, .ref (zad G 4 80)), (1, .int x1), (2, .int x2), (3, .int x3), (4, .int x4), (5, .int x5), (6, .int x6), (7, .int x7), (9, .int x9), (11, .int x11)] [.int y0] σ) ∧ (∀ (x1 : Int32) (x2 : Int32) (x3 : Int32) (x4 : Int32) (x5 : Int32) (y0 : Int32) (y1 : Int32) (x6 : Int32) (x7 : Int32) (x8 : Int32) (x9 : Int32) (x10 : Int32) (x11 : Int32), L_Law_sourcesAreSo G σ n 9 x1 x2 x3 x4 x5 y0 y1 x6 x7 x8 x9 x10 x11 = some r → zWV G p l e rm_Law_sourcesAreSo s m args below meth c 14 0 0 (zQ G below args s rm_Law_sourcesAreSo (some (.int r)) σ) 453 [(0, .ref (zad G 4 80)), (1, .int x1), (2, .int x2), (3, .int x3), (4, .int x4), (5, .int x5), (6, .int x6), (7, .int x7), (9, .int x9), (11, .int x11)] [.int y0] σ) := by
  intro n
  induction n with
  | zero => exact ⟨fun _ _ _ _ _ _ _ _ _ _ _ _ _ hf => (by cases hf), fun _ _ _ _ _ _ _ _ _ _ _ _ _ hf => (by cases hf), fun _ _ _ _ _ _ _ _ _ _ _ _ _ hf => (by cases hf), fun _ _ _ _ _ _ _ _ _ _ _ _ _ hf => (by cases hf), fun _ _ _ _ _ _ _ _ _ _ _ _ _ hf => (by cases hf), fun _ _ _ _ _ _ _ _ _ _ _ _ _ hf => (by cases hf), fun _ _ _ _ _ _ _ _ _ _ _ _ _ hf => (by cases hf), fun _ _ _ _ _ _ _ _ _ _ _ _ _ hf => (by cases hf), fun _ _ _ _ _ _ _ _ _ _ _ _ _ hf => (by cases hf), fun _ _ _ _ _ _ _ _ _ _ _ _ _ hf => (by cases hf)⟩
  | succ n ih =>
    refine ⟨?_, ?_, ?_, ?_, ?_, ?_, ?_, ?_, ?_, ?_⟩
    · intro x1 x2 x3 x4 x5 y0 y1 x6 x7 x8 x9 x10 x11 hf
      rw [e_Law_sourcesAreSo_0] at hf
      refine z_iload_n C d_Law_sourcesAreSo_2 1 rfl rfl ?_
      refine z_aload_n C d_Law_sourcesAreSo_3 0 rfl rfl ?_
      refine gf_Law_10 C hm rfl rfl d_Law_sourcesAreSo_4 ?_
      refine z_bipush C d_Law_sourcesAreSo_7 zkb_7 ?_
      obtain ⟨r2, h1, hf⟩ := bd_s hf
      refine z_cHi C kh_Law_count (c_Law_count hx h1) rfl rfl (Nat.le_of_ble_eq_true rfl) ⟨(Nat.le_of_ble_eq_true rfl), (Nat.le_of_ble_eq_true rfl)⟩ ⟨(Nat.le_of_ble_eq_true rfl), (Nat.le_of_ble_eq_true rfl)⟩ d_Law_sourcesAreSo_9 ?_
      refine z_icmp_ge (tgt := 513) C d_Law_sourcesAreSo_12 rfl (fun h18 => ?_) (fun h18 => ?_)
      · have hf := iff_t hf h18
        refine z_iconst C d_Law_sourcesAreSo_513 zki_1 ?_
        cases hf
        exact z_zret C rfl rfl (Nat.le_of_ble_eq_true rfl) (Nat.le_of_ble_eq_true rfl) d_Law_sourcesAreSo_514
      · have hf := iff_f hf h18
        refine z_aload_n C d_Law_sourcesAreSo_15 0 rfl rfl ?_
        refine gf_Law_10 C hm rfl rfl d_Law_sourcesAreSo_16 ?_
        refine z_iload_n C d_Law_sourcesAreSo_19 1 rfl rfl ?_
        refine z_iconst C d_Law_sourcesAreSo_20 zki_0 ?_
        obtain ⟨r4, h3, hf⟩ := bd_s hf
        refine z_cHi C kh_Law_news (c_Law_news hx h3) rfl rfl (Nat.le_of_ble_eq_true rfl) ⟨(Nat.le_of_ble_eq_true rfl), (Nat.le_of_ble_eq_true rfl)⟩ ⟨(Nat.le_of_ble_eq_true rfl), (Nat.le_of_ble_eq_true rfl)⟩ d_Law_sourcesAreSo_21 ?_
        refine z_istore_n C d_Law_sourcesAreSo_24 rfl (by decide) ?_
        refine z_lv (lv1 := [(2, .int r4), (0, .ref (zad G 4 80)), (1, .int x1)]) rfl ?_
        refine z_aload_n C d_Law_sourcesAreSo_25 1 rfl rfl ?_
        refine gf_Law_10 C hm rfl rfl d_Law_sourcesAreSo_26 ?_
        refine z_iload_n C d_Law_sourcesAreSo_29 2 rfl rfl ?_
        refine z_bipush C d_Law_sourcesAreSo_30 zkb_6 ?_
        obtain ⟨r6, h5, hf⟩ := bd_s hf
        refine z_cHi C kh_Law_news (c_Law_news hx h5) rfl rfl (Nat.le_of_ble_eq_true rfl) ⟨(Nat.le_of_ble_eq_true rfl), (Nat.le_of_ble_eq_true rfl)⟩ ⟨(Nat.le_of_ble_eq_true rfl), (Nat.le_of_ble_eq_true rfl)⟩ d_Law_sourcesAreSo_32 ?_
        refine z_istore_n C d_Law_sourcesAreSo_35 rfl (by decide) ?_
        refine z_lv (lv1 := [(3, .int r6), (2, .int r4), (0, .ref (zad G 4 80)), (1, .int x1)]) rfl ?_
        refine z_aload_n C d_Law_sourcesAreSo_36 2 rfl rfl ?_
        refine gf_Law_10 C hm rfl rfl d_Law_sourcesAreSo_37 ?_
        refine z_iload_n C d_Law_sourcesAreSo_40 3 rfl rfl ?_
        refine z_bipush C d_Law_sourcesAreSo_41 zkb_7 ?_
        obtain ⟨r8, h7, hf⟩ := bd_s hf
        refine z_cHi C kh_Law_news (c_Law_news hx h7) rfl rfl (Nat.le_of_ble_eq_true rfl) ⟨(Nat.le_of_ble_eq_true rfl), (Nat.le_of_ble_eq_true rfl)⟩ ⟨(Nat.le_of_ble_eq_true rfl), (Nat.le_of_ble_eq_true rfl)⟩ d_Law_sourcesAreSo_43 ?_
        refine z_istore C d_Law_sourcesAreSo_46 (by decide) ?_
        refine z_lv (lv1 := [(4, .int r8), (3, .int r6), (2, .int r4), (0, .ref (zad G 4 80)), (1, .int x1)]) rfl ?_
        refine z_iconst C d_Law_sourcesAreSo_48 zki_0 ?_
        refine z_istore C d_Law_sourcesAreSo_49 (by decide) ?_
        refine z_lv (lv1 := [(5, .int (0 : Int32)), (4, .int r8), (3, .int r6), (2, .int r4), (0, .ref (zad G 4 80)), (1, .int x1)]) rfl ?_
        refine z_iload_n C d_Law_sourcesAreSo_51 2 rfl rfl ?_
        refine z_iload_n C d_Law_sourcesAreSo_52 3 rfl rfl ?_
        refine z_ishr C d_Law_sourcesAreSo_53 ?_
        refine z_iconst C d_Law_sourcesAreSo_54 zki_1 ?_
        refine z_iand C d_Law_sourcesAreSo_55 ?_
        refine z_if_eq (tgt := 124) C d_Law_sourcesAreSo_56 rfl (fun h17 => ?_) (fun h17 => ?_)
        · have hf := iff_t hf h17
          refine z_iconst C d_Law_sourcesAreSo_124 zki_0 ?_
          cases hf
          exact z_zret C rfl rfl (Nat.le_of_ble_eq_true rfl) (Nat.le_of_ble_eq_true rfl) d_Law_sourcesAreSo_125
        · have hf := iff_f hf h17
          refine z_aload_n C d_Law_sourcesAreSo_59 4 rfl rfl ?_
          refine gf_Law_10 C hm rfl rfl d_Law_sourcesAreSo_60 ?_
          refine z_iload_n C d_Law_sourcesAreSo_63 3 rfl rfl ?_
          refine z_iload_n C d_Law_sourcesAreSo_64 5 rfl rfl ?_
          obtain ⟨r10, h9, hf⟩ := bd_s hf
          refine z_cHi C kh_Law_source (c_Law_source hx h9) rfl rfl (Nat.le_of_ble_eq_true rfl) ⟨(Nat.le_of_ble_eq_true rfl), (Nat.le_of_ble_eq_true rfl)⟩ ⟨(Nat.le_of_ble_eq_true rfl), (Nat.le_of_ble_eq_true rfl)⟩ d_Law_sourcesAreSo_65 ?_
          refine z_iconst C d_Law_sourcesAreSo_68 zki_m1 ?_
          refine z_icmp_ne (tgt := 124) C d_Law_sourcesAreSo_69 rfl (fun h16 => ?_) (fun h16 => ?_)
          · have hf := iff_f hf h16
            refine z_iconst C d_Law_sourcesAreSo_124 zki_0 ?_
            cases hf
            exact z_zret C rfl rfl (Nat.le_of_ble_eq_true rfl) (Nat.le_of_ble_eq_true rfl) d_Law_sourcesAreSo_125
          · have hf := iff_t hf h16
            refine z_aload_n C d_Law_sourcesAreSo_72 4 rfl rfl ?_
            refine gf_Law_10 C hm rfl rfl d_Law_sourcesAreSo_73 ?_
            refine z_iload_n C d_Law_sourcesAreSo_76 5 rfl rfl ?_
            refine z_bipush C d_Law_sourcesAreSo_77 zkb_8 ?_
            obtain ⟨r12, h11, hf⟩ := bd_s hf
            refine z_cHi C kh_Law_news (c_Law_news hx h11) rfl rfl (Nat.le_of_ble_eq_true rfl) ⟨(Nat.le_of_ble_eq_true rfl), (Nat.le_of_ble_eq_true rfl)⟩ ⟨(Nat.le_of_ble_eq_true rfl), (Nat.le_of_ble_eq_true rfl)⟩ d_Law_sourcesAreSo_79 ?_
            refine z_aload_n C d_Law_sourcesAreSo_82 4 rfl rfl ?_
            refine gf_Law_10 C hm rfl rfl d_Law_sourcesAreSo_83 ?_
            refine z_iload_n C d_Law_sourcesAreSo_86 5 rfl rfl ?_
            refine z_iconst C d_Law_sourcesAreSo_87 zki_4 ?_
            obtain ⟨r14, h13, hf⟩ := bd_s hf
            refine z_cHi C kh_Law_news (c_Law_news hx h13) rfl rfl (Nat.le_of_ble_eq_true rfl) ⟨(Nat.le_of_ble_eq_true rfl), (Nat.le_of_ble_eq_true rfl)⟩ ⟨(Nat.le_of_ble_eq_true rfl), (Nat.le_of_ble_eq_true rfl)⟩ d_Law_sourcesAreSo_88 ?_
            refine z_if_ge (tgt := 98) C d_Law_sourcesAreSo_91 rfl (fun h15 => ?_) (fun h15 => ?_)
            · have hf := iff_t hf h15
              refine z_iload_n C d_Law_sourcesAreSo_98 2 rfl rfl ?_
              refine z_iload C d_Law_sourcesAreSo_99 1 rfl ?_
              refine z_iconst C d_Law_sourcesAreSo_101 zki_m1 ?_
              refine z_ixor C d_Law_sourcesAreSo_102 ?_
              refine z_iand C d_Law_sourcesAreSo_103 ?_
              have hw := ih.2.1 _ _ _ _ _ _ _ _ _ _ _ _ _ hf
              exact z_sub [4, 5, 3, 2, 1, 0] rfl hw
            · have hf := iff_f hf h15
              refine z_iconst C d_Law_sourcesAreSo_94 zki_0 ?_
              refine z_goto (tgt := 104) C d_Law_sourcesAreSo_95 rfl ?_
              have hw := ih.2.1 _ _ _ _ _ _ _ _ _ _ _ _ _ hf
              exact z_sub [4, 5, 3, 2, 1, 0] rfl hw
    · intro x1 x2 x3 x4 x5 y0 y1 x6 x7 x8 x9 x10 x11 hf
      rw [e_Law_sourcesAreSo_1] at hf
      refine z_icmp_ne (tgt := 124) C d_Law_sourcesAreSo_104 rfl (fun h23 => ?_) (fun h23 => ?_)
      · have hf := iff_f hf h23
        refine z_iconst C d_Law_sourcesAreSo_124 zki_0 ?_
        cases hf
        exact z_zret C rfl rfl (Nat.le_of_ble_eq_true rfl) (Nat.le_of_ble_eq_true rfl) d_Law_sourcesAreSo_125
      · have hf := iff_t hf h23
        refine z_aload_n C d_Law_sourcesAreSo_107 0 rfl rfl ?_
        refine gf_Law_10 C hm rfl rfl d_Law_sourcesAreSo_108 ?_
        refine z_iload_n C d_Law_sourcesAreSo_111 1 rfl rfl ?_
        refine z_iconst C d_Law_sourcesAreSo_112 zki_4 ?_
        obtain ⟨r20, h19, hf⟩ := bd_s hf
        refine z_cHi C kh_Law_news (c_Law_news hx h19) rfl rfl (Nat.le_of_ble_eq_true rfl) ⟨(Nat.le_of_ble_eq_true rfl), (Nat.le_of_ble_eq_true rfl)⟩ ⟨(Nat.le_of_ble_eq_true rfl), (Nat.le_of_ble_eq_true rfl)⟩ d_Law_sourcesAreSo_113 ?_
        refine z_if_ge (tgt := 126) C d_Law_sourcesAreSo_116 rfl (fun h22 => ?_) (fun h22 => ?_)
        · have hf := iff_t hf h22
          have hw := ih.2.2.1 _ _ _ _ _ _ _ _ _ _ _ _ _ hf
          exact z_sub [0, 1, 2, 3, 4, 5] rfl hw
        · have hf := iff_f hf h22
          refine z_iload C d_Law_sourcesAreSo_119 4 rfl ?_
          refine z_if_eq (tgt := 126) C d_Law_sourcesAreSo_121 rfl (fun h21 => ?_) (fun h21 => ?_)
          · have hf := iff_t hf h21
            have hw := ih.2.2.1 _ _ _ _ _ _ _ _ _ _ _ _ _ hf
            exact z_sub [0, 1, 2, 3, 4, 5] rfl hw
          · have hf := iff_f hf h21
            refine z_iconst C d_Law_sourcesAreSo_124 zki_0 ?_
            cases hf
            exact z_zret C rfl rfl (Nat.le_of_ble_eq_true rfl) (Nat.le_of_ble_eq_true rfl) d_Law_sourcesAreSo_125
    · intro x1 x2 x3 x4 x5 y0 y1 x6 x7 x8 x9 x10 x11 hf
      rw [e_Law_sourcesAreSo_2] at hf
      refine z_aload_n C d_Law_sourcesAreSo_126 0 rfl rfl ?_
      refine gf_Law_10 C hm rfl rfl d_Law_sourcesAreSo_127 ?_
      refine z_iload_n C d_Law_sourcesAreSo_130 1 rfl rfl ?_
      refine z_iconst C d_Law_sourcesAreSo_131 zki_4 ?_
      obtain ⟨r25, h24, hf⟩ := bd_s hf
      refine z_cHi C kh_Law_news (c_Law_news hx h24) rfl rfl (Nat.le_of_ble_eq_true rfl) ⟨(Nat.le_of_ble_eq_true rfl), (Nat.le_of_ble_eq_true rfl)⟩ ⟨(Nat.le_of_ble_eq_true rfl), (Nat.le_of_ble_eq_true rfl)⟩ d_Law_sourcesAreSo_132 ?_
      refine z_if_lt (tgt := 157) C d_Law_sourcesAreSo_135 rfl (fun h29 => ?_) (fun h29 => ?_)
      · have hf := iff_t hf h29
        refine z_iconst C d_Law_sourcesAreSo_157 zki_0 ?_
        refine z_istore C d_Law_sourcesAreSo_158 (by decide) ?_
        refine z_lv (lv1 := [(6, .int (0 : Int32)), (0, .ref (zad G 4 80)), (1, .int x1), (2, .int x2), (3, .int x3), (4, .int x4), (5, .int x5)]) rfl ?_
        have hw := ih.2.2.2.1 _ _ _ _ _ _ _ _ _ _ _ _ _ hf
        exact z_sub [1, 2, 3, 4, 5, 6, 0] rfl hw
      · have hf := iff_f hf h29
        refine z_iload C d_Law_sourcesAreSo_138 4 rfl ?_
        refine z_aload_n C d_Law_sourcesAreSo_140 0 rfl rfl ?_
        refine gf_Law_10 C hm rfl rfl d_Law_sourcesAreSo_141 ?_
        refine z_iload_n C d_Law_sourcesAreSo_144 1 rfl rfl ?_
        refine z_iconst C d_Law_sourcesAreSo_145 zki_4 ?_
        obtain ⟨r27, h26, hf⟩ := bd_s hf
        refine z_cHi C kh_Law_news (c_Law_news hx h26) rfl rfl (Nat.le_of_ble_eq_true rfl) ⟨(Nat.le_of_ble_eq_true rfl), (Nat.le_of_ble_eq_true rfl)⟩ ⟨(Nat.le_of_ble_eq_true rfl), (Nat.le_of_ble_eq_true rfl)⟩ d_Law_sourcesAreSo_146 ?_
        refine z_ishr C d_Law_sourcesAreSo_149 ?_
        refine z_iconst C d_Law_sourcesAreSo_150 zki_1 ?_
        refine z_iand C d_Law_sourcesAreSo_151 ?_
        refine z_if_ne (tgt := 157) C d_Law_sourcesAreSo_152 rfl (fun h28 => ?_) (fun h28 => ?_)
        · have hf := iff_f hf h28
          refine z_iconst C d_Law_sourcesAreSo_157 zki_0 ?_
          refine z_istore C d_Law_sourcesAreSo_158 (by decide) ?_
          refine z_lv (lv1 := [(6, .int (0 : Int32)), (0, .ref (zad G 4 80)), (1, .int x1), (2, .int x2), (3, .int x3), (4, .int x4), (5, .int x5)]) rfl ?_
          have hw := ih.2.2.2.1 _ _ _ _ _ _ _ _ _ _ _ _ _ hf
          exact z_sub [1, 2, 3, 4, 5, 6, 0] rfl hw
        · have hf := iff_t hf h28
          refine z_iconst C d_Law_sourcesAreSo_155 zki_0 ?_
          cases hf
          exact z_zret C rfl rfl (Nat.le_of_ble_eq_true rfl) (Nat.le_of_ble_eq_true rfl) d_Law_sourcesAreSo_156
    · intro x1 x2 x3 x4 x5 y0 y1 x6 x7 x8 x9 x10 x11 hf
      rw [e_Law_sourcesAreSo_3] at hf
      refine z_iload C d_Law_sourcesAreSo_160 6 rfl ?_
      refine z_aload_n C d_Law_sourcesAreSo_162 0 rfl rfl ?_
      refine gf_Law_10 C hm rfl rfl d_Law_sourcesAreSo_163 ?_
      refine z_bipush C d_Law_sourcesAreSo_166 zkb_6 ?_
      obtain ⟨r31, h30, hf⟩ := bd_s hf
      refine z_cHi C kh_Law_count (c_Law_count hx h30) rfl rfl (Nat.le_of_ble_eq_true rfl) ⟨(Nat.le_of_ble_eq_true rfl), (Nat.le_of_ble_eq_true rfl)⟩ ⟨(Nat.le_of_ble_eq_true rfl), (Nat.le_of_ble_eq_true rfl)⟩ d_Law_sourcesAreSo_168 ?_
      refine z_icmp_ge (tgt := 490) C d_Law_sourcesAreSo_171 rfl (fun h40 => ?_) (fun h40 => ?_)
      · have hf := iff_t hf h40
        refine z_aload_n C d_Law_sourcesAreSo_490 0 rfl rfl ?_
        refine gf_Law_10 C hm rfl rfl d_Law_sourcesAreSo_491 ?_
        refine z_iload_n C d_Law_sourcesAreSo_494 1 rfl rfl ?_
        refine z_bipush C d_Law_sourcesAreSo_495 zkb_9 ?_
        obtain ⟨r33, h32, hf⟩ := bd_s hf
        refine z_cHi C kh_Law_news (c_Law_news hx h32) rfl rfl (Nat.le_of_ble_eq_true rfl) ⟨(Nat.le_of_ble_eq_true rfl), (Nat.le_of_ble_eq_true rfl)⟩ ⟨(Nat.le_of_ble_eq_true rfl), (Nat.le_of_ble_eq_true rfl)⟩ d_Law_sourcesAreSo_497 ?_
        refine z_iload C d_Law_sourcesAreSo_500 5 rfl ?_
        refine z_icmp_eq (tgt := 507) C d_Law_sourcesAreSo_502 rfl (fun h34 => ?_) (fun h34 => ?_)
        · have hf := iff_t hf h34
          refine z_iinc C d_Law_sourcesAreSo_507 1 rfl zki_1 (by decide) ?_
          refine z_lv (lv1 := [(1, .int (x1 + (1 : Int32))), (0, .ref (zad G 4 80)), (2, .int x2), (3, .int x3), (4, .int x4), (5, .int x5), (6, .int x6)]) rfl ?_
          refine z_goto (tgt := 2) C d_Law_sourcesAreSo_510 rfl ?_
          have hw := ih.1 _ _ _ _ _ _ _ _ _ _ _ _ _ hf
          exact z_sub [1, 0] rfl hw
        · have hf := iff_f hf h34
          refine z_iconst C d_Law_sourcesAreSo_505 zki_0 ?_
          cases hf
          exact z_zret C rfl rfl (Nat.le_of_ble_eq_true rfl) (Nat.le_of_ble_eq_true rfl) d_Law_sourcesAreSo_506
      · have hf := iff_f hf h40
        refine z_aload_n C d_Law_sourcesAreSo_174 0 rfl rfl ?_
        refine gf_Law_10 C hm rfl rfl d_Law_sourcesAreSo_175 ?_
        refine z_iload C d_Law_sourcesAreSo_178 6 rfl ?_
        refine z_iload_n C d_Law_sourcesAreSo_180 1 rfl rfl ?_
        obtain ⟨r36, h35, hf⟩ := bd_s hf
        refine z_cHi C kh_Law_source (c_Law_source hx h35) rfl rfl (Nat.le_of_ble_eq_true rfl) ⟨(Nat.le_of_ble_eq_true rfl), (Nat.le_of_ble_eq_true rfl)⟩ ⟨(Nat.le_of_ble_eq_true rfl), (Nat.le_of_ble_eq_true rfl)⟩ d_Law_sourcesAreSo_181 ?_
        refine z_istore C d_Law_sourcesAreSo_184 (by decide) ?_
        refine z_lv (lv1 := [(7, .int r36), (0, .ref (zad G 4 80)), (1, .int x1), (2, .int x2), (3, .int x3), (4, .int x4), (5, .int x5), (6, .int x6)]) rfl ?_
        refine z_iconst C d_Law_sourcesAreSo_186 zki_0 ?_
        refine z_istore C d_Law_sourcesAreSo_187 (by decide) ?_
        refine z_lv (lv1 := [(8, .int (0 : Int32)), (7, .int r36), (0, .ref (zad G 4 80)), (1, .int x1), (2, .int x2), (3, .int x3), (4, .int x4), (5, .int x5), (6, .int x6)]) rfl ?_
        refine z_aload_n C d_Law_sourcesAreSo_189 2 rfl rfl ?_
        refine gf_Law_10 C hm rfl rfl d_Law_sourcesAreSo_190 ?_
        refine z_iload C d_Law_sourcesAreSo_193 8 rfl ?_
        refine z_iload_n C d_Law_sourcesAreSo_195 3 rfl rfl ?_
        obtain ⟨r38, h37, hf⟩ := bd_s hf
        refine z_cHi C kh_Law_owes (c_Law_owes hx h37) rfl rfl (Nat.le_of_ble_eq_true rfl) ⟨(Nat.le_of_ble_eq_true rfl), (Nat.le_of_ble_eq_true rfl)⟩ ⟨(Nat.le_of_ble_eq_true rfl), (Nat.le_of_ble_eq_true rfl)⟩ d_Law_sourcesAreSo_196 ?_
        refine z_istore C d_Law_sourcesAreSo_199 (by decide) ?_
        refine z_lv (lv1 := [(9, .int r38), (8, .int (0 : Int32)), (7, .int r36), (0, .ref (zad G 4 80)), (1, .int x1), (2, .int x2), (3, .int x3), (4, .int x4), (5, .int x5), (6, .int x6)]) rfl ?_
        refine z_iload_n C d_Law_sourcesAreSo_201 6 rfl rfl ?_
        refine z_iload C d_Law_sourcesAreSo_202 9 rfl ?_
        refine z_ishr C d_Law_sourcesAreSo_204 ?_
        refine z_iconst C d_Law_sourcesAreSo_205 zki_1 ?_
        refine z_iand C d_Law_sourcesAreSo_206 ?_
        refine z_iconst C d_Law_sourcesAreSo_207 zki_1 ?_
        refine z_icmp_ne (tgt := 215) C d_Law_sourcesAreSo_208 rfl (fun h39 => ?_) (fun h39 => ?_)
        · have hf := iff_f hf h39
          refine z_iconst C d_Law_sourcesAreSo_215 zki_0 ?_
          have hw := ih.2.2.2.2.1 _ _ _ _ _ _ _ _ _ _ _ _ _ hf
          exact z_sub [3, 4, 5, 6, 7, 8, 9, 2, 1, 0] rfl hw
        · have hf := iff_t hf h39
          refine z_iconst C d_Law_sourcesAreSo_211 zki_1 ?_
          refine z_goto (tgt := 216) C d_Law_sourcesAreSo_212 rfl ?_
          have hw := ih.2.2.2.2.1 _ _ _ _ _ _ _ _ _ _ _ _ _ hf
          exact z_sub [3, 4, 5, 6, 7, 8, 9, 2, 1, 0] rfl hw
    · intro x1 x2 x3 x4 x5 y0 y1 x6 x7 x8 x9 x10 x11 hf
      rw [e_Law_sourcesAreSo_4] at hf
      refine z_istore C d_Law_sourcesAreSo_216 (by decide) ?_
      refine z_lv (lv1 := [(10, .int y0), (0, .ref (zad G 4 80)), (1, .int x1), (2, .int x2), (3, .int x3), (4, .int x4), (5, .int x5), (6, .int x6), (7, .int x7), (8, .int x8), (9, .int x9)]) rfl ?_
      refine z_aload_n C d_Law_sourcesAreSo_218 1 rfl rfl ?_
      refine gf_Law_10 C hm rfl rfl d_Law_sourcesAreSo_219 ?_
      refine z_iload C d_Law_sourcesAreSo_222 7 rfl ?_
      refine z_bipush C d_Law_sourcesAreSo_224 zkb_10 ?_
      obtain ⟨r42, h41, hf⟩ := bd_s hf
      refine z_cHi C kh_Law_house (c_Law_house hx h41) rfl rfl (Nat.le_of_ble_eq_true rfl) ⟨(Nat.le_of_ble_eq_true rfl), (Nat.le_of_ble_eq_true rfl)⟩ ⟨(Nat.le_of_ble_eq_true rfl), (Nat.le_of_ble_eq_true rfl)⟩ d_Law_sourcesAreSo_226 ?_
      refine z_iload_n C d_Law_sourcesAreSo_229 2 rfl rfl ?_
      refine z_ishr C d_Law_sourcesAreSo_230 ?_
      refine z_iconst C d_Law_sourcesAreSo_231 zki_1 ?_
      refine z_iand C d_Law_sourcesAreSo_232 ?_
      refine z_iload_n C d_Law_sourcesAreSo_233 4 rfl rfl ?_
      refine z_iload C d_Law_sourcesAreSo_234 7 rfl ?_
      refine z_ishr C d_Law_sourcesAreSo_236 ?_
      refine z_iconst C d_Law_sourcesAreSo_237 zki_1 ?_
      refine z_iand C d_Law_sourcesAreSo_238 ?_
      refine z_icmp_ne (tgt := 267) C d_Law_sourcesAreSo_239 rfl (fun h52 => ?_) (fun h52 => ?_)
      · have hf := iff_f hf h52
        refine z_iconst C d_Law_sourcesAreSo_267 zki_0 ?_
        cases hf
        exact z_zret C rfl rfl (Nat.le_of_ble_eq_true rfl) (Nat.le_of_ble_eq_true rfl) d_Law_sourcesAreSo_268
      · have hf := iff_t hf h52
        refine z_aload_n C d_Law_sourcesAreSo_242 1 rfl rfl ?_
        refine gf_Law_10 C hm rfl rfl d_Law_sourcesAreSo_243 ?_
        refine z_iload C d_Law_sourcesAreSo_246 7 rfl ?_
        refine z_bipush C d_Law_sourcesAreSo_248 zkb_11 ?_
        obtain ⟨r44, h43, hf⟩ := bd_s hf
        refine z_cHi C kh_Law_house (c_Law_house hx h43) rfl rfl (Nat.le_of_ble_eq_true rfl) ⟨(Nat.le_of_ble_eq_true rfl), (Nat.le_of_ble_eq_true rfl)⟩ ⟨(Nat.le_of_ble_eq_true rfl), (Nat.le_of_ble_eq_true rfl)⟩ d_Law_sourcesAreSo_250 ?_
        refine z_iload_n C d_Law_sourcesAreSo_253 2 rfl rfl ?_
        refine z_ishr C d_Law_sourcesAreSo_254 ?_
        refine z_iconst C d_Law_sourcesAreSo_255 zki_1 ?_
        refine z_iand C d_Law_sourcesAreSo_256 ?_
        refine z_iload C d_Law_sourcesAreSo_257 5 rfl ?_
        refine z_iload C d_Law_sourcesAreSo_259 7 rfl ?_
        refine z_ishr C d_Law_sourcesAreSo_261 ?_
        refine z_iconst C d_Law_sourcesAreSo_262 zki_1 ?_
        refine z_iand C d_Law_sourcesAreSo_263 ?_
        refine z_icmp_eq (tgt := 269) C d_Law_sourcesAreSo_264 rfl (fun h51 => ?_) (fun h51 => ?_)
        · have hf := iff_t hf h51
          refine z_iload C d_Law_sourcesAreSo_269 8 rfl ?_
          refine z_if_lt (tgt := 305) C d_Law_sourcesAreSo_271 rfl (fun h50 => ?_) (fun h50 => ?_)
          · have hf := iff_t hf h50
            have hw := ih.2.2.2.2.2.1 _ _ _ _ _ _ _ _ _ _ _ _ _ hf
            exact z_sub [1, 2, 3, 4, 5, 6, 7, 8, 9, 10, 0] rfl hw
          · have hf := iff_f hf h50
            refine z_iload C d_Law_sourcesAreSo_274 0 rfl ?_
            refine z_if_eq (tgt := 321) C d_Law_sourcesAreSo_276 rfl (fun h49 => ?_) (fun h49 => ?_)
            · have hf := iff_t hf h49
              refine z_iconst C d_Law_sourcesAreSo_321 zki_0 ?_
              cases hf
              exact z_zret C rfl rfl (Nat.le_of_ble_eq_true rfl) (Nat.le_of_ble_eq_true rfl) d_Law_sourcesAreSo_322
            · have hf := iff_f hf h49
              refine z_iload C d_Law_sourcesAreSo_279 8 rfl ?_
              refine z_iload C d_Law_sourcesAreSo_281 7 rfl ?_
              refine z_icmp_eq (tgt := 321) C d_Law_sourcesAreSo_283 rfl (fun h48 => ?_) (fun h48 => ?_)
              · have hf := iff_t hf h48
                refine z_iconst C d_Law_sourcesAreSo_321 zki_0 ?_
                cases hf
                exact z_zret C rfl rfl (Nat.le_of_ble_eq_true rfl) (Nat.le_of_ble_eq_true rfl) d_Law_sourcesAreSo_322
              · have hf := iff_f hf h48
                refine z_aload_n C d_Law_sourcesAreSo_286 1 rfl rfl ?_
                refine gf_Law_10 C hm rfl rfl d_Law_sourcesAreSo_287 ?_
                refine z_iload C d_Law_sourcesAreSo_290 8 rfl ?_
                refine z_bipush C d_Law_sourcesAreSo_292 zkb_14 ?_
                obtain ⟨r46, h45, hf⟩ := bd_s hf
                refine z_cHi C kh_Law_house (c_Law_house hx h45) rfl rfl (Nat.le_of_ble_eq_true rfl) ⟨(Nat.le_of_ble_eq_true rfl), (Nat.le_of_ble_eq_true rfl)⟩ ⟨(Nat.le_of_ble_eq_true rfl), (Nat.le_of_ble_eq_true rfl)⟩ d_Law_sourcesAreSo_294 ?_
                refine z_iload C d_Law_sourcesAreSo_297 7 rfl ?_
                refine z_ishr C d_Law_sourcesAreSo_299 ?_
                refine z_iconst C d_Law_sourcesAreSo_300 zki_1 ?_
                refine z_iand C d_Law_sourcesAreSo_301 ?_
                refine z_if_eq (tgt := 321) C d_Law_sourcesAreSo_302 rfl (fun h47 => ?_) (fun h47 => ?_)
                · have hf := iff_t hf h47
                  refine z_iconst C d_Law_sourcesAreSo_321 zki_0 ?_
                  cases hf
                  exact z_zret C rfl rfl (Nat.le_of_ble_eq_true rfl) (Nat.le_of_ble_eq_true rfl) d_Law_sourcesAreSo_322
                · have hf := iff_f hf h47
                  have hw := ih.2.2.2.2.2.1 _ _ _ _ _ _ _ _ _ _ _ _ _ hf
                  exact z_sub [1, 2, 3, 4, 5, 6, 7, 8, 9, 10, 0] rfl hw
        · have hf := iff_f hf h51
          refine z_iconst C d_Law_sourcesAreSo_267 zki_0 ?_
          cases hf
          exact z_zret C rfl rfl (Nat.le_of_ble_eq_true rfl) (Nat.le_of_ble_eq_true rfl) d_Law_sourcesAreSo_268
    · intro x1 x2 x3 x4 x5 y0 y1 x6 x7 x8 x9 x10 x11 hf
      rw [e_Law_sourcesAreSo_5] at hf
      refine z_iload C d_Law_sourcesAreSo_305 10 rfl ?_
      refine z_if_eq (tgt := 323) C d_Law_sourcesAreSo_307 rfl (fun h55 => ?_) (fun h55 => ?_)
      · have hf := iff_t hf h55
        refine z_iload C d_Law_sourcesAreSo_323 6 rfl ?_
        refine z_istore C d_Law_sourcesAreSo_325 (by decide) ?_
        refine z_lv (lv1 := [(11, .int x6), (0, .ref (zad G 4 80)), (1, .int x1), (2, .int x2), (3, .int x3), (4, .int x4), (5, .int x5), (6, .int x6), (7, .int x7), (8, .int x8), (9, .int x9), (10, .int x10)]) rfl ?_
        have hw := ih.2.2.2.2.2.2.1 _ _ _ _ _ _ _ _ _ _ _ _ _ hf
        exact z_sub [1, 2, 3, 4, 5, 6, 7, 8, 9, 10, 0] rfl hw
      · have hf := iff_f hf h55
        refine z_iload C d_Law_sourcesAreSo_310 7 rfl ?_
        refine z_if_ge (tgt := 323) C d_Law_sourcesAreSo_312 rfl (fun h54 => ?_) (fun h54 => ?_)
        · have hf := iff_t hf h54
          refine z_iload C d_Law_sourcesAreSo_323 6 rfl ?_
          refine z_istore C d_Law_sourcesAreSo_325 (by decide) ?_
          refine z_lv (lv1 := [(11, .int x6), (0, .ref (zad G 4 80)), (1, .int x1), (2, .int x2), (3, .int x3), (4, .int x4), (5, .int x5), (6, .int x6), (7, .int x7), (8, .int x8), (9, .int x9), (10, .int x10)]) rfl ?_
          have hw := ih.2.2.2.2.2.2.1 _ _ _ _ _ _ _ _ _ _ _ _ _ hf
          exact z_sub [1, 2, 3, 4, 5, 6, 7, 8, 9, 10, 0] rfl hw
        · have hf := iff_f hf h54
          refine z_iload C d_Law_sourcesAreSo_315 6 rfl ?_
          refine z_iload_n C d_Law_sourcesAreSo_317 2 rfl rfl ?_
          refine z_icmp_eq (tgt := 323) C d_Law_sourcesAreSo_318 rfl (fun h53 => ?_) (fun h53 => ?_)
          · have hf := iff_t hf h53
            refine z_iload C d_Law_sourcesAreSo_323 6 rfl ?_
            refine z_istore C d_Law_sourcesAreSo_325 (by decide) ?_
            refine z_lv (lv1 := [(11, .int x6), (0, .ref (zad G 4 80)), (1, .int x1), (2, .int x2), (3, .int x3), (4, .int x4), (5, .int x5), (6, .int x6), (7, .int x7), (8, .int x8), (9, .int x9), (10, .int x10)]) rfl ?_
            have hw := ih.2.2.2.2.2.2.1 _ _ _ _ _ _ _ _ _ _ _ _ _ hf
            exact z_sub [1, 2, 3, 4, 5, 6, 7, 8, 9, 10, 0] rfl hw
          · have hf := iff_f hf h53
            refine z_iconst C d_Law_sourcesAreSo_321 zki_0 ?_
            cases hf
            exact z_zret C rfl rfl (Nat.le_of_ble_eq_true rfl) (Nat.le_of_ble_eq_true rfl) d_Law_sourcesAreSo_322
    · intro x1 x2 x3 x4 x5 y0 y1 x6 x7 x8 x9 x10 x11 hf
      rw [e_Law_sourcesAreSo_6] at hf
      refine z_aload_n C d_Law_sourcesAreSo_327 0 rfl rfl ?_
      refine gf_Law_10 C hm rfl rfl d_Law_sourcesAreSo_328 ?_
      refine z_iload C d_Law_sourcesAreSo_331 10 rfl ?_
      refine z_iload_n C d_Law_sourcesAreSo_333 1 rfl rfl ?_
      obtain ⟨r57, h56, hf⟩ := bd_s hf
      refine z_cHi C kh_Law_source (c_Law_source hx h56) rfl rfl (Nat.le_of_ble_eq_true rfl) ⟨(Nat.le_of_ble_eq_true rfl), (Nat.le_of_ble_eq_true rfl)⟩ ⟨(Nat.le_of_ble_eq_true rfl), (Nat.le_of_ble_eq_true rfl)⟩ d_Law_sourcesAreSo_334 ?_
      refine z_if_lt (tgt := 358) C d_Law_sourcesAreSo_337 rfl (fun h61 => ?_) (fun h61 => ?_)
      · have hf := iff_t hf h61
        refine z_iload C d_Law_sourcesAreSo_358 8 rfl ?_
        refine z_bipush C d_Law_sourcesAreSo_360 zkb_11 ?_
        refine z_icmp_le (tgt := 367) C d_Law_sourcesAreSo_362 rfl (fun h58 => ?_) (fun h58 => ?_)
        · have hf := iff_t hf h58
          refine z_iload C d_Law_sourcesAreSo_367 5 rfl ?_
          refine z_iload C d_Law_sourcesAreSo_369 8 rfl ?_
          refine z_mmax C zq400 rfl (Nat.le_of_ble_eq_true rfl) (Nat.le_of_ble_eq_true rfl) (Nat.le_of_ble_eq_true rfl) (Nat.le_of_ble_eq_true rfl) (Nat.le_of_ble_eq_true rfl) d_Law_sourcesAreSo_371 ?_
          refine z_istore C d_Law_sourcesAreSo_374 (by decide) ?_
          refine z_lv (lv1 := [(5, .int (if x5 < x8 then x8 else x5)), (0, .ref (zad G 4 80)), (1, .int x1), (2, .int x2), (3, .int x3), (4, .int x4), (6, .int x6), (7, .int x7), (8, .int x8), (9, .int x9), (11, .int x11)]) rfl ?_
          refine z_iconst C d_Law_sourcesAreSo_376 zki_0 ?_
          refine z_istore C d_Law_sourcesAreSo_377 (by decide) ?_
          refine z_lv (lv1 := [(11, .int (0 : Int32)), (5, .int (if x5 < x8 then x8 else x5)), (0, .ref (zad G 4 80)), (1, .int x1), (2, .int x2), (3, .int x3), (4, .int x4), (6, .int x6), (7, .int x7), (8, .int x8), (9, .int x9)]) rfl ?_
          have hw := ih.2.2.2.2.2.2.2.1 _ _ _ _ _ _ _ _ _ _ _ _ _ hf
          exact z_sub [2, 3, 4, 5, 6, 1, 7, 8, 10, 0] rfl hw
        · have hf := iff_f hf h58
          refine z_iconst C d_Law_sourcesAreSo_365 zki_0 ?_
          cases hf
          exact z_zret C rfl rfl (Nat.le_of_ble_eq_true rfl) (Nat.le_of_ble_eq_true rfl) d_Law_sourcesAreSo_366
      · have hf := iff_f hf h61
        refine z_iinc C d_Law_sourcesAreSo_340 8 rfl zki_1 (by decide) ?_
        refine z_lv (lv1 := [(8, .int (x8 + (1 : Int32))), (0, .ref (zad G 4 80)), (1, .int x1), (2, .int x2), (3, .int x3), (4, .int x4), (5, .int x5), (6, .int x6), (7, .int x7), (9, .int x9), (11, .int x11)]) rfl ?_
        refine z_aload_n C d_Law_sourcesAreSo_343 1 rfl rfl ?_
        refine gf_Law_10 C hm rfl rfl d_Law_sourcesAreSo_344 ?_
        refine z_iload C d_Law_sourcesAreSo_347 10 rfl ?_
        refine z_iload_n C d_Law_sourcesAreSo_349 2 rfl rfl ?_
        obtain ⟨r60, h59, hf⟩ := bd_s hf
        refine z_cHi C kh_Law_source (c_Law_source hx h59) rfl rfl (Nat.le_of_ble_eq_true rfl) ⟨(Nat.le_of_ble_eq_true rfl), (Nat.le_of_ble_eq_true rfl)⟩ ⟨(Nat.le_of_ble_eq_true rfl), (Nat.le_of_ble_eq_true rfl)⟩ d_Law_sourcesAreSo_350 ?_
        refine z_istore C d_Law_sourcesAreSo_353 (by decide) ?_
        refine z_lv (lv1 := [(11, .int r60), (8, .int (x8 + (1 : Int32))), (0, .ref (zad G 4 80)), (1, .int x1), (2, .int x2), (3, .int x3), (4, .int x4), (5, .int x5), (6, .int x6), (7, .int x7), (9, .int x9)]) rfl ?_
        refine z_goto (tgt := 327) C d_Law_sourcesAreSo_355 rfl ?_
        have hw := ih.2.2.2.2.2.2.1 _ _ _ _ _ _ _ _ _ _ _ _ _ hf
        exact z_sub [2, 3, 4, 5, 6, 7, 8, 9, 1, 10, 0] rfl hw
    · intro x1 x2 x3 x4 x5 y0 y1 x6 x7 x8 x9 x10 x11 hf
      rw [e_Law_sourcesAreSo_7] at hf
      refine z_iload C d_Law_sourcesAreSo_379 9 rfl ?_
      refine z_aload_n C d_Law_sourcesAreSo_381 0 rfl rfl ?_
      refine gf_Law_10 C hm rfl rfl d_Law_sourcesAreSo_382 ?_
      refine z_bipush C d_Law_sourcesAreSo_385 zkb_6 ?_
      obtain ⟨r63, h62, hf⟩ := bd_s hf
      refine z_cHi C kh_Law_count (c_Law_count hx h62) rfl rfl (Nat.le_of_ble_eq_true rfl) ⟨(Nat.le_of_ble_eq_true rfl), (Nat.le_of_ble_eq_true rfl)⟩ ⟨(Nat.le_of_ble_eq_true rfl), (Nat.le_of_ble_eq_true rfl)⟩ d_Law_sourcesAreSo_387 ?_
      refine z_icmp_ge (tgt := 484) C d_Law_sourcesAreSo_390 rfl (fun h68 => ?_) (fun h68 => ?_)
      · have hf := iff_t hf h68
        refine z_iinc C d_Law_sourcesAreSo_484 6 rfl zki_1 (by decide) ?_
        refine z_lv (lv1 := [(6, .int (x6 + (1 : Int32))), (0, .ref (zad G 4 80)), (1, .int x1), (2, .int x2), (3, .int x3), (4, .int x4), (5, .int x5), (7, .int x7), (9, .int x9), (11, .int x11)]) rfl ?_
        refine z_goto (tgt := 160) C d_Law_sourcesAreSo_487 rfl ?_
        have hw := ih.2.2.2.1 _ _ _ _ _ _ _ _ _ _ _ _ _ hf
        exact z_sub [1, 2, 3, 4, 5, 6, 0] rfl hw
      · have hf := iff_f hf h68
        refine z_aload_n C d_Law_sourcesAreSo_393 0 rfl rfl ?_
        refine gf_Law_10 C hm rfl rfl d_Law_sourcesAreSo_394 ?_
        refine z_iload C d_Law_sourcesAreSo_397 9 rfl ?_
        refine z_iload_n C d_Law_sourcesAreSo_399 1 rfl rfl ?_
        obtain ⟨r65, h64, hf⟩ := bd_s hf
        refine z_cHi C kh_Law_source (c_Law_source hx h64) rfl rfl (Nat.le_of_ble_eq_true rfl) ⟨(Nat.le_of_ble_eq_true rfl), (Nat.le_of_ble_eq_true rfl)⟩ ⟨(Nat.le_of_ble_eq_true rfl), (Nat.le_of_ble_eq_true rfl)⟩ d_Law_sourcesAreSo_400 ?_
        refine z_iload C d_Law_sourcesAreSo_403 6 rfl ?_
        refine z_icmp_eq (tgt := 415) C d_Law_sourcesAreSo_405 rfl (fun h67 => ?_) (fun h67 => ?_)
        · have hf := iff_t hf h67
          refine z_iconst C d_Law_sourcesAreSo_415 zki_1 ?_
          refine z_goto (tgt := 420) C d_Law_sourcesAreSo_416 rfl ?_
          have hw := ih.2.2.2.2.2.2.2.2.1 _ _ _ _ _ _ _ _ _ _ _ _ _ hf
          exact z_sub [0, 1, 2, 3, 4, 5, 6, 7, 8, 9] rfl hw
        · have hf := iff_f hf h67
          refine z_iload C d_Law_sourcesAreSo_408 7 rfl ?_
          refine z_iload C d_Law_sourcesAreSo_410 9 rfl ?_
          refine z_icmp_ne (tgt := 419) C d_Law_sourcesAreSo_412 rfl (fun h66 => ?_) (fun h66 => ?_)
          · have hf := iff_f hf h66
            refine z_iconst C d_Law_sourcesAreSo_419 zki_0 ?_
            have hw := ih.2.2.2.2.2.2.2.2.1 _ _ _ _ _ _ _ _ _ _ _ _ _ hf
            exact z_sub [0, 1, 2, 3, 4, 5, 6, 7, 8, 9] rfl hw
          · have hf := iff_t hf h66
            refine z_iconst C d_Law_sourcesAreSo_415 zki_1 ?_
            refine z_goto (tgt := 420) C d_Law_sourcesAreSo_416 rfl ?_
            have hw := ih.2.2.2.2.2.2.2.2.1 _ _ _ _ _ _ _ _ _ _ _ _ _ hf
            exact z_sub [0, 1, 2, 3, 4, 5, 6, 7, 8, 9] rfl hw
    · intro x1 x2 x3 x4 x5 y0 y1 x6 x7 x8 x9 x10 x11 hf
      rw [e_Law_sourcesAreSo_8] at hf
      refine z_istore C d_Law_sourcesAreSo_420 (by decide) ?_
      refine z_lv (lv1 := [(12, .int y0), (0, .ref (zad G 4 80)), (1, .int x1), (2, .int x2), (3, .int x3), (4, .int x4), (5, .int x5), (6, .int x6), (7, .int x7), (9, .int x9), (11, .int x11)]) rfl ?_
      refine z_iload C d_Law_sourcesAreSo_422 0 rfl ?_
      refine z_if_eq (tgt := 452) C d_Law_sourcesAreSo_424 rfl (fun h71 => ?_) (fun h71 => ?_)
      · have hf := iff_t hf h71
        refine z_iconst C d_Law_sourcesAreSo_452 zki_0 ?_
        have hw := ih.2.2.2.2.2.2.2.2.2 _ _ _ _ _ _ _ _ _ _ _ _ _ hf
        exact z_sub [1, 2, 3, 4, 5, 6, 7, 8, 9, 10] rfl hw
      · have hf := iff_f hf h71
        refine z_iload C d_Law_sourcesAreSo_427 5 rfl ?_
        refine z_iload C d_Law_sourcesAreSo_429 7 rfl ?_
        refine z_ishr C d_Law_sourcesAreSo_431 ?_
        refine z_iconst C d_Law_sourcesAreSo_432 zki_1 ?_
        refine z_iand C d_Law_sourcesAreSo_433 ?_
        refine z_iconst C d_Law_sourcesAreSo_434 zki_1 ?_
        refine z_icmp_ne (tgt := 452) C d_Law_sourcesAreSo_435 rfl (fun h70 => ?_) (fun h70 => ?_)
        · have hf := iff_f hf h70
          refine z_iconst C d_Law_sourcesAreSo_452 zki_0 ?_
          have hw := ih.2.2.2.2.2.2.2.2.2 _ _ _ _ _ _ _ _ _ _ _ _ _ hf
          exact z_sub [1, 2, 3, 4, 5, 6, 7, 8, 9, 10] rfl hw
        · have hf := iff_t hf h70
          refine z_iload C d_Law_sourcesAreSo_438 5 rfl ?_
          refine z_iload C d_Law_sourcesAreSo_440 10 rfl ?_
          refine z_ishr C d_Law_sourcesAreSo_442 ?_
          refine z_iconst C d_Law_sourcesAreSo_443 zki_1 ?_
          refine z_iand C d_Law_sourcesAreSo_444 ?_
          refine z_if_ne (tgt := 452) C d_Law_sourcesAreSo_445 rfl (fun h69 => ?_) (fun h69 => ?_)
          · have hf := iff_f hf h69
            refine z_iconst C d_Law_sourcesAreSo_452 zki_0 ?_
            have hw := ih.2.2.2.2.2.2.2.2.2 _ _ _ _ _ _ _ _ _ _ _ _ _ hf
            exact z_sub [1, 2, 3, 4, 5, 6, 7, 8, 9, 10] rfl hw
          · have hf := iff_t hf h69
            refine z_iconst C d_Law_sourcesAreSo_448 zki_1 ?_
            refine z_goto (tgt := 453) C d_Law_sourcesAreSo_449 rfl ?_
            have hw := ih.2.2.2.2.2.2.2.2.2 _ _ _ _ _ _ _ _ _ _ _ _ _ hf
            exact z_sub [1, 2, 3, 4, 5, 6, 7, 8, 9, 10] rfl hw
    · intro x1 x2 x3 x4 x5 y0 y1 x6 x7 x8 x9 x10 x11 hf
      rw [e_Law_sourcesAreSo_9] at hf
      refine z_istore C d_Law_sourcesAreSo_453 (by decide) ?_
      refine z_lv (lv1 := [(13, .int y0), (0, .ref (zad G 4 80)), (1, .int x1), (2, .int x2), (3, .int x3), (4, .int x4), (5, .int x5), (6, .int x6), (7, .int x7), (9, .int x9), (11, .int x11)]) rfl ?_
      refine z_iload C d_Law_sourcesAreSo_455 0 rfl ?_
      refine z_iload C d_Law_sourcesAreSo_457 9 rfl ?_
      refine z_iload C d_Law_sourcesAreSo_459 10 rfl ?_
      refine z_ishr C d_Law_sourcesAreSo_461 ?_
      refine z_iconst C d_Law_sourcesAreSo_462 zki_1 ?_
      refine z_iand C d_Law_sourcesAreSo_463 ?_
      refine z_iconst C d_Law_sourcesAreSo_464 zki_1 ?_
      refine z_icmp_ne (tgt := 472) C d_Law_sourcesAreSo_465 rfl (fun h74 => ?_) (fun h74 => ?_)
      · have hf := iff_f hf h74
        refine z_iconst C d_Law_sourcesAreSo_472 zki_0 ?_
        refine z_icmp_eq (tgt := 478) C d_Law_sourcesAreSo_473 rfl (fun h72 => ?_) (fun h72 => ?_)
        · have hf := iff_t hf h72
          refine z_iinc C d_Law_sourcesAreSo_478 10 rfl zki_1 (by decide) ?_
          refine z_lv (lv1 := [(11, .int (x11 + (1 : Int32))), (13, .int y0), (0, .ref (zad G 4 80)), (1, .int x1), (2, .int x2), (3, .int x3), (4, .int x4), (5, .int x5), (6, .int x6), (7, .int x7), (9, .int x9)]) rfl ?_
          refine z_goto (tgt := 379) C d_Law_sourcesAreSo_481 rfl ?_
          have hw := ih.2.2.2.2.2.2.2.1 _ _ _ _ _ _ _ _ _ _ _ _ _ hf
          exact z_sub [2, 3, 4, 5, 6, 7, 8, 9, 10, 0] rfl hw
        · have hf := iff_f hf h72
          refine z_iconst C d_Law_sourcesAreSo_476 zki_0 ?_
          cases hf
          exact z_zret C rfl rfl (Nat.le_of_ble_eq_true rfl) (Nat.le_of_ble_eq_true rfl) d_Law_sourcesAreSo_477
      · have hf := iff_t hf h74
        refine z_iconst C d_Law_sourcesAreSo_468 zki_1 ?_
        refine z_goto (tgt := 473) C d_Law_sourcesAreSo_469 rfl ?_
        refine z_icmp_eq (tgt := 478) C d_Law_sourcesAreSo_473 rfl (fun h73 => ?_) (fun h73 => ?_)
        · have hf := iff_t hf h73
          refine z_iinc C d_Law_sourcesAreSo_478 10 rfl zki_1 (by decide) ?_
          refine z_lv (lv1 := [(11, .int (x11 + (1 : Int32))), (13, .int y0), (0, .ref (zad G 4 80)), (1, .int x1), (2, .int x2), (3, .int x3), (4, .int x4), (5, .int x5), (6, .int x6), (7, .int x7), (9, .int x9)]) rfl ?_
          refine z_goto (tgt := 379) C d_Law_sourcesAreSo_481 rfl ?_
          have hw := ih.2.2.2.2.2.2.2.1 _ _ _ _ _ _ _ _ _ _ _ _ _ hf
          exact z_sub [2, 3, 4, 5, 6, 7, 8, 9, 10, 0] rfl hw
        · have hf := iff_f hf h73
          refine z_iconst C d_Law_sourcesAreSo_476 zki_0 ?_
          cases hf
          exact z_zret C rfl rfl (Nat.le_of_ble_eq_true rfl) (Nat.le_of_ble_eq_true rfl) d_Law_sourcesAreSo_477
def F_Law_sourcesAreSo (G : zLA) (σ : zSt) : Option (Int32) :=
  L_Law_sourcesAreSo G σ zK 0 (0 : Int32) 0 0 0 0 0 0 0 0 0 0 0 0
set_option maxHeartbeats 4000000 in
set_option maxRecDepth 100000 in
theorem c_Law_sourcesAreSo {l : Launch} {G : zLA} (hx : zxl G) (hm : zml G) {σ : zSt} {r : Int32} (hf : F_Law_sourcesAreSo G σ = some r) : zM l G y_Law_sourcesAreSo (zws y_Law_sourcesAreSo b_Law_sourcesAreSo 14 (some .boolean)) rm_Law_sourcesAreSo [.ref (zad G 4 80)] σ (some (.int r)) σ := by
  refine z_ofM (own := "VillageWavesLaw") (lv := [(0, .ref (zad G 4 80))]) (by decide +kernel) rfl rfl (Nat.le_of_ble_eq_true rfl) (fun p e s m args below meth c C => ?_)
  rw [F_Law_sourcesAreSo] at hf
  refine z_iconst C d_Law_sourcesAreSo_0 zki_0 ?_
  refine z_istore_n C d_Law_sourcesAreSo_1 rfl (by decide) ?_
  refine z_lv (lv1 := [(1, .int (0 : Int32)), (0, .ref (zad G 4 80))]) rfl ?_
  have hw := (w_Law_sourcesAreSo (l := l) (e := e) (below := below) C hx hm zK).1 _ _ _ _ _ _ _ _ _ _ _ _ _ hf
  exact z_sub [1, 0] rfl hw
