theorem hd_Md_looks : y_Md_looks.cls ≠ "java/lang/invoke/MethodHandle" ∧ y_Md_looks.cls ≠ "java/lang/invoke/VarHandle" ∧ (parseMethodDescriptor y_Md_looks.desc).map (fun d => d.parameters.length) = some 3 := by decide +kernel
theorem d_Md_looks_0 : decode b_Md_looks 0 = .ok (.aload_n 0, 1) := by decide +kernel
theorem d_Md_looks_1 : decode b_Md_looks 1 = .ok (.getfield 18, 3) := by decide +kernel
theorem d_Md_looks_4 : decode b_Md_looks 4 = .ok (.iconst 0, 1) := by decide +kernel
theorem d_Md_looks_5 : decode b_Md_looks 5 = .ok (.iload_n 1, 1) := by decide +kernel
theorem d_Md_looks_6 : decode b_Md_looks 6 = .ok (.iastore, 1) := by decide +kernel
theorem d_Md_looks_7 : decode b_Md_looks 7 = .ok (.aload_n 0, 1) := by decide +kernel
theorem d_Md_looks_8 : decode b_Md_looks 8 = .ok (.getfield 18, 3) := by decide +kernel
theorem d_Md_looks_11 : decode b_Md_looks 11 = .ok (.iconst 1, 1) := by decide +kernel
theorem d_Md_looks_12 : decode b_Md_looks 12 = .ok (.aload_n 0, 1) := by decide +kernel
theorem d_Md_looks_13 : decode b_Md_looks 13 = .ok (.getfield 9, 3) := by decide +kernel
theorem d_Md_looks_16 : decode b_Md_looks 16 = .ok (.bipush 10, 2) := by decide +kernel
theorem d_Md_looks_18 : decode b_Md_looks 18 = .ok (.iload_n 1, 1) := by decide +kernel
theorem d_Md_looks_19 : decode b_Md_looks 19 = .ok (.iadd, 1) := by decide +kernel
theorem d_Md_looks_20 : decode b_Md_looks 20 = .ok (.iaload, 1) := by decide +kernel
theorem d_Md_looks_21 : decode b_Md_looks 21 = .ok (.iastore, 1) := by decide +kernel
theorem d_Md_looks_22 : decode b_Md_looks 22 = .ok (.aload_n 0, 1) := by decide +kernel
theorem d_Md_looks_23 : decode b_Md_looks 23 = .ok (.getfield 18, 3) := by decide +kernel
theorem d_Md_looks_26 : decode b_Md_looks 26 = .ok (.iconst 2, 1) := by decide +kernel
theorem d_Md_looks_27 : decode b_Md_looks 27 = .ok (.aload_n 0, 1) := by decide +kernel
theorem d_Md_looks_28 : decode b_Md_looks 28 = .ok (.getfield 9, 3) := by decide +kernel
theorem d_Md_looks_31 : decode b_Md_looks 31 = .ok (.bipush 28, 2) := by decide +kernel
theorem d_Md_looks_33 : decode b_Md_looks 33 = .ok (.iload_n 1, 1) := by decide +kernel
theorem d_Md_looks_34 : decode b_Md_looks 34 = .ok (.iadd, 1) := by decide +kernel
theorem d_Md_looks_35 : decode b_Md_looks 35 = .ok (.iaload, 1) := by decide +kernel
theorem d_Md_looks_36 : decode b_Md_looks 36 = .ok (.iastore, 1) := by decide +kernel
theorem d_Md_looks_37 : decode b_Md_looks 37 = .ok (.aload_n 0, 1) := by decide +kernel
theorem d_Md_looks_38 : decode b_Md_looks 38 = .ok (.getfield 18, 3) := by decide +kernel
theorem d_Md_looks_41 : decode b_Md_looks 41 = .ok (.iconst 3, 1) := by decide +kernel
theorem d_Md_looks_42 : decode b_Md_looks 42 = .ok (.iload_n 2, 1) := by decide +kernel
theorem d_Md_looks_43 : decode b_Md_looks 43 = .ok (.invokestatic 139, 3) := by decide +kernel
theorem d_Md_looks_46 : decode b_Md_looks 46 = .ok (.iastore, 1) := by decide +kernel
theorem d_Md_looks_47 : decode b_Md_looks 47 = .ok (.aload_n 0, 1) := by decide +kernel
theorem d_Md_looks_48 : decode b_Md_looks 48 = .ok (.getfield 18, 3) := by decide +kernel
theorem d_Md_looks_51 : decode b_Md_looks 51 = .ok (.iconst 4, 1) := by decide +kernel
theorem d_Md_looks_52 : decode b_Md_looks 52 = .ok (.iload_n 3, 1) := by decide +kernel
theorem d_Md_looks_53 : decode b_Md_looks 53 = .ok (.iastore, 1) := by decide +kernel
theorem d_Md_looks_54 : decode b_Md_looks 54 = .ok (.aload_n 0, 1) := by decide +kernel
theorem d_Md_looks_55 : decode b_Md_looks 55 = .ok (.getfield 18, 3) := by decide +kernel
theorem d_Md_looks_58 : decode b_Md_looks 58 = .ok (.iconst 5, 1) := by decide +kernel
theorem d_Md_looks_59 : decode b_Md_looks 59 = .ok (.bipush 9, 2) := by decide +kernel
theorem d_Md_looks_61 : decode b_Md_looks 61 = .ok (.iastore, 1) := by decide +kernel
theorem d_Md_looks_62 : decode b_Md_looks 62 = .ok (.iconst 5, 1) := by decide +kernel
theorem d_Md_looks_63 : decode b_Md_looks 63 = .ok (.istore 4, 2) := by decide +kernel
theorem d_Md_looks_65 : decode b_Md_looks 65 = .ok (.iload 4, 2) := by decide +kernel
theorem d_Md_looks_67 : decode b_Md_looks 67 = .ok (.ifCond .lt 42, 3) := by decide +kernel
theorem d_Md_looks_70 : decode b_Md_looks 70 = .ok (.aload_n 0, 1) := by decide +kernel
theorem d_Md_looks_71 : decode b_Md_looks 71 = .ok (.getfield 18, 3) := by decide +kernel
theorem d_Md_looks_74 : decode b_Md_looks 74 = .ok (.iconst 5, 1) := by decide +kernel
theorem d_Md_looks_75 : decode b_Md_looks 75 = .ok (.iload 4, 2) := by decide +kernel
theorem d_Md_looks_77 : decode b_Md_looks 77 = .ok (.iload_n 1, 1) := by decide +kernel
theorem d_Md_looks_78 : decode b_Md_looks 78 = .ok (.if_icmp .eq 18, 3) := by decide +kernel
theorem d_Md_looks_81 : decode b_Md_looks 81 = .ok (.iload_n 2, 1) := by decide +kernel
theorem d_Md_looks_82 : decode b_Md_looks 82 = .ok (.iload 4, 2) := by decide +kernel
theorem d_Md_looks_84 : decode b_Md_looks 84 = .ok (.ishr, 1) := by decide +kernel
theorem d_Md_looks_85 : decode b_Md_looks 85 = .ok (.iconst 1, 1) := by decide +kernel
theorem d_Md_looks_86 : decode b_Md_looks 86 = .ok (.iand, 1) := by decide +kernel
theorem d_Md_looks_87 : decode b_Md_looks 87 = .ok (.iconst 1, 1) := by decide +kernel
theorem d_Md_looks_88 : decode b_Md_looks 88 = .ok (.if_icmp .ne 8, 3) := by decide +kernel
theorem d_Md_looks_91 : decode b_Md_looks 91 = .ok (.iload 4, 2) := by decide +kernel
theorem d_Md_looks_93 : decode b_Md_looks 93 = .ok (.goto 9, 3) := by decide +kernel
theorem d_Md_looks_96 : decode b_Md_looks 96 = .ok (.aload_n 0, 1) := by decide +kernel
theorem d_Md_looks_97 : decode b_Md_looks 97 = .ok (.getfield 18, 3) := by decide +kernel
theorem d_Md_looks_100 : decode b_Md_looks 100 = .ok (.iconst 5, 1) := by decide +kernel
theorem d_Md_looks_101 : decode b_Md_looks 101 = .ok (.iaload, 1) := by decide +kernel
theorem d_Md_looks_102 : decode b_Md_looks 102 = .ok (.iastore, 1) := by decide +kernel
theorem d_Md_looks_103 : decode b_Md_looks 103 = .ok (.iinc 4 (-1), 3) := by decide +kernel
theorem d_Md_looks_106 : decode b_Md_looks 106 = .ok (.goto (-41), 3) := by decide +kernel
theorem d_Md_looks_109 : decode b_Md_looks 109 = .ok (.aload_n 0, 1) := by decide +kernel
theorem d_Md_looks_110 : decode b_Md_looks 110 = .ok (.iconst 0, 1) := by decide +kernel
theorem d_Md_looks_111 : decode b_Md_looks 111 = .ok (.putfield 143, 3) := by decide +kernel
theorem d_Md_looks_114 : decode b_Md_looks 114 = .ok (.aload_n 0, 1) := by decide +kernel
theorem d_Md_looks_115 : decode b_Md_looks 115 = .ok (.iconst 0, 1) := by decide +kernel
theorem d_Md_looks_116 : decode b_Md_looks 116 = .ok (.putfield 146, 3) := by decide +kernel
theorem d_Md_looks_119 : decode b_Md_looks 119 = .ok (.aload_n 0, 1) := by decide +kernel
theorem d_Md_looks_120 : decode b_Md_looks 120 = .ok (.sipush 185, 3) := by decide +kernel
theorem d_Md_looks_123 : decode b_Md_looks 123 = .ok (.iconst 0, 1) := by decide +kernel
theorem d_Md_looks_124 : decode b_Md_looks 124 = .ok (.invokevirtual 135, 3) := by decide +kernel
theorem d_Md_looks_127 : decode b_Md_looks 127 = .ok (.istore 4, 2) := by decide +kernel
theorem d_Md_looks_129 : decode b_Md_looks 129 = .ok (.sipush 190, 3) := by decide +kernel
theorem d_Md_looks_132 : decode b_Md_looks 132 = .ok (.sipush 140, 3) := by decide +kernel
theorem d_Md_looks_135 : decode b_Md_looks 135 = .ok (.aload_n 0, 1) := by decide +kernel
theorem d_Md_looks_136 : decode b_Md_looks 136 = .ok (.getfield 9, 3) := by decide +kernel
theorem d_Md_looks_139 : decode b_Md_looks 139 = .ok (.iconst 5, 1) := by decide +kernel
theorem d_Md_looks_140 : decode b_Md_looks 140 = .ok (.iaload, 1) := by decide +kernel
theorem d_Md_looks_141 : decode b_Md_looks 141 = .ok (.imul, 1) := by decide +kernel
theorem d_Md_looks_142 : decode b_Md_looks 142 = .ok (.iadd, 1) := by decide +kernel
theorem d_Md_looks_143 : decode b_Md_looks 143 = .ok (.istore 5, 2) := by decide +kernel
theorem d_Md_looks_145 : decode b_Md_looks 145 = .ok (.iconst 0, 1) := by decide +kernel
theorem d_Md_looks_146 : decode b_Md_looks 146 = .ok (.istore 6, 2) := by decide +kernel
theorem d_Md_looks_148 : decode b_Md_looks 148 = .ok (.iload 5, 2) := by decide +kernel
theorem d_Md_looks_150 : decode b_Md_looks 150 = .ok (.istore 7, 2) := by decide +kernel
theorem d_Md_looks_152 : decode b_Md_looks 152 = .ok (.iload 7, 2) := by decide +kernel
theorem d_Md_looks_154 : decode b_Md_looks 154 = .ok (.iload 5, 2) := by decide +kernel
theorem d_Md_looks_156 : decode b_Md_looks 156 = .ok (.iload 4, 2) := by decide +kernel
theorem d_Md_looks_158 : decode b_Md_looks 158 = .ok (.iadd, 1) := by decide +kernel
theorem d_Md_looks_159 : decode b_Md_looks 159 = .ok (.if_icmp .ge 309, 3) := by decide +kernel
theorem d_Md_looks_162 : decode b_Md_looks 162 = .ok (.aload_n 0, 1) := by decide +kernel
theorem d_Md_looks_163 : decode b_Md_looks 163 = .ok (.getfield 9, 3) := by decide +kernel
theorem d_Md_looks_166 : decode b_Md_looks 166 = .ok (.iload 7, 2) := by decide +kernel
theorem d_Md_looks_168 : decode b_Md_looks 168 = .ok (.iaload, 1) := by decide +kernel
theorem d_Md_looks_169 : decode b_Md_looks 169 = .ok (.istore 8, 2) := by decide +kernel
theorem d_Md_looks_171 : decode b_Md_looks 171 = .ok (.iload 8, 2) := by decide +kernel
theorem d_Md_looks_173 : decode b_Md_looks 173 = .ok (.ifCond .lt 97, 3) := by decide +kernel
theorem d_Md_looks_176 : decode b_Md_looks 176 = .ok (.aload_n 0, 1) := by decide +kernel
theorem d_Md_looks_177 : decode b_Md_looks 177 = .ok (.getfield 18, 3) := by decide +kernel
theorem d_Md_looks_180 : decode b_Md_looks 180 = .ok (.iload 8, 2) := by decide +kernel
theorem d_Md_looks_182 : decode b_Md_looks 182 = .ok (.bipush 8, 2) := by decide +kernel
theorem d_Md_looks_184 : decode b_Md_looks 184 = .ok (.irem, 1) := by decide +kernel
theorem d_Md_looks_185 : decode b_Md_looks 185 = .ok (.iaload, 1) := by decide +kernel
theorem d_Md_looks_186 : decode b_Md_looks 186 = .ok (.istore 9, 2) := by decide +kernel
theorem d_Md_looks_188 : decode b_Md_looks 188 = .ok (.iload 8, 2) := by decide +kernel
theorem d_Md_looks_190 : decode b_Md_looks 190 = .ok (.bipush 8, 2) := by decide +kernel
theorem d_Md_looks_192 : decode b_Md_looks 192 = .ok (.idiv, 1) := by decide +kernel
theorem d_Md_looks_193 : decode b_Md_looks 193 = .ok (.iconst 4, 1) := by decide +kernel
theorem d_Md_looks_194 : decode b_Md_looks 194 = .ok (.irem, 1) := by decide +kernel
theorem d_Md_looks_195 : decode b_Md_looks 195 = .ok (.istore 10, 2) := by decide +kernel
theorem d_Md_looks_197 : decode b_Md_looks 197 = .ok (.iload 8, 2) := by decide +kernel
theorem d_Md_looks_199 : decode b_Md_looks 199 = .ok (.bipush 32, 2) := by decide +kernel
theorem d_Md_looks_201 : decode b_Md_looks 201 = .ok (.idiv, 1) := by decide +kernel
theorem d_Md_looks_202 : decode b_Md_looks 202 = .ok (.istore 11, 2) := by decide +kernel
theorem d_Md_looks_204 : decode b_Md_looks 204 = .ok (.aload_n 0, 1) := by decide +kernel
theorem d_Md_looks_205 : decode b_Md_looks 205 = .ok (.getfield 21, 3) := by decide +kernel
theorem d_Md_looks_208 : decode b_Md_looks 208 = .ok (.iload 6, 2) := by decide +kernel
theorem d_Md_looks_210 : decode b_Md_looks 210 = .ok (.iload 10, 2) := by decide +kernel
theorem d_Md_looks_212 : decode b_Md_looks 212 = .ok (.ifCond .ne 18, 3) := by decide +kernel
theorem d_Md_looks_215 : decode b_Md_looks 215 = .ok (.iload 9, 2) := by decide +kernel
theorem d_Md_looks_217 : decode b_Md_looks 217 = .ok (.iload 11, 2) := by decide +kernel
theorem d_Md_looks_219 : decode b_Md_looks 219 = .ok (.if_icmp .ge 7, 3) := by decide +kernel
theorem d_Md_looks_222 : decode b_Md_looks 222 = .ok (.iconst 1, 1) := by decide +kernel
theorem d_Md_looks_223 : decode b_Md_looks 223 = .ok (.goto 40, 3) := by decide +kernel
theorem d_Md_looks_226 : decode b_Md_looks 226 = .ok (.iconst 0, 1) := by decide +kernel
theorem d_Md_looks_227 : decode b_Md_looks 227 = .ok (.goto 36, 3) := by decide +kernel
theorem d_Md_looks_230 : decode b_Md_looks 230 = .ok (.iload 10, 2) := by decide +kernel
theorem d_Md_looks_232 : decode b_Md_looks 232 = .ok (.iconst 1, 1) := by decide +kernel
theorem d_Md_looks_233 : decode b_Md_looks 233 = .ok (.if_icmp .ne 18, 3) := by decide +kernel
theorem d_Md_looks_236 : decode b_Md_looks 236 = .ok (.iload 9, 2) := by decide +kernel
theorem d_Md_looks_238 : decode b_Md_looks 238 = .ok (.iload 11, 2) := by decide +kernel
theorem d_Md_looks_240 : decode b_Md_looks 240 = .ok (.if_icmp .ne 7, 3) := by decide +kernel
theorem d_Md_looks_243 : decode b_Md_looks 243 = .ok (.iconst 1, 1) := by decide +kernel
theorem d_Md_looks_244 : decode b_Md_looks 244 = .ok (.goto 19, 3) := by decide +kernel
theorem d_Md_looks_247 : decode b_Md_looks 247 = .ok (.iconst 0, 1) := by decide +kernel
theorem d_Md_looks_248 : decode b_Md_looks 248 = .ok (.goto 15, 3) := by decide +kernel
theorem d_Md_looks_251 : decode b_Md_looks 251 = .ok (.iload 9, 2) := by decide +kernel
theorem d_Md_looks_253 : decode b_Md_looks 253 = .ok (.iload 11, 2) := by decide +kernel
theorem d_Md_looks_255 : decode b_Md_looks 255 = .ok (.if_icmp .le 7, 3) := by decide +kernel
theorem d_Md_looks_258 : decode b_Md_looks 258 = .ok (.iconst 1, 1) := by decide +kernel
theorem d_Md_looks_259 : decode b_Md_looks 259 = .ok (.goto 4, 3) := by decide +kernel
theorem d_Md_looks_262 : decode b_Md_looks 262 = .ok (.iconst 0, 1) := by decide +kernel
theorem d_Md_looks_263 : decode b_Md_looks 263 = .ok (.bastore, 1) := by decide +kernel
theorem d_Md_looks_264 : decode b_Md_looks 264 = .ok (.iinc 6 1, 3) := by decide +kernel
theorem d_Md_looks_267 : decode b_Md_looks 267 = .ok (.goto 195, 3) := by decide +kernel
theorem d_Md_looks_270 : decode b_Md_looks 270 = .ok (.iload 8, 2) := by decide +kernel
theorem d_Md_looks_272 : decode b_Md_looks 272 = .ok (.iconst (-1), 1) := by decide +kernel
theorem d_Md_looks_273 : decode b_Md_looks 273 = .ok (.if_icmp .ne 32, 3) := by decide +kernel
theorem d_Md_looks_276 : decode b_Md_looks 276 = .ok (.aload_n 0, 1) := by decide +kernel
theorem d_Md_looks_277 : decode b_Md_looks 277 = .ok (.getfield 21, 3) := by decide +kernel
theorem d_Md_looks_280 : decode b_Md_looks 280 = .ok (.iload 6, 2) := by decide +kernel
theorem d_Md_looks_282 : decode b_Md_looks 282 = .ok (.iconst 1, 1) := by decide +kernel
theorem d_Md_looks_283 : decode b_Md_looks 283 = .ok (.isub, 1) := by decide +kernel
theorem d_Md_looks_284 : decode b_Md_looks 284 = .ok (.aload_n 0, 1) := by decide +kernel
theorem d_Md_looks_285 : decode b_Md_looks 285 = .ok (.getfield 21, 3) := by decide +kernel
theorem d_Md_looks_288 : decode b_Md_looks 288 = .ok (.iload 6, 2) := by decide +kernel
theorem d_Md_looks_290 : decode b_Md_looks 290 = .ok (.iconst 1, 1) := by decide +kernel
theorem d_Md_looks_291 : decode b_Md_looks 291 = .ok (.isub, 1) := by decide +kernel
theorem d_Md_looks_292 : decode b_Md_looks 292 = .ok (.baload, 1) := by decide +kernel
theorem d_Md_looks_293 : decode b_Md_looks 293 = .ok (.ifCond .ne 7, 3) := by decide +kernel
theorem d_Md_looks_296 : decode b_Md_looks 296 = .ok (.iconst 1, 1) := by decide +kernel
theorem d_Md_looks_297 : decode b_Md_looks 297 = .ok (.goto 4, 3) := by decide +kernel
theorem d_Md_looks_300 : decode b_Md_looks 300 = .ok (.iconst 0, 1) := by decide +kernel
theorem d_Md_looks_301 : decode b_Md_looks 301 = .ok (.bastore, 1) := by decide +kernel
theorem d_Md_looks_302 : decode b_Md_looks 302 = .ok (.goto 160, 3) := by decide +kernel
theorem d_Md_looks_305 : decode b_Md_looks 305 = .ok (.iload 8, 2) := by decide +kernel
theorem d_Md_looks_307 : decode b_Md_looks 307 = .ok (.bipush (-10), 2) := by decide +kernel
theorem d_Md_looks_309 : decode b_Md_looks 309 = .ok (.if_icmp .le 82, 3) := by decide +kernel
theorem d_Md_looks_312 : decode b_Md_looks 312 = .ok (.iinc 6 (-1), 3) := by decide +kernel
theorem d_Md_looks_315 : decode b_Md_looks 315 = .ok (.aload_n 0, 1) := by decide +kernel
theorem d_Md_looks_316 : decode b_Md_looks 316 = .ok (.getfield 21, 3) := by decide +kernel
theorem d_Md_looks_319 : decode b_Md_looks 319 = .ok (.iload 6, 2) := by decide +kernel
theorem d_Md_looks_321 : decode b_Md_looks 321 = .ok (.iconst 1, 1) := by decide +kernel
theorem d_Md_looks_322 : decode b_Md_looks 322 = .ok (.isub, 1) := by decide +kernel
theorem d_Md_looks_323 : decode b_Md_looks 323 = .ok (.iload 8, 2) := by decide +kernel
theorem d_Md_looks_325 : decode b_Md_looks 325 = .ok (.bipush (-2), 2) := by decide +kernel
theorem d_Md_looks_327 : decode b_Md_looks 327 = .ok (.if_icmp .ne 33, 3) := by decide +kernel
theorem d_Md_looks_330 : decode b_Md_looks 330 = .ok (.aload_n 0, 1) := by decide +kernel
theorem d_Md_looks_331 : decode b_Md_looks 331 = .ok (.getfield 21, 3) := by decide +kernel
theorem d_Md_looks_334 : decode b_Md_looks 334 = .ok (.iload 6, 2) := by decide +kernel
theorem d_Md_looks_336 : decode b_Md_looks 336 = .ok (.iconst 1, 1) := by decide +kernel
theorem d_Md_looks_337 : decode b_Md_looks 337 = .ok (.isub, 1) := by decide +kernel
theorem d_Md_looks_338 : decode b_Md_looks 338 = .ok (.baload, 1) := by decide +kernel
theorem d_Md_looks_339 : decode b_Md_looks 339 = .ok (.ifCond .eq 17, 3) := by decide +kernel
theorem d_Md_looks_342 : decode b_Md_looks 342 = .ok (.aload_n 0, 1) := by decide +kernel
theorem d_Md_looks_343 : decode b_Md_looks 343 = .ok (.getfield 21, 3) := by decide +kernel
theorem d_Md_looks_346 : decode b_Md_looks 346 = .ok (.iload 6, 2) := by decide +kernel
theorem d_Md_looks_348 : decode b_Md_looks 348 = .ok (.baload, 1) := by decide +kernel
theorem d_Md_looks_349 : decode b_Md_looks 349 = .ok (.ifCond .eq 7, 3) := by decide +kernel
theorem d_Md_looks_352 : decode b_Md_looks 352 = .ok (.iconst 1, 1) := by decide +kernel
theorem d_Md_looks_353 : decode b_Md_looks 353 = .ok (.goto 34, 3) := by decide +kernel
theorem d_Md_looks_356 : decode b_Md_looks 356 = .ok (.iconst 0, 1) := by decide +kernel
theorem d_Md_looks_357 : decode b_Md_looks 357 = .ok (.goto 30, 3) := by decide +kernel
theorem d_Md_looks_360 : decode b_Md_looks 360 = .ok (.aload_n 0, 1) := by decide +kernel
theorem d_Md_looks_361 : decode b_Md_looks 361 = .ok (.getfield 21, 3) := by decide +kernel
theorem d_Md_looks_364 : decode b_Md_looks 364 = .ok (.iload 6, 2) := by decide +kernel
theorem d_Md_looks_366 : decode b_Md_looks 366 = .ok (.iconst 1, 1) := by decide +kernel
theorem d_Md_looks_367 : decode b_Md_looks 367 = .ok (.isub, 1) := by decide +kernel
theorem d_Md_looks_368 : decode b_Md_looks 368 = .ok (.baload, 1) := by decide +kernel
theorem d_Md_looks_369 : decode b_Md_looks 369 = .ok (.ifCond .ne 13, 3) := by decide +kernel
theorem d_Md_looks_372 : decode b_Md_looks 372 = .ok (.aload_n 0, 1) := by decide +kernel
theorem d_Md_looks_373 : decode b_Md_looks 373 = .ok (.getfield 21, 3) := by decide +kernel
theorem d_Md_looks_376 : decode b_Md_looks 376 = .ok (.iload 6, 2) := by decide +kernel
theorem d_Md_looks_378 : decode b_Md_looks 378 = .ok (.baload, 1) := by decide +kernel
theorem d_Md_looks_379 : decode b_Md_looks 379 = .ok (.ifCond .eq 7, 3) := by decide +kernel
theorem d_Md_looks_382 : decode b_Md_looks 382 = .ok (.iconst 1, 1) := by decide +kernel
theorem d_Md_looks_383 : decode b_Md_looks 383 = .ok (.goto 4, 3) := by decide +kernel
theorem d_Md_looks_386 : decode b_Md_looks 386 = .ok (.iconst 0, 1) := by decide +kernel
theorem d_Md_looks_387 : decode b_Md_looks 387 = .ok (.bastore, 1) := by decide +kernel
theorem d_Md_looks_388 : decode b_Md_looks 388 = .ok (.goto 74, 3) := by decide +kernel
theorem d_Md_looks_391 : decode b_Md_looks 391 = .ok (.iconst 0, 1) := by decide +kernel
theorem d_Md_looks_392 : decode b_Md_looks 392 = .ok (.istore 6, 2) := by decide +kernel
theorem d_Md_looks_394 : decode b_Md_looks 394 = .ok (.aload_n 0, 1) := by decide +kernel
theorem d_Md_looks_395 : decode b_Md_looks 395 = .ok (.dup, 1) := by decide +kernel
theorem d_Md_looks_396 : decode b_Md_looks 396 = .ok (.getfield 143, 3) := by decide +kernel
theorem d_Md_looks_399 : decode b_Md_looks 399 = .ok (.aload_n 0, 1) := by decide +kernel
theorem d_Md_looks_400 : decode b_Md_looks 400 = .ok (.getfield 21, 3) := by decide +kernel
theorem d_Md_looks_403 : decode b_Md_looks 403 = .ok (.iconst 0, 1) := by decide +kernel
theorem d_Md_looks_404 : decode b_Md_looks 404 = .ok (.baload, 1) := by decide +kernel
theorem d_Md_looks_405 : decode b_Md_looks 405 = .ok (.ifCond .eq 19, 3) := by decide +kernel
theorem d_Md_looks_408 : decode b_Md_looks 408 = .ok (.iload 8, 2) := by decide +kernel
theorem d_Md_looks_410 : decode b_Md_looks 410 = .ok (.sipush (-200), 3) := by decide +kernel
theorem d_Md_looks_413 : decode b_Md_looks 413 = .ok (.if_icmp .eq 11, 3) := by decide +kernel
theorem d_Md_looks_416 : decode b_Md_looks 416 = .ok (.bipush (-10), 2) := by decide +kernel
theorem d_Md_looks_418 : decode b_Md_looks 418 = .ok (.iload 8, 2) := by decide +kernel
theorem d_Md_looks_420 : decode b_Md_looks 420 = .ok (.isub, 1) := by decide +kernel
theorem d_Md_looks_421 : decode b_Md_looks 421 = .ok (.goto 4, 3) := by decide +kernel
theorem d_Md_looks_424 : decode b_Md_looks 424 = .ok (.iconst 0, 1) := by decide +kernel
theorem d_Md_looks_425 : decode b_Md_looks 425 = .ok (.iadd, 1) := by decide +kernel
theorem d_Md_looks_426 : decode b_Md_looks 426 = .ok (.putfield 143, 3) := by decide +kernel
theorem d_Md_looks_429 : decode b_Md_looks 429 = .ok (.aload_n 0, 1) := by decide +kernel
theorem d_Md_looks_430 : decode b_Md_looks 430 = .ok (.aload_n 0, 1) := by decide +kernel
theorem d_Md_looks_431 : decode b_Md_looks 431 = .ok (.getfield 146, 3) := by decide +kernel
theorem d_Md_looks_434 : decode b_Md_looks 434 = .ok (.ifCond .ne 20, 3) := by decide +kernel
theorem d_Md_looks_437 : decode b_Md_looks 437 = .ok (.aload_n 0, 1) := by decide +kernel
theorem d_Md_looks_438 : decode b_Md_looks 438 = .ok (.getfield 21, 3) := by decide +kernel
theorem d_Md_looks_441 : decode b_Md_looks 441 = .ok (.iconst 0, 1) := by decide +kernel
theorem d_Md_looks_442 : decode b_Md_looks 442 = .ok (.baload, 1) := by decide +kernel
theorem d_Md_looks_443 : decode b_Md_looks 443 = .ok (.ifCond .eq 15, 3) := by decide +kernel
theorem d_Md_looks_446 : decode b_Md_looks 446 = .ok (.iload 8, 2) := by decide +kernel
theorem d_Md_looks_448 : decode b_Md_looks 448 = .ok (.sipush (-200), 3) := by decide +kernel
theorem d_Md_looks_451 : decode b_Md_looks 451 = .ok (.if_icmp .ne 7, 3) := by decide +kernel
theorem d_Md_looks_454 : decode b_Md_looks 454 = .ok (.iconst 1, 1) := by decide +kernel
theorem d_Md_looks_455 : decode b_Md_looks 455 = .ok (.goto 4, 3) := by decide +kernel
theorem d_Md_looks_458 : decode b_Md_looks 458 = .ok (.iconst 0, 1) := by decide +kernel
theorem d_Md_looks_459 : decode b_Md_looks 459 = .ok (.putfield 146, 3) := by decide +kernel
theorem d_Md_looks_462 : decode b_Md_looks 462 = .ok (.iinc 7 1, 3) := by decide +kernel
theorem d_Md_looks_465 : decode b_Md_looks 465 = .ok (.goto (-313), 3) := by decide +kernel
theorem d_Md_looks_468 : decode b_Md_looks 468 = .ok (.return_, 1) := by decide +kernel
def l_Md_looks_65 (n : Nat)  (v1 : Int32) (v2 : Int32)  : Nat → Int32 → (Nat → Int32) → (Nat → Nat → Int32) → Option ((Nat → Int32) × (Nat → Nat → Int32))
  | 0, _, _, _ => none
  | k + 1, v4, I, R => (if v4 < 0 then some (I, R) else (if v4 = v1 then some (R 9 5) else (if ((v2 >>> (v4 &&& 31)) &&& 1) = 1 then some v4 else some (R 9 5)) : Option (Int32)).bind fun x6 => l_Md_looks_65 n v1 v2 k (v4 + (-1)) I (upR R 9 5 x6))
set_option maxHeartbeats 4000000 in
theorem wl_Md_looks_65 {Q : State → Prop}  {p : Program} {l : Launch} {e : Env} {s : State} {m : MethodId} {args : Array Value} {below : List Frame} {meth : Method} {c : Code} {dC : Nat → ClassId} {dI : Nat → Nat → Nat} {ad : Nat → Nat} {cI cZ : ClassId} {A : Nat → Prop} {adK adV : Nat → Nat} (C : mC p s m args c b_Md_looks 12 dC dI cI cZ A adK adV) (hA : ∀ q, s.heap.size ≤ q → A q) (hr : meth.sig.returnType = none) (hlk : meth.locks = false) (n : Nat)  (v1 : Int32) (v2 : Int32)  : ∀ (k : Nat) (v4 : Int32) (I : Nat → Int32) (R : Nat → Nat → Int32) (r0 : Nat → Int32) (r1 : Nat → Nat → Int32), l_Md_looks_65 n v1 v2 k v4 I R = some (r0, r1) → (∀ (ls : Array Slot), lv_has ls 12 [(0, .ref (ad 0))] → ∀ (H : Heap) (locs : List Loc), mH A s.heap dC dI ad cI cZ r0 r1 H locs → W p l e (rL 6) s m args below meth c H locs 0 0 Q (F0 m 109 ls [])) → ∀ (ls : Array Slot), lv_has ls 12 [(0, .ref (ad 0)), (1, .int v1), (2, .int v2), (4, .int v4)] → ∀ (H : Heap) (locs : List Loc), mH A s.heap dC dI ad cI cZ I R H locs → W p l e (rL 6) s m args below meth c H locs 0 0 Q (F0 m 65 ls []) := by
  obtain ⟨hx, hb, hml, hown, hT, -⟩ := id C
  intro k
  induction k with
  | zero => intro v4 I R r0 r1 hf; exact absurd hf (by unfold l_Md_looks_65; exact fun h9 => by cases h9)
  | succ k ih =>
    intro v4 I R r0 r1 hf K ls hl H locs h
    unfold l_Md_looks_65 at hf
    refine lv_iload hx hb d_Md_looks_65 (lv_at hl 3 rfl) ?_
    refine lv_if_lt (tgt := 109) hx hb d_Md_looks_67 (by decide) (fun hc => ?_) (fun hc => ?_)
    · have hf := op_t hc hf
      obtain ⟨rfl, rfl⟩ := op_i2 hf
      exact K ls (lv_sub hl [0] rfl) H locs h
    · have hf := op_f hc hf
      refine lv_aload_n hx hb d_Md_looks_70 rfl (lv_at hl 0 rfl) ?_
      refine mg_9 C h d_Md_looks_71 ?_
      refine lv_iconst (v := 5) hx hb d_Md_looks_74 (by decide) ?_
      refine lv_iload hx hb d_Md_looks_75 (lv_at hl 3 rfl) ?_
      refine lv_iload_n hx hb d_Md_looks_77 rfl (lv_at hl 1 rfl) ?_
      obtain ⟨x6, he, hf⟩ := op_bind hf
      have K5 : ∀ (ls : Array Slot), lv_has ls 12 [(0, .ref (ad 0)), (1, .int v1), (2, .int v2), (4, .int v4)] → ∀ (H : Heap) (locs : List Loc), mH A s.heap dC dI ad cI cZ I R H locs → W p l e (rL 6) s m args below meth c H locs 0 0 Q (F0 m 102 ls [.int x6, .int 5, .ref (ad 9)]) := by
        intro ls hl H locs h
        refine ms_9 C h (j := 5) (by decide) (show ix 5 6 by decide) d_Md_looks_102 (fun H locs h => ?_)
        refine lv_iinc (v := (v4 + (-1))) (lv' := [(4, .int (v4 + (-1))), (0, .ref (ad 0)), (1, .int v1), (2, .int v2)]) hx hb d_Md_looks_103 hl (k := 3) rfl rfl (by decide) rfl (fun ls hl => ?_)
        refine lv_goto (tgt := 65) hx hb d_Md_looks_106 (by decide) ?_
        exact ih (v4 + (-1)) I (upR R 9 5 x6) _ _ hf K ls (lv_sub hl [1, 2, 3, 0] rfl) H locs h
      have hf := he
      refine lv_icmp_eq (tgt := 96) hx hb d_Md_looks_78 (by decide) (fun hc => ?_) (fun hc => ?_)
      · have hf := op_t hc hf
        refine lv_aload_n hx hb d_Md_looks_96 rfl (lv_at hl 0 rfl) ?_
        refine mg_9 C h d_Md_looks_97 ?_
        refine lv_iconst (v := 5) hx hb d_Md_looks_100 (by decide) ?_
        refine ma_9 C h (j := 5) (by decide) (show ix 5 6 by decide) d_Md_looks_101 ?_
        obtain rfl := op_i1 hf
        exact K5 ls (lv_sub hl [0, 1, 2, 3] rfl) H locs h
      · have hf := op_f hc hf
        refine lv_iload_n hx hb d_Md_looks_81 rfl (lv_at hl 2 rfl) ?_
        refine lv_iload hx hb d_Md_looks_82 (lv_at hl 3 rfl) ?_
        refine lv_ishr hx hb d_Md_looks_84 ?_
        refine lv_iconst (v := 1) hx hb d_Md_looks_85 (by decide) ?_
        refine lv_iand hx hb d_Md_looks_86 ?_
        refine lv_iconst (v := 1) hx hb d_Md_looks_87 (by decide) ?_
        refine lv_icmp_ne (tgt := 96) hx hb d_Md_looks_88 (by decide) (fun hc => ?_) (fun hc => ?_)
        · have hf := op_f hc hf
          refine lv_aload_n hx hb d_Md_looks_96 rfl (lv_at hl 0 rfl) ?_
          refine mg_9 C h d_Md_looks_97 ?_
          refine lv_iconst (v := 5) hx hb d_Md_looks_100 (by decide) ?_
          refine ma_9 C h (j := 5) (by decide) (show ix 5 6 by decide) d_Md_looks_101 ?_
          obtain rfl := op_i1 hf
          exact K5 ls (lv_sub hl [0, 1, 2, 3] rfl) H locs h
        · have hf := op_t hc hf
          refine lv_iload hx hb d_Md_looks_91 (lv_at hl 3 rfl) ?_
          refine lv_goto (tgt := 102) hx hb d_Md_looks_93 (by decide) ?_
          obtain rfl := op_i1 hf
          exact K5 ls (lv_sub hl [0, 1, 2, 3] rfl) H locs h
def l_Md_looks_152 (n : Nat)  (v4 : Int32) (v5 : Int32)  : Nat → Int32 → Int32 → (Nat → Int32) → (Nat → Nat → Int32) → Option ((Nat → Int32) × (Nat → Nat → Int32))
  | 0, _, _, _, _ => none
  | k + 1, v6, v7, I, R => (if (v5 + v4) ≤ v7 then some (I, R) else if ix v7 890 then (if (R 1 v7.toNatClampNeg) < 0 then (if (R 1 v7.toNatClampNeg) = (-1) then if ix (v6 - 1) 64 then (if (R 10 (v6 - 1).toNatClampNeg) = 0 then some 1 else some 0 : Option (Int32)).bind fun x30 => if ix (v6 - 1) 64 then some (v6, I, (upR R 10 (v6 - 1).toNatClampNeg (vp_nar .boolean x30))) else none else none else (if (R 1 v7.toNatClampNeg) ≤ (-10) then (if (R 10 0) = 0 then some 0 else (if (R 1 v7.toNatClampNeg) = (-200) then some 0 else some ((-10) - (R 1 v7.toNatClampNeg))) : Option (Int32)).bind fun x17 => (if ((upd I 11 ((I 11) + x17)) 12) = 0 then (if (R 10 0) = 0 then some 0 else (if (R 1 v7.toNatClampNeg) = (-200) then some 1 else some 0)) else some 1 : Option (Int32)).bind fun x19 => if isZ x19 then some (0, (upd (upd I 11 ((I 11) + x17)) 12 x19), R) else none else (if (R 1 v7.toNatClampNeg) = (-2) then if ix ((v6 + (-1)) - 1) 64 then (if (R 10 ((v6 + (-1)) - 1).toNatClampNeg) = 0 then some 0 else if ix (v6 + (-1)) 64 then (if (R 10 (v6 + (-1)).toNatClampNeg) = 0 then some 0 else some 1) else none) else none else if ix ((v6 + (-1)) - 1) 64 then (if (R 10 ((v6 + (-1)) - 1).toNatClampNeg) = 0 then if ix (v6 + (-1)) 64 then (if (R 10 (v6 + (-1)).toNatClampNeg) = 0 then some 0 else some 1) else none else some 1) else none : Option (Int32)).bind fun x22 => if ix ((v6 + (-1)) - 1) 64 then some ((v6 + (-1)), I, (upR R 10 ((v6 + (-1)) - 1).toNatClampNeg (vp_nar .boolean x22))) else none)) else if ix (((R 1 v7.toNatClampNeg) - (R 1 v7.toNatClampNeg) / 8 * 8)) 6 then (if (((R 1 v7.toNatClampNeg) / 8) - ((R 1 v7.toNatClampNeg) / 8) / 4 * 4) = 0 then (if ((R 1 v7.toNatClampNeg) / 32) ≤ (R 9 (((R 1 v7.toNatClampNeg) - (R 1 v7.toNatClampNeg) / 8 * 8)).toNatClampNeg) then some 0 else some 1) else (if (((R 1 v7.toNatClampNeg) / 8) - ((R 1 v7.toNatClampNeg) / 8) / 4 * 4) = 1 then (if (R 9 (((R 1 v7.toNatClampNeg) - (R 1 v7.toNatClampNeg) / 8 * 8)).toNatClampNeg) = ((R 1 v7.toNatClampNeg) / 32) then some 1 else some 0) else (if (R 9 (((R 1 v7.toNatClampNeg) - (R 1 v7.toNatClampNeg) / 8 * 8)).toNatClampNeg) ≤ ((R 1 v7.toNatClampNeg) / 32) then some 0 else some 1)) : Option (Int32)).bind fun x34 => if ix v6 64 then some ((v6 + 1), I, (upR R 10 v6.toNatClampNeg (vp_nar .boolean x34))) else none else none : Option (Int32 × (Nat → Int32) × (Nat → Nat → Int32))).bind fun (x13, I14, R15) => l_Md_looks_152 n v4 v5 k x13 (v7 + 1) I14 R15 else none)
set_option maxHeartbeats 4000000 in
theorem wl_Md_looks_152 {Q : State → Prop}  {p : Program} {l : Launch} {e : Env} {s : State} {m : MethodId} {args : Array Value} {below : List Frame} {meth : Method} {c : Code} {dC : Nat → ClassId} {dI : Nat → Nat → Nat} {ad : Nat → Nat} {cI cZ : ClassId} {A : Nat → Prop} {adK adV : Nat → Nat} (C : mC p s m args c b_Md_looks 12 dC dI cI cZ A adK adV) (hA : ∀ q, s.heap.size ≤ q → A q) (hr : meth.sig.returnType = none) (hlk : meth.locks = false) (n : Nat)  (v4 : Int32) (v5 : Int32)  : ∀ (k : Nat) (v6 : Int32) (v7 : Int32) (I : Nat → Int32) (R : Nat → Nat → Int32) (r0 : Nat → Int32) (r1 : Nat → Nat → Int32), l_Md_looks_152 n v4 v5 k v6 v7 I R = some (r0, r1) → (∀ (ls : Array Slot), lv_has ls 12 [] → ∀ (H : Heap) (locs : List Loc), mH A s.heap dC dI ad cI cZ r0 r1 H locs → W p l e (rL 6) s m args below meth c H locs 0 0 Q (F0 m 468 ls [])) → ∀ (ls : Array Slot), lv_has ls 12 [(0, .ref (ad 0)), (4, .int v4), (5, .int v5), (6, .int v6), (7, .int v7)] → ∀ (H : Heap) (locs : List Loc), mH A s.heap dC dI ad cI cZ I R H locs → W p l e (rL 6) s m args below meth c H locs 0 0 Q (F0 m 152 ls []) := by
  obtain ⟨hx, hb, hml, hown, hT, -⟩ := id C
  intro k
  induction k with
  | zero => intro v6 v7 I R r0 r1 hf; exact absurd hf (by unfold l_Md_looks_152; exact fun h9 => by cases h9)
  | succ k ih =>
    intro v6 v7 I R r0 r1 hf K ls hl H locs h
    unfold l_Md_looks_152 at hf
    refine lv_iload hx hb d_Md_looks_152 (lv_at hl 4 rfl) ?_
    refine lv_iload hx hb d_Md_looks_154 (lv_at hl 2 rfl) ?_
    refine lv_iload hx hb d_Md_looks_156 (lv_at hl 1 rfl) ?_
    refine lv_iadd hx hb d_Md_looks_158 ?_
    refine lv_icmp_ge (tgt := 468) hx hb d_Md_looks_159 (by decide) (fun hc => ?_) (fun hc => ?_)
    · have hf := op_t hc hf
      obtain ⟨rfl, rfl⟩ := op_i2 hf
      exact K ls (lv_sub hl [] rfl) H locs h
    · have hf := op_f hc hf
      refine lv_aload_n hx hb d_Md_looks_162 rfl (lv_at hl 0 rfl) ?_
      refine mg_1 C h d_Md_looks_163 ?_
      refine lv_iload hx hb d_Md_looks_166 (lv_at hl 4 rfl) ?_
      obtain ⟨h11, hf⟩ := op_if hf
      refine ma_1 C h rfl h11 d_Md_looks_168 ?_
      refine lv_istore (lv' := [(8, .int (R 1 v7.toNatClampNeg)), (0, .ref (ad 0)), (4, .int v4), (5, .int v5), (6, .int v6), (7, .int v7)]) hx hb d_Md_looks_169 hl (by decide) rfl (fun ls hl => ?_)
      refine lv_iload hx hb d_Md_looks_171 (lv_at hl 0 rfl) ?_
      obtain ⟨⟨x13, I14, R15⟩, he, hf⟩ := op_bind hf
      try dsimp only at hf
      have K12 : ∀ (ls : Array Slot), lv_has ls 12 [(0, .ref (ad 0)), (4, .int v4), (5, .int v5), (6, .int x13), (7, .int v7)] → ∀ (H : Heap) (locs : List Loc), mH A s.heap dC dI ad cI cZ I14 R15 H locs → W p l e (rL 6) s m args below meth c H locs 0 0 Q (F0 m 462 ls []) := by
        intro ls hl H locs h
        refine lv_iinc (v := (v7 + 1)) (lv' := [(7, .int (v7 + 1)), (0, .ref (ad 0)), (4, .int v4), (5, .int v5), (6, .int x13)]) hx hb d_Md_looks_462 hl (k := 4) rfl rfl (by decide) rfl (fun ls hl => ?_)
        refine lv_goto (tgt := 152) hx hb d_Md_looks_465 (by decide) ?_
        exact ih x13 (v7 + 1) I14 R15 _ _ hf K ls (lv_sub hl [1, 2, 3, 4, 0] rfl) H locs h
      have hf := he
      refine lv_if_lt (tgt := 270) hx hb d_Md_looks_173 (by decide) (fun hc => ?_) (fun hc => ?_)
      · have hf := op_t hc hf
        refine lv_iload hx hb d_Md_looks_270 (lv_at hl 0 rfl) ?_
        refine lv_iconst (v := (-1)) hx hb d_Md_looks_272 (by decide) ?_
        refine lv_icmp_ne (tgt := 305) hx hb d_Md_looks_273 (by decide) (fun hc => ?_) (fun hc => ?_)
        · have hf := op_f hc hf
          refine lv_iload hx hb d_Md_looks_305 (lv_at hl 0 rfl) ?_
          refine lv_bipush (v := (-10)) hx hb d_Md_looks_307 (by decide) ?_
          refine lv_icmp_le (tgt := 391) hx hb d_Md_looks_309 (by decide) (fun hc => ?_) (fun hc => ?_)
          · have hf := op_t hc hf
            refine lv_iconst (v := 0) hx hb d_Md_looks_391 (by decide) ?_
            refine lv_istore (lv' := [(6, .int 0), (8, .int (R 1 v7.toNatClampNeg)), (0, .ref (ad 0)), (4, .int v4), (5, .int v5), (7, .int v7)]) hx hb d_Md_looks_392 hl (by decide) rfl (fun ls hl => ?_)
            refine lv_aload_n hx hb d_Md_looks_394 rfl (lv_at hl 2 rfl) ?_
            refine lv_dup hx hb d_Md_looks_395 rfl ?_
            refine mg_11 C h d_Md_looks_396 ?_
            refine lv_aload_n hx hb d_Md_looks_399 rfl (lv_at hl 2 rfl) ?_
            refine mg_10 C h d_Md_looks_400 ?_
            refine lv_iconst (v := 0) hx hb d_Md_looks_403 (by decide) ?_
            refine ma_10 C h (j := 0) (by decide) (show ix 0 64 by decide) d_Md_looks_404 ?_
            obtain ⟨x17, he, hf⟩ := op_bind hf
            have K16 : ∀ (ls : Array Slot), lv_has ls 12 [(0, .ref (ad 0)), (4, .int v4), (5, .int v5), (6, .int 0), (7, .int v7), (8, .int (R 1 v7.toNatClampNeg))] → ∀ (H : Heap) (locs : List Loc), mH A s.heap dC dI ad cI cZ I R H locs → W p l e (rL 6) s m args below meth c H locs 0 0 Q (F0 m 425 ls [.int x17, .int (I 11), .ref (ad 0)]) := by
              intro ls hl H locs h
              refine lv_iadd hx hb d_Md_looks_425 ?_
              refine mp_11 C h d_Md_looks_426 (fun H locs h => ?_)
              refine lv_aload_n hx hb d_Md_looks_429 rfl (lv_at hl 0 rfl) ?_
              refine lv_aload_n hx hb d_Md_looks_430 rfl (lv_at hl 0 rfl) ?_
              refine mg_12 C h d_Md_looks_431 ?_
              obtain ⟨x19, he, hf⟩ := op_bind hf
              have K18 : ∀ (ls : Array Slot), lv_has ls 12 [(0, .ref (ad 0)), (4, .int v4), (5, .int v5), (6, .int 0), (7, .int v7)] → ∀ (H : Heap) (locs : List Loc), mH A s.heap dC dI ad cI cZ (upd I 11 ((I 11) + x17)) R H locs → W p l e (rL 6) s m args below meth c H locs 0 0 Q (F0 m 459 ls [.int x19, .ref (ad 0)]) := by
                intro ls hl H locs h
                obtain ⟨h20, hf⟩ := op_if hf
                refine mp_12 C h h20 d_Md_looks_459 (fun H locs h => ?_)
                obtain ⟨rfl, rfl, rfl⟩ := op_i3 hf
                exact K12 ls (lv_sub hl [0, 1, 2, 3, 4] rfl) H locs h
              have hf := he
              refine lv_if_ne (tgt := 454) hx hb d_Md_looks_434 (by decide) (fun hc => ?_) (fun hc => ?_)
              · have hf := op_f hc hf
                refine lv_iconst (v := 1) hx hb d_Md_looks_454 (by decide) ?_
                refine lv_goto (tgt := 459) hx hb d_Md_looks_455 (by decide) ?_
                obtain rfl := op_i1 hf
                exact K18 ls (lv_sub hl [0, 1, 2, 3, 4] rfl) H locs h
              · have hf := op_t hc hf
                refine lv_aload_n hx hb d_Md_looks_437 rfl (lv_at hl 0 rfl) ?_
                refine mg_10 C h d_Md_looks_438 ?_
                refine lv_iconst (v := 0) hx hb d_Md_looks_441 (by decide) ?_
                refine ma_10 C h (j := 0) (by decide) (show ix 0 64 by decide) d_Md_looks_442 ?_
                refine lv_if_eq (tgt := 458) hx hb d_Md_looks_443 (by decide) (fun hc => ?_) (fun hc => ?_)
                · have hf := op_t hc hf
                  refine lv_iconst (v := 0) hx hb d_Md_looks_458 (by decide) ?_
                  obtain rfl := op_i1 hf
                  exact K18 ls (lv_sub hl [0, 1, 2, 3, 4] rfl) H locs h
                · have hf := op_f hc hf
                  refine lv_iload hx hb d_Md_looks_446 (lv_at hl 5 rfl) ?_
                  refine lv_sipush (v := (-200)) hx hb d_Md_looks_448 (by decide) ?_
                  refine lv_icmp_ne (tgt := 458) hx hb d_Md_looks_451 (by decide) (fun hc => ?_) (fun hc => ?_)
                  · have hf := op_f hc hf
                    refine lv_iconst (v := 0) hx hb d_Md_looks_458 (by decide) ?_
                    obtain rfl := op_i1 hf
                    exact K18 ls (lv_sub hl [0, 1, 2, 3, 4] rfl) H locs h
                  · have hf := op_t hc hf
                    refine lv_iconst (v := 1) hx hb d_Md_looks_454 (by decide) ?_
                    refine lv_goto (tgt := 459) hx hb d_Md_looks_455 (by decide) ?_
                    obtain rfl := op_i1 hf
                    exact K18 ls (lv_sub hl [0, 1, 2, 3, 4] rfl) H locs h
            have hf := he
            refine lv_if_eq (tgt := 424) hx hb d_Md_looks_405 (by decide) (fun hc => ?_) (fun hc => ?_)
            · have hf := op_t hc hf
              refine lv_iconst (v := 0) hx hb d_Md_looks_424 (by decide) ?_
              obtain rfl := op_i1 hf
              exact K16 ls (lv_sub hl [2, 3, 4, 0, 5, 1] rfl) H locs h
            · have hf := op_f hc hf
              refine lv_iload hx hb d_Md_looks_408 (lv_at hl 1 rfl) ?_
              refine lv_sipush (v := (-200)) hx hb d_Md_looks_410 (by decide) ?_
              refine lv_icmp_eq (tgt := 424) hx hb d_Md_looks_413 (by decide) (fun hc => ?_) (fun hc => ?_)
              · have hf := op_t hc hf
                refine lv_iconst (v := 0) hx hb d_Md_looks_424 (by decide) ?_
                obtain rfl := op_i1 hf
                exact K16 ls (lv_sub hl [2, 3, 4, 0, 5, 1] rfl) H locs h
              · have hf := op_f hc hf
                refine lv_bipush (v := (-10)) hx hb d_Md_looks_416 (by decide) ?_
                refine lv_iload hx hb d_Md_looks_418 (lv_at hl 1 rfl) ?_
                refine lv_isub hx hb d_Md_looks_420 ?_
                refine lv_goto (tgt := 425) hx hb d_Md_looks_421 (by decide) ?_
                obtain rfl := op_i1 hf
                exact K16 ls (lv_sub hl [2, 3, 4, 0, 5, 1] rfl) H locs h
          · have hf := op_f hc hf
            refine lv_iinc (v := (v6 + (-1))) (lv' := [(6, .int (v6 + (-1))), (8, .int (R 1 v7.toNatClampNeg)), (0, .ref (ad 0)), (4, .int v4), (5, .int v5), (7, .int v7)]) hx hb d_Md_looks_312 hl (k := 4) rfl rfl (by decide) rfl (fun ls hl => ?_)
            refine lv_aload_n hx hb d_Md_looks_315 rfl (lv_at hl 2 rfl) ?_
            refine mg_10 C h d_Md_looks_316 ?_
            refine lv_iload hx hb d_Md_looks_319 (lv_at hl 0 rfl) ?_
            refine lv_iconst (v := 1) hx hb d_Md_looks_321 (by decide) ?_
            refine lv_isub hx hb d_Md_looks_322 ?_
            refine lv_iload hx hb d_Md_looks_323 (lv_at hl 1 rfl) ?_
            refine lv_bipush (v := (-2)) hx hb d_Md_looks_325 (by decide) ?_
            obtain ⟨x22, he, hf⟩ := op_bind hf
            have K21 : ∀ (ls : Array Slot), lv_has ls 12 [(0, .ref (ad 0)), (4, .int v4), (5, .int v5), (6, .int (v6 + (-1))), (7, .int v7)] → ∀ (H : Heap) (locs : List Loc), mH A s.heap dC dI ad cI cZ I R H locs → W p l e (rL 6) s m args below meth c H locs 0 0 Q (F0 m 387 ls [.int x22, .int ((v6 + (-1)) - 1), .ref (ad 10)]) := by
              intro ls hl H locs h
              obtain ⟨h27, hf⟩ := op_if hf
              refine ms_10 C h rfl h27 d_Md_looks_387 (fun H locs h => ?_)
              refine lv_goto (tgt := 462) hx hb d_Md_looks_388 (by decide) ?_
              obtain ⟨rfl, rfl, rfl⟩ := op_i3 hf
              exact K12 ls (lv_sub hl [0, 1, 2, 3, 4] rfl) H locs h
            have hf := he
            refine lv_icmp_ne (tgt := 360) hx hb d_Md_looks_327 (by decide) (fun hc => ?_) (fun hc => ?_)
            · have hf := op_f hc hf
              refine lv_aload_n hx hb d_Md_looks_360 rfl (lv_at hl 2 rfl) ?_
              refine mg_10 C h d_Md_looks_361 ?_
              refine lv_iload hx hb d_Md_looks_364 (lv_at hl 0 rfl) ?_
              refine lv_iconst (v := 1) hx hb d_Md_looks_366 (by decide) ?_
              refine lv_isub hx hb d_Md_looks_367 ?_
              obtain ⟨h23, hf⟩ := op_if hf
              refine ma_10 C h rfl h23 d_Md_looks_368 ?_
              refine lv_if_ne (tgt := 382) hx hb d_Md_looks_369 (by decide) (fun hc => ?_) (fun hc => ?_)
              · have hf := op_f hc hf
                refine lv_iconst (v := 1) hx hb d_Md_looks_382 (by decide) ?_
                refine lv_goto (tgt := 387) hx hb d_Md_looks_383 (by decide) ?_
                obtain rfl := op_i1 hf
                exact K21 ls (lv_sub hl [2, 3, 4, 0, 5] rfl) H locs h
              · have hf := op_t hc hf
                refine lv_aload_n hx hb d_Md_looks_372 rfl (lv_at hl 2 rfl) ?_
                refine mg_10 C h d_Md_looks_373 ?_
                refine lv_iload hx hb d_Md_looks_376 (lv_at hl 0 rfl) ?_
                obtain ⟨h24, hf⟩ := op_if hf
                refine ma_10 C h rfl h24 d_Md_looks_378 ?_
                refine lv_if_eq (tgt := 386) hx hb d_Md_looks_379 (by decide) (fun hc => ?_) (fun hc => ?_)
                · have hf := op_t hc hf
                  refine lv_iconst (v := 0) hx hb d_Md_looks_386 (by decide) ?_
                  obtain rfl := op_i1 hf
                  exact K21 ls (lv_sub hl [2, 3, 4, 0, 5] rfl) H locs h
                · have hf := op_f hc hf
                  refine lv_iconst (v := 1) hx hb d_Md_looks_382 (by decide) ?_
                  refine lv_goto (tgt := 387) hx hb d_Md_looks_383 (by decide) ?_
                  obtain rfl := op_i1 hf
                  exact K21 ls (lv_sub hl [2, 3, 4, 0, 5] rfl) H locs h
            · have hf := op_t hc hf
              refine lv_aload_n hx hb d_Md_looks_330 rfl (lv_at hl 2 rfl) ?_
              refine mg_10 C h d_Md_looks_331 ?_
              refine lv_iload hx hb d_Md_looks_334 (lv_at hl 0 rfl) ?_
              refine lv_iconst (v := 1) hx hb d_Md_looks_336 (by decide) ?_
              refine lv_isub hx hb d_Md_looks_337 ?_
              obtain ⟨h25, hf⟩ := op_if hf
              refine ma_10 C h rfl h25 d_Md_looks_338 ?_
              refine lv_if_eq (tgt := 356) hx hb d_Md_looks_339 (by decide) (fun hc => ?_) (fun hc => ?_)
              · have hf := op_t hc hf
                refine lv_iconst (v := 0) hx hb d_Md_looks_356 (by decide) ?_
                refine lv_goto (tgt := 387) hx hb d_Md_looks_357 (by decide) ?_
                obtain rfl := op_i1 hf
                exact K21 ls (lv_sub hl [2, 3, 4, 0, 5] rfl) H locs h
              · have hf := op_f hc hf
                refine lv_aload_n hx hb d_Md_looks_342 rfl (lv_at hl 2 rfl) ?_
                refine mg_10 C h d_Md_looks_343 ?_
                refine lv_iload hx hb d_Md_looks_346 (lv_at hl 0 rfl) ?_
                obtain ⟨h26, hf⟩ := op_if hf
                refine ma_10 C h rfl h26 d_Md_looks_348 ?_
                refine lv_if_eq (tgt := 356) hx hb d_Md_looks_349 (by decide) (fun hc => ?_) (fun hc => ?_)
                · have hf := op_t hc hf
                  refine lv_iconst (v := 0) hx hb d_Md_looks_356 (by decide) ?_
                  refine lv_goto (tgt := 387) hx hb d_Md_looks_357 (by decide) ?_
                  obtain rfl := op_i1 hf
                  exact K21 ls (lv_sub hl [2, 3, 4, 0, 5] rfl) H locs h
                · have hf := op_f hc hf
                  refine lv_iconst (v := 1) hx hb d_Md_looks_352 (by decide) ?_
                  refine lv_goto (tgt := 387) hx hb d_Md_looks_353 (by decide) ?_
                  obtain rfl := op_i1 hf
                  exact K21 ls (lv_sub hl [2, 3, 4, 0, 5] rfl) H locs h
        · have hf := op_t hc hf
          refine lv_aload_n hx hb d_Md_looks_276 rfl (lv_at hl 1 rfl) ?_
          refine mg_10 C h d_Md_looks_277 ?_
          refine lv_iload hx hb d_Md_looks_280 (lv_at hl 4 rfl) ?_
          refine lv_iconst (v := 1) hx hb d_Md_looks_282 (by decide) ?_
          refine lv_isub hx hb d_Md_looks_283 ?_
          refine lv_aload_n hx hb d_Md_looks_284 rfl (lv_at hl 1 rfl) ?_
          refine mg_10 C h d_Md_looks_285 ?_
          refine lv_iload hx hb d_Md_looks_288 (lv_at hl 4 rfl) ?_
          refine lv_iconst (v := 1) hx hb d_Md_looks_290 (by decide) ?_
          refine lv_isub hx hb d_Md_looks_291 ?_
          obtain ⟨h28, hf⟩ := op_if hf
          refine ma_10 C h rfl h28 d_Md_looks_292 ?_
          obtain ⟨x30, he, hf⟩ := op_bind hf
          have K29 : ∀ (ls : Array Slot), lv_has ls 12 [(0, .ref (ad 0)), (4, .int v4), (5, .int v5), (6, .int v6), (7, .int v7)] → ∀ (H : Heap) (locs : List Loc), mH A s.heap dC dI ad cI cZ I R H locs → W p l e (rL 6) s m args below meth c H locs 0 0 Q (F0 m 301 ls [.int x30, .int (v6 - 1), .ref (ad 10)]) := by
            intro ls hl H locs h
            obtain ⟨h31, hf⟩ := op_if hf
            refine ms_10 C h rfl h31 d_Md_looks_301 (fun H locs h => ?_)
            refine lv_goto (tgt := 462) hx hb d_Md_looks_302 (by decide) ?_
            obtain ⟨rfl, rfl, rfl⟩ := op_i3 hf
            exact K12 ls (lv_sub hl [0, 1, 2, 3, 4] rfl) H locs h
          have hf := he
          refine lv_if_ne (tgt := 300) hx hb d_Md_looks_293 (by decide) (fun hc => ?_) (fun hc => ?_)
          · have hf := op_f hc hf
            refine lv_iconst (v := 0) hx hb d_Md_looks_300 (by decide) ?_
            obtain rfl := op_i1 hf
            exact K29 ls (lv_sub hl [1, 2, 3, 4, 5] rfl) H locs h
          · have hf := op_t hc hf
            refine lv_iconst (v := 1) hx hb d_Md_looks_296 (by decide) ?_
            refine lv_goto (tgt := 301) hx hb d_Md_looks_297 (by decide) ?_
            obtain rfl := op_i1 hf
            exact K29 ls (lv_sub hl [1, 2, 3, 4, 5] rfl) H locs h
      · have hf := op_f hc hf
        refine lv_aload_n hx hb d_Md_looks_176 rfl (lv_at hl 1 rfl) ?_
        refine mg_9 C h d_Md_looks_177 ?_
        refine lv_iload hx hb d_Md_looks_180 (lv_at hl 0 rfl) ?_
        refine lv_bipush (v := 8) hx hb d_Md_looks_182 (by decide) ?_
        refine lv_irem hx hb d_Md_looks_184 (by decide) ?_
        obtain ⟨h32, hf⟩ := op_if hf
        refine ma_9 C h rfl h32 d_Md_looks_185 ?_
        refine lv_istore (lv' := [(9, .int (R 9 (((R 1 v7.toNatClampNeg) - (R 1 v7.toNatClampNeg) / 8 * 8)).toNatClampNeg)), (8, .int (R 1 v7.toNatClampNeg)), (0, .ref (ad 0)), (4, .int v4), (5, .int v5), (6, .int v6), (7, .int v7)]) hx hb d_Md_looks_186 hl (by decide) rfl (fun ls hl => ?_)
        refine lv_iload hx hb d_Md_looks_188 (lv_at hl 1 rfl) ?_
        refine lv_bipush (v := 8) hx hb d_Md_looks_190 (by decide) ?_
        refine lv_idiv hx hb d_Md_looks_192 (by decide) ?_
        refine lv_iconst (v := 4) hx hb d_Md_looks_193 (by decide) ?_
        refine lv_irem hx hb d_Md_looks_194 (by decide) ?_
        refine lv_istore (lv' := [(10, .int (((R 1 v7.toNatClampNeg) / 8) - ((R 1 v7.toNatClampNeg) / 8) / 4 * 4)), (9, .int (R 9 (((R 1 v7.toNatClampNeg) - (R 1 v7.toNatClampNeg) / 8 * 8)).toNatClampNeg)), (8, .int (R 1 v7.toNatClampNeg)), (0, .ref (ad 0)), (4, .int v4), (5, .int v5), (6, .int v6), (7, .int v7)]) hx hb d_Md_looks_195 hl (by decide) rfl (fun ls hl => ?_)
        refine lv_iload hx hb d_Md_looks_197 (lv_at hl 2 rfl) ?_
        refine lv_bipush (v := 32) hx hb d_Md_looks_199 (by decide) ?_
        refine lv_idiv hx hb d_Md_looks_201 (by decide) ?_
        refine lv_istore (lv' := [(11, .int ((R 1 v7.toNatClampNeg) / 32)), (10, .int (((R 1 v7.toNatClampNeg) / 8) - ((R 1 v7.toNatClampNeg) / 8) / 4 * 4)), (9, .int (R 9 (((R 1 v7.toNatClampNeg) - (R 1 v7.toNatClampNeg) / 8 * 8)).toNatClampNeg)), (8, .int (R 1 v7.toNatClampNeg)), (0, .ref (ad 0)), (4, .int v4), (5, .int v5), (6, .int v6), (7, .int v7)]) hx hb d_Md_looks_202 hl (by decide) rfl (fun ls hl => ?_)
        refine lv_aload_n hx hb d_Md_looks_204 rfl (lv_at hl 4 rfl) ?_
        refine mg_10 C h d_Md_looks_205 ?_
        refine lv_iload hx hb d_Md_looks_208 (lv_at hl 7 rfl) ?_
        refine lv_iload hx hb d_Md_looks_210 (lv_at hl 1 rfl) ?_
        obtain ⟨x34, he, hf⟩ := op_bind hf
        have K33 : ∀ (ls : Array Slot), lv_has ls 12 [(0, .ref (ad 0)), (4, .int v4), (5, .int v5), (6, .int v6), (7, .int v7)] → ∀ (H : Heap) (locs : List Loc), mH A s.heap dC dI ad cI cZ I R H locs → W p l e (rL 6) s m args below meth c H locs 0 0 Q (F0 m 263 ls [.int x34, .int v6, .ref (ad 10)]) := by
          intro ls hl H locs h
          obtain ⟨h35, hf⟩ := op_if hf
          refine ms_10 C h rfl h35 d_Md_looks_263 (fun H locs h => ?_)
          refine lv_iinc (v := (v6 + 1)) (lv' := [(6, .int (v6 + 1)), (0, .ref (ad 0)), (4, .int v4), (5, .int v5), (7, .int v7)]) hx hb d_Md_looks_264 hl (k := 3) rfl rfl (by decide) rfl (fun ls hl => ?_)
          refine lv_goto (tgt := 462) hx hb d_Md_looks_267 (by decide) ?_
          obtain ⟨rfl, rfl, rfl⟩ := op_i3 hf
          exact K12 ls (lv_sub hl [1, 2, 3, 0, 4] rfl) H locs h
        have hf := he
        refine lv_if_ne (tgt := 230) hx hb d_Md_looks_212 (by decide) (fun hc => ?_) (fun hc => ?_)
        · have hf := op_f hc hf
          refine lv_iload hx hb d_Md_looks_230 (lv_at hl 1 rfl) ?_
          refine lv_iconst (v := 1) hx hb d_Md_looks_232 (by decide) ?_
          refine lv_icmp_ne (tgt := 251) hx hb d_Md_looks_233 (by decide) (fun hc => ?_) (fun hc => ?_)
          · have hf := op_f hc hf
            refine lv_iload hx hb d_Md_looks_251 (lv_at hl 2 rfl) ?_
            refine lv_iload hx hb d_Md_looks_253 (lv_at hl 0 rfl) ?_
            refine lv_icmp_le (tgt := 262) hx hb d_Md_looks_255 (by decide) (fun hc => ?_) (fun hc => ?_)
            · have hf := op_t hc hf
              refine lv_iconst (v := 0) hx hb d_Md_looks_262 (by decide) ?_
              obtain rfl := op_i1 hf
              exact K33 ls (lv_sub hl [4, 5, 6, 7, 8] rfl) H locs h
            · have hf := op_f hc hf
              refine lv_iconst (v := 1) hx hb d_Md_looks_258 (by decide) ?_
              refine lv_goto (tgt := 263) hx hb d_Md_looks_259 (by decide) ?_
              obtain rfl := op_i1 hf
              exact K33 ls (lv_sub hl [4, 5, 6, 7, 8] rfl) H locs h
          · have hf := op_t hc hf
            refine lv_iload hx hb d_Md_looks_236 (lv_at hl 2 rfl) ?_
            refine lv_iload hx hb d_Md_looks_238 (lv_at hl 0 rfl) ?_
            refine lv_icmp_ne (tgt := 247) hx hb d_Md_looks_240 (by decide) (fun hc => ?_) (fun hc => ?_)
            · have hf := op_f hc hf
              refine lv_iconst (v := 0) hx hb d_Md_looks_247 (by decide) ?_
              refine lv_goto (tgt := 263) hx hb d_Md_looks_248 (by decide) ?_
              obtain rfl := op_i1 hf
              exact K33 ls (lv_sub hl [4, 5, 6, 7, 8] rfl) H locs h
            · have hf := op_t hc hf
              refine lv_iconst (v := 1) hx hb d_Md_looks_243 (by decide) ?_
              refine lv_goto (tgt := 263) hx hb d_Md_looks_244 (by decide) ?_
              obtain rfl := op_i1 hf
              exact K33 ls (lv_sub hl [4, 5, 6, 7, 8] rfl) H locs h
        · have hf := op_t hc hf
          refine lv_iload hx hb d_Md_looks_215 (lv_at hl 2 rfl) ?_
          refine lv_iload hx hb d_Md_looks_217 (lv_at hl 0 rfl) ?_
          refine lv_icmp_ge (tgt := 226) hx hb d_Md_looks_219 (by decide) (fun hc => ?_) (fun hc => ?_)
          · have hf := op_t hc hf
            refine lv_iconst (v := 0) hx hb d_Md_looks_226 (by decide) ?_
            refine lv_goto (tgt := 263) hx hb d_Md_looks_227 (by decide) ?_
            obtain rfl := op_i1 hf
            exact K33 ls (lv_sub hl [4, 5, 6, 7, 8] rfl) H locs h
          · have hf := op_f hc hf
            refine lv_iconst (v := 1) hx hb d_Md_looks_222 (by decide) ?_
            refine lv_goto (tgt := 263) hx hb d_Md_looks_223 (by decide) ?_
            obtain rfl := op_i1 hf
            exact K33 ls (lv_sub hl [4, 5, 6, 7, 8] rfl) H locs h
def p_Md_looks (n : Nat) (v1 : Int32) (v2 : Int32) (v3 : Int32) (I : Nat → Int32) (R : Nat → Nat → Int32) : Option (MU) := if ix (10 + v1) 890 then if ix (28 + v1) 890 then (p_Md_count1 n v2).bind fun x4 => (l_Md_looks_65 n v1 v2 n 5 I ((upR (upR (upR (upR (upR (upR R 9 0 v1) 9 1 (((upR R 9 0 v1) 1 (10 + v1).toNatClampNeg))) 9 2 ((((upR (upR R 9 0 v1) 9 1 (((upR R 9 0 v1) 1 (10 + v1).toNatClampNeg)))) 1 (28 + v1).toNatClampNeg))) 9 3 x4) 9 4 v3) 9 5 9))).bind fun (I7, R8) => (p_Md_tellsOf n 185 0 (upd (upd I7 11 0) 12 0) R8).bind fun x10 => (l_Md_looks_152 n x10 (190 + (140 * (R8 1 5))) n 0 (190 + (140 * (R8 1 5))) (upd (upd I7 11 0) 12 0) R8).bind fun (I36, R37) => some (I36, R37) else none else none
set_option maxHeartbeats 4000000 in
theorem c_Md_looks (l : Launch) (n : Nat) (v1 : Int32) (v2 : Int32) (v3 : Int32) (I : Nat → Int32) (R : Nat → Nat → Int32)  : MMv l y_Md_looks b_Md_looks 12 (rL 6) (fun ad adK => [.int v1, .int v2, .int v3]) I R (p_Md_looks n v1 v2 v3 I R) := by
  refine en_mv (by decide) rfl (fun _ _ => Nat.le_of_ble_eq_true rfl) ?_
  intro z hf p e s m args below meth c dC dI ad cI cZ A adK adV ls C hA h hr hlk hl
  have hl : lv_has ls 12 [(0, .ref (ad 0)), (1, .int v1), (2, .int v2), (3, .int v3)] := hl
  unfold p_Md_looks at hf
  obtain ⟨hx, hb, hml, hown, hT, -⟩ := id C
  refine lv_aload_n hx hb d_Md_looks_0 rfl (lv_at hl 0 rfl) ?_
  refine mg_9 C h d_Md_looks_1 ?_
  refine lv_iconst (v := 0) hx hb d_Md_looks_4 (by decide) ?_
  refine lv_iload_n hx hb d_Md_looks_5 rfl (lv_at hl 1 rfl) ?_
  refine ms_9 C h (j := 0) (by decide) (show ix 0 6 by decide) d_Md_looks_6 (fun H locs h => ?_)
  refine lv_aload_n hx hb d_Md_looks_7 rfl (lv_at hl 0 rfl) ?_
  refine mg_9 C h d_Md_looks_8 ?_
  refine lv_iconst (v := 1) hx hb d_Md_looks_11 (by decide) ?_
  refine lv_aload_n hx hb d_Md_looks_12 rfl (lv_at hl 0 rfl) ?_
  refine mg_1 C h d_Md_looks_13 ?_
  refine lv_bipush (v := 10) hx hb d_Md_looks_16 (by decide) ?_
  refine lv_iload_n hx hb d_Md_looks_18 rfl (lv_at hl 1 rfl) ?_
  refine lv_iadd hx hb d_Md_looks_19 ?_
  obtain ⟨h1, hf⟩ := op_if hf
  refine ma_1 C h rfl h1 d_Md_looks_20 ?_
  refine ms_9 C h (j := 1) (by decide) (show ix 1 6 by decide) d_Md_looks_21 (fun H locs h => ?_)
  refine lv_aload_n hx hb d_Md_looks_22 rfl (lv_at hl 0 rfl) ?_
  refine mg_9 C h d_Md_looks_23 ?_
  refine lv_iconst (v := 2) hx hb d_Md_looks_26 (by decide) ?_
  refine lv_aload_n hx hb d_Md_looks_27 rfl (lv_at hl 0 rfl) ?_
  refine mg_1 C h d_Md_looks_28 ?_
  refine lv_bipush (v := 28) hx hb d_Md_looks_31 (by decide) ?_
  refine lv_iload_n hx hb d_Md_looks_33 rfl (lv_at hl 1 rfl) ?_
  refine lv_iadd hx hb d_Md_looks_34 ?_
  obtain ⟨h2, hf⟩ := op_if hf
  refine ma_1 C h rfl h2 d_Md_looks_35 ?_
  refine ms_9 C h (j := 2) (by decide) (show ix 2 6 by decide) d_Md_looks_36 (fun H locs h => ?_)
  refine lv_aload_n hx hb d_Md_looks_37 rfl (lv_at hl 0 rfl) ?_
  refine mg_9 C h d_Md_looks_38 ?_
  refine lv_iconst (v := 3) hx hb d_Md_looks_41 (by decide) ?_
  refine lv_iload_n hx hb d_Md_looks_42 rfl (lv_at hl 2 rfl) ?_
  obtain ⟨x4, hc3, hf⟩ := op_bind hf
  refine ks_i (rest := [.int 3, .ref (ad 9)]) hx hb hml hown hT (c_Md_count1 l n v2 _ hc3) (cbW 1 hT cd_Md_count1 rfl rfl ini_Md ml_Md_139 hd_Md_count1 ⟨Nat.le_of_ble_eq_true rfl, Nat.le_of_ble_eq_true rfl⟩) sm_Md_count1 rfl hl.1 rfl (Nat.le_of_ble_eq_true rfl) d_Md_looks_43 ⟨Nat.zero_le _, Nat.zero_le _⟩ ?_
  refine ms_9 C h (j := 3) (by decide) (show ix 3 6 by decide) d_Md_looks_46 (fun H locs h => ?_)
  refine lv_aload_n hx hb d_Md_looks_47 rfl (lv_at hl 0 rfl) ?_
  refine mg_9 C h d_Md_looks_48 ?_
  refine lv_iconst (v := 4) hx hb d_Md_looks_51 (by decide) ?_
  refine lv_iload_n hx hb d_Md_looks_52 rfl (lv_at hl 3 rfl) ?_
  refine ms_9 C h (j := 4) (by decide) (show ix 4 6 by decide) d_Md_looks_53 (fun H locs h => ?_)
  refine lv_aload_n hx hb d_Md_looks_54 rfl (lv_at hl 0 rfl) ?_
  refine mg_9 C h d_Md_looks_55 ?_
  refine lv_iconst (v := 5) hx hb d_Md_looks_58 (by decide) ?_
  refine lv_bipush (v := 9) hx hb d_Md_looks_59 (by decide) ?_
  refine ms_9 C h (j := 5) (by decide) (show ix 5 6 by decide) d_Md_looks_61 (fun H locs h => ?_)
  refine lv_iconst (v := 5) hx hb d_Md_looks_62 (by decide) ?_
  refine lv_istore (lv' := [(4, .int 5), (0, .ref (ad 0)), (1, .int v1), (2, .int v2), (3, .int v3)]) hx hb d_Md_looks_63 hl (by decide) rfl (fun ls hl => ?_)
  obtain ⟨⟨I7, R8⟩, he, hf⟩ := op_bind hf
  try dsimp only at hf
  refine wl_Md_looks_65 C hA hr hlk n v1 v2 n 5 I ((upR (upR (upR (upR (upR (upR R 9 0 v1) 9 1 (((upR R 9 0 v1) 1 (10 + v1).toNatClampNeg))) 9 2 ((((upR (upR R 9 0 v1) 9 1 (((upR R 9 0 v1) 1 (10 + v1).toNatClampNeg)))) 1 (28 + v1).toNatClampNeg))) 9 3 x4) 9 4 v3) 9 5 9)) _ _ he (fun ls hl H locs h => ?_) ls (lv_sub hl [1, 2, 3, 0] rfl) H locs h
  refine lv_aload_n hx hb d_Md_looks_109 rfl (lv_at hl 0 rfl) ?_
  refine lv_iconst (v := 0) hx hb d_Md_looks_110 (by decide) ?_
  refine mp_11 C h d_Md_looks_111 (fun H locs h => ?_)
  refine lv_aload_n hx hb d_Md_looks_114 rfl (lv_at hl 0 rfl) ?_
  refine lv_iconst (v := 0) hx hb d_Md_looks_115 (by decide) ?_
  refine mp_12 C h (by decide) d_Md_looks_116 (fun H locs h => ?_)
  refine lv_aload_n hx hb d_Md_looks_119 rfl (lv_at hl 0 rfl) ?_
  refine lv_sipush (v := 185) hx hb d_Md_looks_120 (by decide) ?_
  refine lv_iconst (v := 0) hx hb d_Md_looks_123 (by decide) ?_
  obtain ⟨x10, hc9, hf⟩ := op_bind hf
  refine kc_r (rest := []) C h hA (c_Md_tellsOf l n 185 0 (upd (upd I7 11 0) 12 0) R8) hc9 (cbW 2 hT cd_Md_tellsOf rfl rfl ini_Md ml_Md_135 hd_Md_tellsOf ⟨Nat.le_of_ble_eq_true rfl, Nat.le_of_ble_eq_true rfl⟩) im_Md_tellsOf sp_Md_tellsOf rfl hl.1 rfl (Nat.le_of_ble_eq_true rfl) d_Md_looks_124 ⟨Nat.zero_le _, Nat.zero_le _⟩ (fun H locs h => ?_)
  refine lv_istore (lv' := [(4, .int x10), (0, .ref (ad 0))]) hx hb d_Md_looks_127 hl (by decide) rfl (fun ls hl => ?_)
  refine lv_sipush (v := 190) hx hb d_Md_looks_129 (by decide) ?_
  refine lv_sipush (v := 140) hx hb d_Md_looks_132 (by decide) ?_
  refine lv_aload_n hx hb d_Md_looks_135 rfl (lv_at hl 1 rfl) ?_
  refine mg_1 C h d_Md_looks_136 ?_
  refine lv_iconst (v := 5) hx hb d_Md_looks_139 (by decide) ?_
  refine ma_1 C h (j := 5) (by decide) (show ix 5 890 by decide) d_Md_looks_140 ?_
  refine lv_imul hx hb d_Md_looks_141 ?_
  refine lv_iadd hx hb d_Md_looks_142 ?_
  refine lv_istore (lv' := [(5, .int (190 + (140 * (R8 1 5)))), (4, .int x10), (0, .ref (ad 0))]) hx hb d_Md_looks_143 hl (by decide) rfl (fun ls hl => ?_)
  refine lv_iconst (v := 0) hx hb d_Md_looks_145 (by decide) ?_
  refine lv_istore (lv' := [(6, .int 0), (5, .int (190 + (140 * (R8 1 5)))), (4, .int x10), (0, .ref (ad 0))]) hx hb d_Md_looks_146 hl (by decide) rfl (fun ls hl => ?_)
  refine lv_iload hx hb d_Md_looks_148 (lv_at hl 1 rfl) ?_
  refine lv_istore (lv' := [(7, .int (190 + (140 * (R8 1 5)))), (6, .int 0), (5, .int (190 + (140 * (R8 1 5)))), (4, .int x10), (0, .ref (ad 0))]) hx hb d_Md_looks_150 hl (by decide) rfl (fun ls hl => ?_)
  obtain ⟨⟨I36, R37⟩, he, hf⟩ := op_bind hf
  try dsimp only at hf
  refine wl_Md_looks_152 C hA hr hlk n x10 (190 + (140 * (R8 1 5))) n 0 (190 + (140 * (R8 1 5))) (upd (upd I7 11 0) 12 0) R8 _ _ he (fun ls hl H locs h => ?_) ls (lv_sub hl [4, 3, 2, 1, 0] rfl) H locs h
  exact rt_mv C h hr hlk hf d_Md_looks_468
theorem hd_Md_comesCloser : y_Md_comesCloser.cls ≠ "java/lang/invoke/MethodHandle" ∧ y_Md_comesCloser.cls ≠ "java/lang/invoke/VarHandle" ∧ (parseMethodDescriptor y_Md_comesCloser.desc).map (fun d => d.parameters.length) = some 1 := by decide +kernel
theorem d_Md_comesCloser_0 : decode b_Md_comesCloser 0 = .ok (.iconst 0, 1) := by decide +kernel
theorem d_Md_comesCloser_1 : decode b_Md_comesCloser 1 = .ok (.istore_n 2, 1) := by decide +kernel
theorem d_Md_comesCloser_2 : decode b_Md_comesCloser 2 = .ok (.iload_n 1, 1) := by decide +kernel
theorem d_Md_comesCloser_3 : decode b_Md_comesCloser 3 = .ok (.bipush 64, 2) := by decide +kernel
theorem d_Md_comesCloser_5 : decode b_Md_comesCloser 5 = .ok (.irem, 1) := by decide +kernel
theorem d_Md_comesCloser_6 : decode b_Md_comesCloser 6 = .ok (.istore_n 3, 1) := by decide +kernel
theorem d_Md_comesCloser_7 : decode b_Md_comesCloser 7 = .ok (.iload_n 1, 1) := by decide +kernel
theorem d_Md_comesCloser_8 : decode b_Md_comesCloser 8 = .ok (.bipush 64, 2) := by decide +kernel
theorem d_Md_comesCloser_10 : decode b_Md_comesCloser 10 = .ok (.idiv, 1) := by decide +kernel
theorem d_Md_comesCloser_11 : decode b_Md_comesCloser 11 = .ok (.istore 4, 2) := by decide +kernel
theorem d_Md_comesCloser_13 : decode b_Md_comesCloser 13 = .ok (.iconst 1, 1) := by decide +kernel
theorem d_Md_comesCloser_14 : decode b_Md_comesCloser 14 = .ok (.istore 5, 2) := by decide +kernel
theorem d_Md_comesCloser_16 : decode b_Md_comesCloser 16 = .ok (.iload 5, 2) := by decide +kernel
theorem d_Md_comesCloser_18 : decode b_Md_comesCloser 18 = .ok (.aload_n 0, 1) := by decide +kernel
theorem d_Md_comesCloser_19 : decode b_Md_comesCloser 19 = .ok (.invokevirtual 48, 3) := by decide +kernel
theorem d_Md_comesCloser_22 : decode b_Md_comesCloser 22 = .ok (.if_icmp .gt 187, 3) := by decide +kernel
theorem d_Md_comesCloser_25 : decode b_Md_comesCloser 25 = .ok (.aload_n 0, 1) := by decide +kernel
theorem d_Md_comesCloser_26 : decode b_Md_comesCloser 26 = .ok (.getfield 25, 3) := by decide +kernel
theorem d_Md_comesCloser_29 : decode b_Md_comesCloser 29 = .ok (.bipush 64, 2) := by decide +kernel
theorem d_Md_comesCloser_31 : decode b_Md_comesCloser 31 = .ok (.iload 4, 2) := by decide +kernel
theorem d_Md_comesCloser_33 : decode b_Md_comesCloser 33 = .ok (.imul, 1) := by decide +kernel
theorem d_Md_comesCloser_34 : decode b_Md_comesCloser 34 = .ok (.iload 5, 2) := by decide +kernel
theorem d_Md_comesCloser_36 : decode b_Md_comesCloser 36 = .ok (.iadd, 1) := by decide +kernel
theorem d_Md_comesCloser_37 : decode b_Md_comesCloser 37 = .ok (.iaload, 1) := by decide +kernel
theorem d_Md_comesCloser_38 : decode b_Md_comesCloser 38 = .ok (.istore 6, 2) := by decide +kernel
theorem d_Md_comesCloser_40 : decode b_Md_comesCloser 40 = .ok (.iload 6, 2) := by decide +kernel
theorem d_Md_comesCloser_42 : decode b_Md_comesCloser 42 = .ok (.iconst (-1), 1) := by decide +kernel
theorem d_Md_comesCloser_43 : decode b_Md_comesCloser 43 = .ok (.if_icmp .eq 160, 3) := by decide +kernel
theorem d_Md_comesCloser_46 : decode b_Md_comesCloser 46 = .ok (.iload 5, 2) := by decide +kernel
theorem d_Md_comesCloser_48 : decode b_Md_comesCloser 48 = .ok (.iload_n 3, 1) := by decide +kernel
theorem d_Md_comesCloser_49 : decode b_Md_comesCloser 49 = .ok (.iload 4, 2) := by decide +kernel
theorem d_Md_comesCloser_51 : decode b_Md_comesCloser 51 = .ok (.invokestatic 173, 3) := by decide +kernel
theorem d_Md_comesCloser_54 : decode b_Md_comesCloser 54 = .ok (.ifCond .eq 149, 3) := by decide +kernel
theorem d_Md_comesCloser_57 : decode b_Md_comesCloser 57 = .ok (.iload_n 3, 1) := by decide +kernel
theorem d_Md_comesCloser_58 : decode b_Md_comesCloser 58 = .ok (.iload 5, 2) := by decide +kernel
theorem d_Md_comesCloser_60 : decode b_Md_comesCloser 60 = .ok (.ixor, 1) := by decide +kernel
theorem d_Md_comesCloser_61 : decode b_Md_comesCloser 61 = .ok (.bipush 64, 2) := by decide +kernel
theorem d_Md_comesCloser_63 : decode b_Md_comesCloser 63 = .ok (.iconst 1, 1) := by decide +kernel
theorem d_Md_comesCloser_64 : decode b_Md_comesCloser 64 = .ok (.iload 4, 2) := by decide +kernel
theorem d_Md_comesCloser_66 : decode b_Md_comesCloser 66 = .ok (.isub, 1) := by decide +kernel
theorem d_Md_comesCloser_67 : decode b_Md_comesCloser 67 = .ok (.imul, 1) := by decide +kernel
theorem d_Md_comesCloser_68 : decode b_Md_comesCloser 68 = .ok (.iadd, 1) := by decide +kernel
theorem d_Md_comesCloser_69 : decode b_Md_comesCloser 69 = .ok (.istore 7, 2) := by decide +kernel
theorem d_Md_comesCloser_71 : decode b_Md_comesCloser 71 = .ok (.aload_n 0, 1) := by decide +kernel
theorem d_Md_comesCloser_72 : decode b_Md_comesCloser 72 = .ok (.getfield 28, 3) := by decide +kernel
theorem d_Md_comesCloser_75 : decode b_Md_comesCloser 75 = .ok (.iload_n 1, 1) := by decide +kernel
theorem d_Md_comesCloser_76 : decode b_Md_comesCloser 76 = .ok (.iaload, 1) := by decide +kernel
theorem d_Md_comesCloser_77 : decode b_Md_comesCloser 77 = .ok (.iload 6, 2) := by decide +kernel
theorem d_Md_comesCloser_79 : decode b_Md_comesCloser 79 = .ok (.iadd, 1) := by decide +kernel
theorem d_Md_comesCloser_80 : decode b_Md_comesCloser 80 = .ok (.aload_n 0, 1) := by decide +kernel
theorem d_Md_comesCloser_81 : decode b_Md_comesCloser 81 = .ok (.getfield 28, 3) := by decide +kernel
theorem d_Md_comesCloser_84 : decode b_Md_comesCloser 84 = .ok (.iload 7, 2) := by decide +kernel
theorem d_Md_comesCloser_86 : decode b_Md_comesCloser 86 = .ok (.iaload, 1) := by decide +kernel
theorem d_Md_comesCloser_87 : decode b_Md_comesCloser 87 = .ok (.if_icmp .ge 7, 3) := by decide +kernel
theorem d_Md_comesCloser_90 : decode b_Md_comesCloser 90 = .ok (.iconst 1, 1) := by decide +kernel
theorem d_Md_comesCloser_91 : decode b_Md_comesCloser 91 = .ok (.goto 4, 3) := by decide +kernel
theorem d_Md_comesCloser_94 : decode b_Md_comesCloser 94 = .ok (.iconst 0, 1) := by decide +kernel
theorem d_Md_comesCloser_95 : decode b_Md_comesCloser 95 = .ok (.istore 8, 2) := by decide +kernel
theorem d_Md_comesCloser_97 : decode b_Md_comesCloser 97 = .ok (.aload_n 0, 1) := by decide +kernel
theorem d_Md_comesCloser_98 : decode b_Md_comesCloser 98 = .ok (.getfield 31, 3) := by decide +kernel
theorem d_Md_comesCloser_101 : decode b_Md_comesCloser 101 = .ok (.iload_n 1, 1) := by decide +kernel
theorem d_Md_comesCloser_102 : decode b_Md_comesCloser 102 = .ok (.iaload, 1) := by decide +kernel
theorem d_Md_comesCloser_103 : decode b_Md_comesCloser 103 = .ok (.iconst 1, 1) := by decide +kernel
theorem d_Md_comesCloser_104 : decode b_Md_comesCloser 104 = .ok (.iadd, 1) := by decide +kernel
theorem d_Md_comesCloser_105 : decode b_Md_comesCloser 105 = .ok (.aload_n 0, 1) := by decide +kernel
theorem d_Md_comesCloser_106 : decode b_Md_comesCloser 106 = .ok (.getfield 31, 3) := by decide +kernel
theorem d_Md_comesCloser_109 : decode b_Md_comesCloser 109 = .ok (.iload 7, 2) := by decide +kernel
theorem d_Md_comesCloser_111 : decode b_Md_comesCloser 111 = .ok (.iaload, 1) := by decide +kernel
theorem d_Md_comesCloser_112 : decode b_Md_comesCloser 112 = .ok (.if_icmp .ge 7, 3) := by decide +kernel
theorem d_Md_comesCloser_115 : decode b_Md_comesCloser 115 = .ok (.iconst 1, 1) := by decide +kernel
theorem d_Md_comesCloser_116 : decode b_Md_comesCloser 116 = .ok (.goto 4, 3) := by decide +kernel
theorem d_Md_comesCloser_119 : decode b_Md_comesCloser 119 = .ok (.iconst 0, 1) := by decide +kernel
theorem d_Md_comesCloser_120 : decode b_Md_comesCloser 120 = .ok (.istore 9, 2) := by decide +kernel
theorem d_Md_comesCloser_122 : decode b_Md_comesCloser 122 = .ok (.aload_n 0, 1) := by decide +kernel
theorem d_Md_comesCloser_123 : decode b_Md_comesCloser 123 = .ok (.getfield 28, 3) := by decide +kernel
theorem d_Md_comesCloser_126 : decode b_Md_comesCloser 126 = .ok (.iload 7, 2) := by decide +kernel
theorem d_Md_comesCloser_128 : decode b_Md_comesCloser 128 = .ok (.iload 8, 2) := by decide +kernel
theorem d_Md_comesCloser_130 : decode b_Md_comesCloser 130 = .ok (.ifCond .eq 15, 3) := by decide +kernel
theorem d_Md_comesCloser_133 : decode b_Md_comesCloser 133 = .ok (.aload_n 0, 1) := by decide +kernel
theorem d_Md_comesCloser_134 : decode b_Md_comesCloser 134 = .ok (.getfield 28, 3) := by decide +kernel
theorem d_Md_comesCloser_137 : decode b_Md_comesCloser 137 = .ok (.iload_n 1, 1) := by decide +kernel
theorem d_Md_comesCloser_138 : decode b_Md_comesCloser 138 = .ok (.iaload, 1) := by decide +kernel
theorem d_Md_comesCloser_139 : decode b_Md_comesCloser 139 = .ok (.iload 6, 2) := by decide +kernel
theorem d_Md_comesCloser_141 : decode b_Md_comesCloser 141 = .ok (.iadd, 1) := by decide +kernel
theorem d_Md_comesCloser_142 : decode b_Md_comesCloser 142 = .ok (.goto 10, 3) := by decide +kernel
theorem d_Md_comesCloser_145 : decode b_Md_comesCloser 145 = .ok (.aload_n 0, 1) := by decide +kernel
theorem d_Md_comesCloser_146 : decode b_Md_comesCloser 146 = .ok (.getfield 28, 3) := by decide +kernel
theorem d_Md_comesCloser_149 : decode b_Md_comesCloser 149 = .ok (.iload 7, 2) := by decide +kernel
theorem d_Md_comesCloser_151 : decode b_Md_comesCloser 151 = .ok (.iaload, 1) := by decide +kernel
theorem d_Md_comesCloser_152 : decode b_Md_comesCloser 152 = .ok (.iastore, 1) := by decide +kernel
theorem d_Md_comesCloser_153 : decode b_Md_comesCloser 153 = .ok (.aload_n 0, 1) := by decide +kernel
theorem d_Md_comesCloser_154 : decode b_Md_comesCloser 154 = .ok (.getfield 31, 3) := by decide +kernel
theorem d_Md_comesCloser_157 : decode b_Md_comesCloser 157 = .ok (.iload 7, 2) := by decide +kernel
theorem d_Md_comesCloser_159 : decode b_Md_comesCloser 159 = .ok (.iload 9, 2) := by decide +kernel
theorem d_Md_comesCloser_161 : decode b_Md_comesCloser 161 = .ok (.ifCond .eq 14, 3) := by decide +kernel
theorem d_Md_comesCloser_164 : decode b_Md_comesCloser 164 = .ok (.aload_n 0, 1) := by decide +kernel
theorem d_Md_comesCloser_165 : decode b_Md_comesCloser 165 = .ok (.getfield 31, 3) := by decide +kernel
theorem d_Md_comesCloser_168 : decode b_Md_comesCloser 168 = .ok (.iload_n 1, 1) := by decide +kernel
theorem d_Md_comesCloser_169 : decode b_Md_comesCloser 169 = .ok (.iaload, 1) := by decide +kernel
theorem d_Md_comesCloser_170 : decode b_Md_comesCloser 170 = .ok (.iconst 1, 1) := by decide +kernel
theorem d_Md_comesCloser_171 : decode b_Md_comesCloser 171 = .ok (.iadd, 1) := by decide +kernel
theorem d_Md_comesCloser_172 : decode b_Md_comesCloser 172 = .ok (.goto 10, 3) := by decide +kernel
theorem d_Md_comesCloser_175 : decode b_Md_comesCloser 175 = .ok (.aload_n 0, 1) := by decide +kernel
theorem d_Md_comesCloser_176 : decode b_Md_comesCloser 176 = .ok (.getfield 31, 3) := by decide +kernel
theorem d_Md_comesCloser_179 : decode b_Md_comesCloser 179 = .ok (.iload 7, 2) := by decide +kernel
theorem d_Md_comesCloser_181 : decode b_Md_comesCloser 181 = .ok (.iaload, 1) := by decide +kernel
theorem d_Md_comesCloser_182 : decode b_Md_comesCloser 182 = .ok (.iastore, 1) := by decide +kernel
theorem d_Md_comesCloser_183 : decode b_Md_comesCloser 183 = .ok (.iload_n 2, 1) := by decide +kernel
theorem d_Md_comesCloser_184 : decode b_Md_comesCloser 184 = .ok (.ifCond .ne 13, 3) := by decide +kernel
theorem d_Md_comesCloser_187 : decode b_Md_comesCloser 187 = .ok (.iload 8, 2) := by decide +kernel
theorem d_Md_comesCloser_189 : decode b_Md_comesCloser 189 = .ok (.ifCond .ne 8, 3) := by decide +kernel
theorem d_Md_comesCloser_192 : decode b_Md_comesCloser 192 = .ok (.iload 9, 2) := by decide +kernel
theorem d_Md_comesCloser_194 : decode b_Md_comesCloser 194 = .ok (.ifCond .eq 7, 3) := by decide +kernel
theorem d_Md_comesCloser_197 : decode b_Md_comesCloser 197 = .ok (.iconst 1, 1) := by decide +kernel
theorem d_Md_comesCloser_198 : decode b_Md_comesCloser 198 = .ok (.goto 4, 3) := by decide +kernel
theorem d_Md_comesCloser_201 : decode b_Md_comesCloser 201 = .ok (.iconst 0, 1) := by decide +kernel
theorem d_Md_comesCloser_202 : decode b_Md_comesCloser 202 = .ok (.istore_n 2, 1) := by decide +kernel
theorem d_Md_comesCloser_203 : decode b_Md_comesCloser 203 = .ok (.iinc 5 1, 3) := by decide +kernel
theorem d_Md_comesCloser_206 : decode b_Md_comesCloser 206 = .ok (.goto (-190), 3) := by decide +kernel
theorem d_Md_comesCloser_209 : decode b_Md_comesCloser 209 = .ok (.iload_n 2, 1) := by decide +kernel
theorem d_Md_comesCloser_210 : decode b_Md_comesCloser 210 = .ok (.ireturn, 1) := by decide +kernel
def l_Md_comesCloser_16 (n : Nat)  (v1 : Int32) (v3 : Int32) (v4 : Int32)  : Nat → Int32 → Int32 → (Nat → Int32) → (Nat → Nat → Int32) → Option (Int32 × (Nat → Int32) × (Nat → Nat → Int32))
  | 0, _, _, _, _ => none
  | k + 1, v2, v5, I, R => (p_Md_all n I R).bind fun x2 => (if x2 < v5 then some (v2, I, R) else if ix ((64 * v4) + v5) 128 then (if (R 13 ((64 * v4) + v5).toNatClampNeg) = (-1) then some (v2, I, R) else (p_Md_areHere n v5 v3 v4).bind fun x9 => (if x9 = 0 then some (v2, I, R) else if ix v1 128 then if ix (((v3 ^^^ v5) + (64 * (1 - v4)))) 128 then (if (R 14 (((v3 ^^^ v5) + (64 * (1 - v4)))).toNatClampNeg) ≤ ((R 14 v1.toNatClampNeg) + (R 13 ((64 * v4) + v5).toNatClampNeg)) then some 0 else some 1 : Option (Int32)).bind fun x13 => if ix v1 128 then if ix (((v3 ^^^ v5) + (64 * (1 - v4)))) 128 then (if (R 15 (((v3 ^^^ v5) + (64 * (1 - v4)))).toNatClampNeg) ≤ ((R 15 v1.toNatClampNeg) + 1) then some 0 else some 1 : Option (Int32)).bind fun x17 => (if x13 = 0 then if ix (((v3 ^^^ v5) + (64 * (1 - v4)))) 128 then some (R 14 (((v3 ^^^ v5) + (64 * (1 - v4)))).toNatClampNeg) else none else if ix v1 128 then some ((R 14 v1.toNatClampNeg) + (R 13 ((64 * v4) + v5).toNatClampNeg)) else none : Option (Int32)).bind fun x19 => if ix (((v3 ^^^ v5) + (64 * (1 - v4)))) 128 then (if x17 = 0 then if ix (((v3 ^^^ v5) + (64 * (1 - v4)))) 128 then some (((upR R 14 (((v3 ^^^ v5) + (64 * (1 - v4)))).toNatClampNeg x19)) 15 (((v3 ^^^ v5) + (64 * (1 - v4)))).toNatClampNeg) else none else if ix v1 128 then some ((((upR R 14 (((v3 ^^^ v5) + (64 * (1 - v4)))).toNatClampNeg x19)) 15 v1.toNatClampNeg) + 1) else none : Option (Int32)).bind fun x24 => if ix (((v3 ^^^ v5) + (64 * (1 - v4)))) 128 then (if v2 = 0 then (if x13 = 0 then (if x17 = 0 then some 0 else some 1) else some 1) else some 1 : Option (Int32)).bind fun x29 => some (x29, I, (upR (upR R 14 (((v3 ^^^ v5) + (64 * (1 - v4)))).toNatClampNeg x19) 15 (((v3 ^^^ v5) + (64 * (1 - v4)))).toNatClampNeg x24)) else none else none else none else none else none else none) : Option (Int32 × (Nat → Int32) × (Nat → Nat → Int32))).bind fun (x5, I6, R7) => l_Md_comesCloser_16 n v1 v3 v4 k x5 (v5 + 1) I6 R7 else none)
set_option maxHeartbeats 4000000 in
theorem wl_Md_comesCloser_16 {Q : State → Prop}  {p : Program} {l : Launch} {e : Env} {s : State} {m : MethodId} {args : Array Value} {below : List Frame} {meth : Method} {c : Code} {dC : Nat → ClassId} {dI : Nat → Nat → Nat} {ad : Nat → Nat} {cI cZ : ClassId} {A : Nat → Prop} {adK adV : Nat → Nat} (C : mC p s m args c b_Md_comesCloser 10 dC dI cI cZ A adK adV) (hA : ∀ q, s.heap.size ≤ q → A q) (hr : meth.sig.returnType = some .boolean) (hlk : meth.locks = false) (n : Nat)  (v1 : Int32) (v3 : Int32) (v4 : Int32)  : ∀ (k : Nat) (v2 : Int32) (v5 : Int32) (I : Nat → Int32) (R : Nat → Nat → Int32) (r0 : Int32) (r1 : Nat → Int32) (r2 : Nat → Nat → Int32), l_Md_comesCloser_16 n v1 v3 v4 k v2 v5 I R = some (r0, r1, r2) → (∀ (ls : Array Slot), lv_has ls 10 [(2, .int r0)] → ∀ (H : Heap) (locs : List Loc), mH A s.heap dC dI ad cI cZ r1 r2 H locs → W p l e (rL 6) s m args below meth c H locs 0 0 Q (F0 m 209 ls [])) → ∀ (ls : Array Slot), lv_has ls 10 [(0, .ref (ad 0)), (1, .int v1), (2, .int v2), (3, .int v3), (4, .int v4), (5, .int v5)] → ∀ (H : Heap) (locs : List Loc), mH A s.heap dC dI ad cI cZ I R H locs → W p l e (rL 6) s m args below meth c H locs 0 0 Q (F0 m 16 ls []) := by
  obtain ⟨hx, hb, hml, hown, hT, -⟩ := id C
  intro k
  induction k with
  | zero => intro v2 v5 I R r0 r1 r2 hf; exact absurd hf (by unfold l_Md_comesCloser_16; exact fun h9 => by cases h9)
  | succ k ih =>
    intro v2 v5 I R r0 r1 r2 hf K ls hl H locs h
    unfold l_Md_comesCloser_16 at hf
    refine lv_iload hx hb d_Md_comesCloser_16 (lv_at hl 5 rfl) ?_
    refine lv_aload_n hx hb d_Md_comesCloser_18 rfl (lv_at hl 0 rfl) ?_
    obtain ⟨x2, hc1, hf⟩ := op_bind hf
    refine kc_r (rest := [.int v5]) C h hA (c_Md_all l n I R) hc1 (cbW 0 hT cd_Md_all rfl rfl ini_Md ml_Md_48 hd_Md_all ⟨Nat.le_of_ble_eq_true rfl, Nat.le_of_ble_eq_true rfl⟩) im_Md_all sp_Md_all rfl hl.1 rfl (Nat.le_of_ble_eq_true rfl) d_Md_comesCloser_19 ⟨Nat.zero_le _, Nat.zero_le _⟩ (fun H locs h => ?_)
    refine lv_icmp_gt (tgt := 209) hx hb d_Md_comesCloser_22 (by decide) (fun hc => ?_) (fun hc => ?_)
    · have hf := op_t hc hf
      obtain ⟨rfl, rfl, rfl⟩ := op_i3 hf
      exact K ls (lv_sub hl [2] rfl) H locs h
    · have hf := op_f hc hf
      refine lv_aload_n hx hb d_Md_comesCloser_25 rfl (lv_at hl 0 rfl) ?_
      refine mg_13 C h d_Md_comesCloser_26 ?_
      refine lv_bipush (v := 64) hx hb d_Md_comesCloser_29 (by decide) ?_
      refine lv_iload hx hb d_Md_comesCloser_31 (lv_at hl 4 rfl) ?_
      refine lv_imul hx hb d_Md_comesCloser_33 ?_
      refine lv_iload hx hb d_Md_comesCloser_34 (lv_at hl 5 rfl) ?_
      refine lv_iadd hx hb d_Md_comesCloser_36 ?_
      obtain ⟨h3, hf⟩ := op_if hf
      refine ma_13 C h rfl h3 d_Md_comesCloser_37 ?_
      refine lv_istore (lv' := [(6, .int (R 13 ((64 * v4) + v5).toNatClampNeg)), (0, .ref (ad 0)), (1, .int v1), (2, .int v2), (3, .int v3), (4, .int v4), (5, .int v5)]) hx hb d_Md_comesCloser_38 hl (by decide) rfl (fun ls hl => ?_)
      refine lv_iload hx hb d_Md_comesCloser_40 (lv_at hl 0 rfl) ?_
      refine lv_iconst (v := (-1)) hx hb d_Md_comesCloser_42 (by decide) ?_
      obtain ⟨⟨x5, I6, R7⟩, he, hf⟩ := op_bind hf
      try dsimp only at hf
      have K4 : ∀ (ls : Array Slot), lv_has ls 10 [(0, .ref (ad 0)), (1, .int v1), (2, .int x5), (3, .int v3), (4, .int v4), (5, .int v5)] → ∀ (H : Heap) (locs : List Loc), mH A s.heap dC dI ad cI cZ I6 R7 H locs → W p l e (rL 6) s m args below meth c H locs 0 0 Q (F0 m 203 ls []) := by
        intro ls hl H locs h
        refine lv_iinc (v := (v5 + 1)) (lv' := [(5, .int (v5 + 1)), (0, .ref (ad 0)), (1, .int v1), (2, .int x5), (3, .int v3), (4, .int v4)]) hx hb d_Md_comesCloser_203 hl (k := 5) rfl rfl (by decide) rfl (fun ls hl => ?_)
        refine lv_goto (tgt := 16) hx hb d_Md_comesCloser_206 (by decide) ?_
        exact ih x5 (v5 + 1) I6 R7 _ _ _ hf K ls (lv_sub hl [1, 2, 3, 4, 5, 0] rfl) H locs h
      have hf := he
      refine lv_icmp_eq (tgt := 203) hx hb d_Md_comesCloser_43 (by decide) (fun hc => ?_) (fun hc => ?_)
      · have hf := op_t hc hf
        obtain ⟨rfl, rfl, rfl⟩ := op_i3 hf
        exact K4 ls (lv_sub hl [1, 2, 3, 4, 5, 6] rfl) H locs h
      · have hf := op_f hc hf
        refine lv_iload hx hb d_Md_comesCloser_46 (lv_at hl 6 rfl) ?_
        refine lv_iload_n hx hb d_Md_comesCloser_48 rfl (lv_at hl 4 rfl) ?_
        refine lv_iload hx hb d_Md_comesCloser_49 (lv_at hl 5 rfl) ?_
        obtain ⟨x9, hc8, hf⟩ := op_bind hf
        refine ks_i (rest := []) hx hb hml hown hT (c_Md_areHere l n v5 v3 v4 _ hc8) (cbW 3 hT cd_Md_areHere rfl rfl ini_Md ml_Md_173 hd_Md_areHere ⟨Nat.le_of_ble_eq_true rfl, Nat.le_of_ble_eq_true rfl⟩) sm_Md_areHere rfl hl.1 rfl (Nat.le_of_ble_eq_true rfl) d_Md_comesCloser_51 ⟨Nat.zero_le _, Nat.zero_le _⟩ ?_
        refine lv_if_eq (tgt := 203) hx hb d_Md_comesCloser_54 (by decide) (fun hc => ?_) (fun hc => ?_)
        · have hf := op_t hc hf
          obtain ⟨rfl, rfl, rfl⟩ := op_i3 hf
          exact K4 ls (lv_sub hl [1, 2, 3, 4, 5, 6] rfl) H locs h
        · have hf := op_f hc hf
          refine lv_iload_n hx hb d_Md_comesCloser_57 rfl (lv_at hl 4 rfl) ?_
          refine lv_iload hx hb d_Md_comesCloser_58 (lv_at hl 6 rfl) ?_
          refine lv_ixor hx hb d_Md_comesCloser_60 ?_
          refine lv_bipush (v := 64) hx hb d_Md_comesCloser_61 (by decide) ?_
          refine lv_iconst (v := 1) hx hb d_Md_comesCloser_63 (by decide) ?_
          refine lv_iload hx hb d_Md_comesCloser_64 (lv_at hl 5 rfl) ?_
          refine lv_isub hx hb d_Md_comesCloser_66 ?_
          refine lv_imul hx hb d_Md_comesCloser_67 ?_
          refine lv_iadd hx hb d_Md_comesCloser_68 ?_
          refine lv_istore (lv' := [(7, .int ((v3 ^^^ v5) + (64 * (1 - v4)))), (6, .int (R 13 ((64 * v4) + v5).toNatClampNeg)), (0, .ref (ad 0)), (1, .int v1), (2, .int v2), (3, .int v3), (4, .int v4), (5, .int v5)]) hx hb d_Md_comesCloser_69 hl (by decide) rfl (fun ls hl => ?_)
          refine lv_aload_n hx hb d_Md_comesCloser_71 rfl (lv_at hl 2 rfl) ?_
          refine mg_14 C h d_Md_comesCloser_72 ?_
          refine lv_iload_n hx hb d_Md_comesCloser_75 rfl (lv_at hl 3 rfl) ?_
          obtain ⟨h10, hf⟩ := op_if hf
          refine ma_14 C h rfl h10 d_Md_comesCloser_76 ?_
          refine lv_iload hx hb d_Md_comesCloser_77 (lv_at hl 1 rfl) ?_
          refine lv_iadd hx hb d_Md_comesCloser_79 ?_
          refine lv_aload_n hx hb d_Md_comesCloser_80 rfl (lv_at hl 2 rfl) ?_
          refine mg_14 C h d_Md_comesCloser_81 ?_
          refine lv_iload hx hb d_Md_comesCloser_84 (lv_at hl 0 rfl) ?_
          obtain ⟨h11, hf⟩ := op_if hf
          refine ma_14 C h rfl h11 d_Md_comesCloser_86 ?_
          obtain ⟨x13, he, hf⟩ := op_bind hf
          have K12 : ∀ (ls : Array Slot), lv_has ls 10 [(0, .ref (ad 0)), (1, .int v1), (2, .int v2), (3, .int v3), (4, .int v4), (5, .int v5), (6, .int (R 13 ((64 * v4) + v5).toNatClampNeg)), (7, .int ((v3 ^^^ v5) + (64 * (1 - v4))))] → ∀ (H : Heap) (locs : List Loc), mH A s.heap dC dI ad cI cZ I R H locs → W p l e (rL 6) s m args below meth c H locs 0 0 Q (F0 m 95 ls [.int x13]) := by
            intro ls hl H locs h
            refine lv_istore (lv' := [(8, .int x13), (0, .ref (ad 0)), (1, .int v1), (2, .int v2), (3, .int v3), (4, .int v4), (5, .int v5), (6, .int (R 13 ((64 * v4) + v5).toNatClampNeg)), (7, .int ((v3 ^^^ v5) + (64 * (1 - v4))))]) hx hb d_Md_comesCloser_95 hl (by decide) rfl (fun ls hl => ?_)
            refine lv_aload_n hx hb d_Md_comesCloser_97 rfl (lv_at hl 1 rfl) ?_
            refine mg_15 C h d_Md_comesCloser_98 ?_
            refine lv_iload_n hx hb d_Md_comesCloser_101 rfl (lv_at hl 2 rfl) ?_
            obtain ⟨h14, hf⟩ := op_if hf
            refine ma_15 C h rfl h14 d_Md_comesCloser_102 ?_
            refine lv_iconst (v := 1) hx hb d_Md_comesCloser_103 (by decide) ?_
            refine lv_iadd hx hb d_Md_comesCloser_104 ?_
            refine lv_aload_n hx hb d_Md_comesCloser_105 rfl (lv_at hl 1 rfl) ?_
            refine mg_15 C h d_Md_comesCloser_106 ?_
            refine lv_iload hx hb d_Md_comesCloser_109 (lv_at hl 8 rfl) ?_
            obtain ⟨h15, hf⟩ := op_if hf
            refine ma_15 C h rfl h15 d_Md_comesCloser_111 ?_
            obtain ⟨x17, he, hf⟩ := op_bind hf
            have K16 : ∀ (ls : Array Slot), lv_has ls 10 [(0, .ref (ad 0)), (1, .int v1), (2, .int v2), (3, .int v3), (4, .int v4), (5, .int v5), (6, .int (R 13 ((64 * v4) + v5).toNatClampNeg)), (7, .int ((v3 ^^^ v5) + (64 * (1 - v4)))), (8, .int x13)] → ∀ (H : Heap) (locs : List Loc), mH A s.heap dC dI ad cI cZ I R H locs → W p l e (rL 6) s m args below meth c H locs 0 0 Q (F0 m 120 ls [.int x17]) := by
              intro ls hl H locs h
              refine lv_istore (lv' := [(9, .int x17), (0, .ref (ad 0)), (1, .int v1), (2, .int v2), (3, .int v3), (4, .int v4), (5, .int v5), (6, .int (R 13 ((64 * v4) + v5).toNatClampNeg)), (7, .int ((v3 ^^^ v5) + (64 * (1 - v4)))), (8, .int x13)]) hx hb d_Md_comesCloser_120 hl (by decide) rfl (fun ls hl => ?_)
              refine lv_aload_n hx hb d_Md_comesCloser_122 rfl (lv_at hl 1 rfl) ?_
              refine mg_14 C h d_Md_comesCloser_123 ?_
              refine lv_iload hx hb d_Md_comesCloser_126 (lv_at hl 8 rfl) ?_
              refine lv_iload hx hb d_Md_comesCloser_128 (lv_at hl 9 rfl) ?_
              obtain ⟨x19, he, hf⟩ := op_bind hf
              have K18 : ∀ (ls : Array Slot), lv_has ls 10 [(0, .ref (ad 0)), (1, .int v1), (2, .int v2), (3, .int v3), (4, .int v4), (5, .int v5), (7, .int ((v3 ^^^ v5) + (64 * (1 - v4)))), (8, .int x13), (9, .int x17)] → ∀ (H : Heap) (locs : List Loc), mH A s.heap dC dI ad cI cZ I R H locs → W p l e (rL 6) s m args below meth c H locs 0 0 Q (F0 m 152 ls [.int x19, .int ((v3 ^^^ v5) + (64 * (1 - v4))), .ref (ad 14)]) := by
                intro ls hl H locs h
                obtain ⟨h22, hf⟩ := op_if hf
                refine ms_14 C h rfl h22 d_Md_comesCloser_152 (fun H locs h => ?_)
                refine lv_aload_n hx hb d_Md_comesCloser_153 rfl (lv_at hl 0 rfl) ?_
                refine mg_15 C h d_Md_comesCloser_154 ?_
                refine lv_iload hx hb d_Md_comesCloser_157 (lv_at hl 6 rfl) ?_
                refine lv_iload hx hb d_Md_comesCloser_159 (lv_at hl 8 rfl) ?_
                obtain ⟨x24, he, hf⟩ := op_bind hf
                have K23 : ∀ (ls : Array Slot), lv_has ls 10 [(0, .ref (ad 0)), (1, .int v1), (2, .int v2), (3, .int v3), (4, .int v4), (5, .int v5), (8, .int x13), (9, .int x17)] → ∀ (H : Heap) (locs : List Loc), mH A s.heap dC dI ad cI cZ I (upR R 14 (((v3 ^^^ v5) + (64 * (1 - v4)))).toNatClampNeg x19) H locs → W p l e (rL 6) s m args below meth c H locs 0 0 Q (F0 m 182 ls [.int x24, .int ((v3 ^^^ v5) + (64 * (1 - v4))), .ref (ad 15)]) := by
                  intro ls hl H locs h
                  obtain ⟨h27, hf⟩ := op_if hf
                  refine ms_15 C h rfl h27 d_Md_comesCloser_182 (fun H locs h => ?_)
                  refine lv_iload_n hx hb d_Md_comesCloser_183 rfl (lv_at hl 2 rfl) ?_
                  obtain ⟨x29, he, hf⟩ := op_bind hf
                  have K28 : ∀ (ls : Array Slot), lv_has ls 10 [(0, .ref (ad 0)), (1, .int v1), (3, .int v3), (4, .int v4), (5, .int v5)] → ∀ (H : Heap) (locs : List Loc), mH A s.heap dC dI ad cI cZ I (upR (upR R 14 (((v3 ^^^ v5) + (64 * (1 - v4)))).toNatClampNeg x19) 15 (((v3 ^^^ v5) + (64 * (1 - v4)))).toNatClampNeg x24) H locs → W p l e (rL 6) s m args below meth c H locs 0 0 Q (F0 m 202 ls [.int x29]) := by
                    intro ls hl H locs h
                    refine lv_istore_n (lv' := [(2, .int x29), (0, .ref (ad 0)), (1, .int v1), (3, .int v3), (4, .int v4), (5, .int v5)]) hx hb d_Md_comesCloser_202 rfl hl (by decide) rfl (fun ls hl => ?_)
                    obtain ⟨rfl, rfl, rfl⟩ := op_i3 hf
                    exact K4 ls (lv_sub hl [1, 2, 0, 3, 4, 5] rfl) H locs h
                  have hf := he
                  refine lv_if_ne (tgt := 197) hx hb d_Md_comesCloser_184 (by decide) (fun hc => ?_) (fun hc => ?_)
                  · have hf := op_f hc hf
                    refine lv_iconst (v := 1) hx hb d_Md_comesCloser_197 (by decide) ?_
                    refine lv_goto (tgt := 202) hx hb d_Md_comesCloser_198 (by decide) ?_
                    obtain rfl := op_i1 hf
                    exact K28 ls (lv_sub hl [0, 1, 3, 4, 5] rfl) H locs h
                  · have hf := op_t hc hf
                    refine lv_iload hx hb d_Md_comesCloser_187 (lv_at hl 6 rfl) ?_
                    refine lv_if_ne (tgt := 197) hx hb d_Md_comesCloser_189 (by decide) (fun hc => ?_) (fun hc => ?_)
                    · have hf := op_f hc hf
                      refine lv_iconst (v := 1) hx hb d_Md_comesCloser_197 (by decide) ?_
                      refine lv_goto (tgt := 202) hx hb d_Md_comesCloser_198 (by decide) ?_
                      obtain rfl := op_i1 hf
                      exact K28 ls (lv_sub hl [0, 1, 3, 4, 5] rfl) H locs h
                    · have hf := op_t hc hf
                      refine lv_iload hx hb d_Md_comesCloser_192 (lv_at hl 7 rfl) ?_
                      refine lv_if_eq (tgt := 201) hx hb d_Md_comesCloser_194 (by decide) (fun hc => ?_) (fun hc => ?_)
                      · have hf := op_t hc hf
                        refine lv_iconst (v := 0) hx hb d_Md_comesCloser_201 (by decide) ?_
                        obtain rfl := op_i1 hf
                        exact K28 ls (lv_sub hl [0, 1, 3, 4, 5] rfl) H locs h
                      · have hf := op_f hc hf
                        refine lv_iconst (v := 1) hx hb d_Md_comesCloser_197 (by decide) ?_
                        refine lv_goto (tgt := 202) hx hb d_Md_comesCloser_198 (by decide) ?_
                        obtain rfl := op_i1 hf
                        exact K28 ls (lv_sub hl [0, 1, 3, 4, 5] rfl) H locs h
                have hf := he
                refine lv_if_eq (tgt := 175) hx hb d_Md_comesCloser_161 (by decide) (fun hc => ?_) (fun hc => ?_)
                · have hf := op_t hc hf
                  refine lv_aload_n hx hb d_Md_comesCloser_175 rfl (lv_at hl 0 rfl) ?_
                  refine mg_15 C h d_Md_comesCloser_176 ?_
                  refine lv_iload hx hb d_Md_comesCloser_179 (lv_at hl 6 rfl) ?_
                  obtain ⟨h25, hf⟩ := op_if hf
                  refine ma_15 C h rfl h25 d_Md_comesCloser_181 ?_
                  obtain rfl := op_i1 hf
                  exact K23 ls (lv_sub hl [0, 1, 2, 3, 4, 5, 7, 8] rfl) H locs h
                · have hf := op_f hc hf
                  refine lv_aload_n hx hb d_Md_comesCloser_164 rfl (lv_at hl 0 rfl) ?_
                  refine mg_15 C h d_Md_comesCloser_165 ?_
                  refine lv_iload_n hx hb d_Md_comesCloser_168 rfl (lv_at hl 1 rfl) ?_
                  obtain ⟨h26, hf⟩ := op_if hf
                  refine ma_15 C h rfl h26 d_Md_comesCloser_169 ?_
                  refine lv_iconst (v := 1) hx hb d_Md_comesCloser_170 (by decide) ?_
                  refine lv_iadd hx hb d_Md_comesCloser_171 ?_
                  refine lv_goto (tgt := 182) hx hb d_Md_comesCloser_172 (by decide) ?_
                  obtain rfl := op_i1 hf
                  exact K23 ls (lv_sub hl [0, 1, 2, 3, 4, 5, 7, 8] rfl) H locs h
              have hf := he
              refine lv_if_eq (tgt := 145) hx hb d_Md_comesCloser_130 (by decide) (fun hc => ?_) (fun hc => ?_)
              · have hf := op_t hc hf
                refine lv_aload_n hx hb d_Md_comesCloser_145 rfl (lv_at hl 1 rfl) ?_
                refine mg_14 C h d_Md_comesCloser_146 ?_
                refine lv_iload hx hb d_Md_comesCloser_149 (lv_at hl 8 rfl) ?_
                obtain ⟨h20, hf⟩ := op_if hf
                refine ma_14 C h rfl h20 d_Md_comesCloser_151 ?_
                obtain rfl := op_i1 hf
                exact K18 ls (lv_sub hl [1, 2, 3, 4, 5, 6, 8, 9, 0] rfl) H locs h
              · have hf := op_f hc hf
                refine lv_aload_n hx hb d_Md_comesCloser_133 rfl (lv_at hl 1 rfl) ?_
                refine mg_14 C h d_Md_comesCloser_134 ?_
                refine lv_iload_n hx hb d_Md_comesCloser_137 rfl (lv_at hl 2 rfl) ?_
                obtain ⟨h21, hf⟩ := op_if hf
                refine ma_14 C h rfl h21 d_Md_comesCloser_138 ?_
                refine lv_iload hx hb d_Md_comesCloser_139 (lv_at hl 7 rfl) ?_
                refine lv_iadd hx hb d_Md_comesCloser_141 ?_
                refine lv_goto (tgt := 152) hx hb d_Md_comesCloser_142 (by decide) ?_
                obtain rfl := op_i1 hf
                exact K18 ls (lv_sub hl [1, 2, 3, 4, 5, 6, 8, 9, 0] rfl) H locs h
            have hf := he
            refine lv_icmp_ge (tgt := 119) hx hb d_Md_comesCloser_112 (by decide) (fun hc => ?_) (fun hc => ?_)
            · have hf := op_t hc hf
              refine lv_iconst (v := 0) hx hb d_Md_comesCloser_119 (by decide) ?_
              obtain rfl := op_i1 hf
              exact K16 ls (lv_sub hl [1, 2, 3, 4, 5, 6, 7, 8, 0] rfl) H locs h
            · have hf := op_f hc hf
              refine lv_iconst (v := 1) hx hb d_Md_comesCloser_115 (by decide) ?_
              refine lv_goto (tgt := 120) hx hb d_Md_comesCloser_116 (by decide) ?_
              obtain rfl := op_i1 hf
              exact K16 ls (lv_sub hl [1, 2, 3, 4, 5, 6, 7, 8, 0] rfl) H locs h
          have hf := he
          refine lv_icmp_ge (tgt := 94) hx hb d_Md_comesCloser_87 (by decide) (fun hc => ?_) (fun hc => ?_)
          · have hf := op_t hc hf
            refine lv_iconst (v := 0) hx hb d_Md_comesCloser_94 (by decide) ?_
            obtain rfl := op_i1 hf
            exact K12 ls (lv_sub hl [2, 3, 4, 5, 6, 7, 1, 0] rfl) H locs h
          · have hf := op_f hc hf
            refine lv_iconst (v := 1) hx hb d_Md_comesCloser_90 (by decide) ?_
            refine lv_goto (tgt := 95) hx hb d_Md_comesCloser_91 (by decide) ?_
            obtain rfl := op_i1 hf
            exact K12 ls (lv_sub hl [2, 3, 4, 5, 6, 7, 1, 0] rfl) H locs h
def p_Md_comesCloser (n : Nat) (v1 : Int32) (I : Nat → Int32) (R : Nat → Nat → Int32) : Option (Int32 × MU) := (l_Md_comesCloser_16 n v1 (v1 - v1 / 64 * 64) (v1 / 64) n 0 1 I R).bind fun (y30, I31, R32) => if isZ y30 then some (y30, I31, R32) else none
set_option maxHeartbeats 4000000 in
theorem c_Md_comesCloser (l : Launch) (n : Nat) (v1 : Int32) (I : Nat → Int32) (R : Nat → Nat → Int32)  : MMi l y_Md_comesCloser b_Md_comesCloser 10 .boolean (rL 6) (fun ad adK => [.int v1]) I R (p_Md_comesCloser n v1 I R) := by
  refine en_mi (by decide) rfl (fun _ _ => Nat.le_of_ble_eq_true rfl) ?_
  intro z hf p e s m args below meth c dC dI ad cI cZ A adK adV ls C hA h hr hlk hl
  have hl : lv_has ls 10 [(0, .ref (ad 0)), (1, .int v1)] := hl
  unfold p_Md_comesCloser at hf
  obtain ⟨hx, hb, hml, hown, hT, -⟩ := id C
  refine lv_iconst (v := 0) hx hb d_Md_comesCloser_0 (by decide) ?_
  refine lv_istore_n (lv' := [(2, .int 0), (0, .ref (ad 0)), (1, .int v1)]) hx hb d_Md_comesCloser_1 rfl hl (by decide) rfl (fun ls hl => ?_)
  refine lv_iload_n hx hb d_Md_comesCloser_2 rfl (lv_at hl 2 rfl) ?_
  refine lv_bipush (v := 64) hx hb d_Md_comesCloser_3 (by decide) ?_
  refine lv_irem hx hb d_Md_comesCloser_5 (by decide) ?_
  refine lv_istore_n (lv' := [(3, .int (v1 - v1 / 64 * 64)), (2, .int 0), (0, .ref (ad 0)), (1, .int v1)]) hx hb d_Md_comesCloser_6 rfl hl (by decide) rfl (fun ls hl => ?_)
  refine lv_iload_n hx hb d_Md_comesCloser_7 rfl (lv_at hl 3 rfl) ?_
  refine lv_bipush (v := 64) hx hb d_Md_comesCloser_8 (by decide) ?_
  refine lv_idiv hx hb d_Md_comesCloser_10 (by decide) ?_
  refine lv_istore (lv' := [(4, .int (v1 / 64)), (3, .int (v1 - v1 / 64 * 64)), (2, .int 0), (0, .ref (ad 0)), (1, .int v1)]) hx hb d_Md_comesCloser_11 hl (by decide) rfl (fun ls hl => ?_)
  refine lv_iconst (v := 1) hx hb d_Md_comesCloser_13 (by decide) ?_
  refine lv_istore (lv' := [(5, .int 1), (4, .int (v1 / 64)), (3, .int (v1 - v1 / 64 * 64)), (2, .int 0), (0, .ref (ad 0)), (1, .int v1)]) hx hb d_Md_comesCloser_14 hl (by decide) rfl (fun ls hl => ?_)
  obtain ⟨⟨y30, I31, R32⟩, he, hf⟩ := op_bind hf
  try dsimp only at hf
  refine wl_Md_comesCloser_16 C hA hr hlk n v1 (v1 - v1 / 64 * 64) (v1 / 64) n 0 1 I R _ _ _ he (fun ls hl H locs h => ?_) ls (lv_sub hl [4, 5, 3, 2, 1, 0] rfl) s.heap [] h
  refine lv_iload_n hx hb d_Md_comesCloser_209 rfl (lv_at hl 0 rfl) ?_
  obtain ⟨h33, hf⟩ := op_if hf
  exact rt_mi C h hr hlk hf (isZ_nar h33) d_Md_comesCloser_210
theorem hd_Md_isCloser : y_Md_isCloser.cls ≠ "java/lang/invoke/MethodHandle" ∧ y_Md_isCloser.cls ≠ "java/lang/invoke/VarHandle" ∧ (parseMethodDescriptor y_Md_isCloser.desc).map (fun d => d.parameters.length) = some 1 := by decide +kernel
theorem d_Md_isCloser_0 : decode b_Md_isCloser 0 = .ok (.iload_n 1, 1) := by decide +kernel
theorem d_Md_isCloser_1 : decode b_Md_isCloser 1 = .ok (.bipush 64, 2) := by decide +kernel
theorem d_Md_isCloser_3 : decode b_Md_isCloser 3 = .ok (.irem, 1) := by decide +kernel
theorem d_Md_isCloser_4 : decode b_Md_isCloser 4 = .ok (.istore_n 2, 1) := by decide +kernel
theorem d_Md_isCloser_5 : decode b_Md_isCloser 5 = .ok (.iload_n 1, 1) := by decide +kernel
theorem d_Md_isCloser_6 : decode b_Md_isCloser 6 = .ok (.bipush 64, 2) := by decide +kernel
theorem d_Md_isCloser_8 : decode b_Md_isCloser 8 = .ok (.idiv, 1) := by decide +kernel
theorem d_Md_isCloser_9 : decode b_Md_isCloser 9 = .ok (.istore_n 3, 1) := by decide +kernel
theorem d_Md_isCloser_10 : decode b_Md_isCloser 10 = .ok (.aload_n 0, 1) := by decide +kernel
theorem d_Md_isCloser_11 : decode b_Md_isCloser 11 = .ok (.getfield 34, 3) := by decide +kernel
theorem d_Md_isCloser_14 : decode b_Md_isCloser 14 = .ok (.iload_n 1, 1) := by decide +kernel
theorem d_Md_isCloser_15 : decode b_Md_isCloser 15 = .ok (.iaload, 1) := by decide +kernel
theorem d_Md_isCloser_16 : decode b_Md_isCloser 16 = .ok (.istore 4, 2) := by decide +kernel
theorem d_Md_isCloser_18 : decode b_Md_isCloser 18 = .ok (.iconst 1, 1) := by decide +kernel
theorem d_Md_isCloser_19 : decode b_Md_isCloser 19 = .ok (.istore 5, 2) := by decide +kernel
theorem d_Md_isCloser_21 : decode b_Md_isCloser 21 = .ok (.iload 5, 2) := by decide +kernel
theorem d_Md_isCloser_23 : decode b_Md_isCloser 23 = .ok (.aload_n 0, 1) := by decide +kernel
theorem d_Md_isCloser_24 : decode b_Md_isCloser 24 = .ok (.invokevirtual 48, 3) := by decide +kernel
theorem d_Md_isCloser_27 : decode b_Md_isCloser 27 = .ok (.if_icmp .gt 76, 3) := by decide +kernel
theorem d_Md_isCloser_30 : decode b_Md_isCloser 30 = .ok (.aload_n 0, 1) := by decide +kernel
theorem d_Md_isCloser_31 : decode b_Md_isCloser 31 = .ok (.getfield 25, 3) := by decide +kernel
theorem d_Md_isCloser_34 : decode b_Md_isCloser 34 = .ok (.bipush 64, 2) := by decide +kernel
theorem d_Md_isCloser_36 : decode b_Md_isCloser 36 = .ok (.iload_n 3, 1) := by decide +kernel
theorem d_Md_isCloser_37 : decode b_Md_isCloser 37 = .ok (.imul, 1) := by decide +kernel
theorem d_Md_isCloser_38 : decode b_Md_isCloser 38 = .ok (.iload 5, 2) := by decide +kernel
theorem d_Md_isCloser_40 : decode b_Md_isCloser 40 = .ok (.iadd, 1) := by decide +kernel
theorem d_Md_isCloser_41 : decode b_Md_isCloser 41 = .ok (.iaload, 1) := by decide +kernel
theorem d_Md_isCloser_42 : decode b_Md_isCloser 42 = .ok (.istore 6, 2) := by decide +kernel
theorem d_Md_isCloser_44 : decode b_Md_isCloser 44 = .ok (.iload 6, 2) := by decide +kernel
theorem d_Md_isCloser_46 : decode b_Md_isCloser 46 = .ok (.iconst (-1), 1) := by decide +kernel
theorem d_Md_isCloser_47 : decode b_Md_isCloser 47 = .ok (.if_icmp .eq 50, 3) := by decide +kernel
theorem d_Md_isCloser_50 : decode b_Md_isCloser 50 = .ok (.iload 5, 2) := by decide +kernel
theorem d_Md_isCloser_52 : decode b_Md_isCloser 52 = .ok (.iload_n 2, 1) := by decide +kernel
theorem d_Md_isCloser_53 : decode b_Md_isCloser 53 = .ok (.iload_n 3, 1) := by decide +kernel
theorem d_Md_isCloser_54 : decode b_Md_isCloser 54 = .ok (.invokestatic 173, 3) := by decide +kernel
theorem d_Md_isCloser_57 : decode b_Md_isCloser 57 = .ok (.ifCond .eq 40, 3) := by decide +kernel
theorem d_Md_isCloser_60 : decode b_Md_isCloser 60 = .ok (.iload 6, 2) := by decide +kernel
theorem d_Md_isCloser_62 : decode b_Md_isCloser 62 = .ok (.aload_n 0, 1) := by decide +kernel
theorem d_Md_isCloser_63 : decode b_Md_isCloser 63 = .ok (.getfield 34, 3) := by decide +kernel
theorem d_Md_isCloser_66 : decode b_Md_isCloser 66 = .ok (.iload_n 2, 1) := by decide +kernel
theorem d_Md_isCloser_67 : decode b_Md_isCloser 67 = .ok (.iload 5, 2) := by decide +kernel
theorem d_Md_isCloser_69 : decode b_Md_isCloser 69 = .ok (.ixor, 1) := by decide +kernel
theorem d_Md_isCloser_70 : decode b_Md_isCloser 70 = .ok (.bipush 64, 2) := by decide +kernel
theorem d_Md_isCloser_72 : decode b_Md_isCloser 72 = .ok (.iconst 1, 1) := by decide +kernel
theorem d_Md_isCloser_73 : decode b_Md_isCloser 73 = .ok (.iload_n 3, 1) := by decide +kernel
theorem d_Md_isCloser_74 : decode b_Md_isCloser 74 = .ok (.isub, 1) := by decide +kernel
theorem d_Md_isCloser_75 : decode b_Md_isCloser 75 = .ok (.imul, 1) := by decide +kernel
theorem d_Md_isCloser_76 : decode b_Md_isCloser 76 = .ok (.iadd, 1) := by decide +kernel
theorem d_Md_isCloser_77 : decode b_Md_isCloser 77 = .ok (.iaload, 1) := by decide +kernel
theorem d_Md_isCloser_78 : decode b_Md_isCloser 78 = .ok (.iadd, 1) := by decide +kernel
theorem d_Md_isCloser_79 : decode b_Md_isCloser 79 = .ok (.istore 7, 2) := by decide +kernel
theorem d_Md_isCloser_81 : decode b_Md_isCloser 81 = .ok (.iload 7, 2) := by decide +kernel
theorem d_Md_isCloser_83 : decode b_Md_isCloser 83 = .ok (.iload 4, 2) := by decide +kernel
theorem d_Md_isCloser_85 : decode b_Md_isCloser 85 = .ok (.if_icmp .ge 8, 3) := by decide +kernel
theorem d_Md_isCloser_88 : decode b_Md_isCloser 88 = .ok (.iload 7, 2) := by decide +kernel
theorem d_Md_isCloser_90 : decode b_Md_isCloser 90 = .ok (.goto 5, 3) := by decide +kernel
theorem d_Md_isCloser_93 : decode b_Md_isCloser 93 = .ok (.iload 4, 2) := by decide +kernel
theorem d_Md_isCloser_95 : decode b_Md_isCloser 95 = .ok (.istore 4, 2) := by decide +kernel
theorem d_Md_isCloser_97 : decode b_Md_isCloser 97 = .ok (.iinc 5 1, 3) := by decide +kernel
theorem d_Md_isCloser_100 : decode b_Md_isCloser 100 = .ok (.goto (-79), 3) := by decide +kernel
theorem d_Md_isCloser_103 : decode b_Md_isCloser 103 = .ok (.iload 4, 2) := by decide +kernel
theorem d_Md_isCloser_105 : decode b_Md_isCloser 105 = .ok (.aload_n 0, 1) := by decide +kernel
theorem d_Md_isCloser_106 : decode b_Md_isCloser 106 = .ok (.getfield 34, 3) := by decide +kernel
theorem d_Md_isCloser_109 : decode b_Md_isCloser 109 = .ok (.iload_n 1, 1) := by decide +kernel
theorem d_Md_isCloser_110 : decode b_Md_isCloser 110 = .ok (.iaload, 1) := by decide +kernel
theorem d_Md_isCloser_111 : decode b_Md_isCloser 111 = .ok (.if_icmp .ge 7, 3) := by decide +kernel
theorem d_Md_isCloser_114 : decode b_Md_isCloser 114 = .ok (.iconst 1, 1) := by decide +kernel
theorem d_Md_isCloser_115 : decode b_Md_isCloser 115 = .ok (.goto 4, 3) := by decide +kernel
theorem d_Md_isCloser_118 : decode b_Md_isCloser 118 = .ok (.iconst 0, 1) := by decide +kernel
theorem d_Md_isCloser_119 : decode b_Md_isCloser 119 = .ok (.istore 5, 2) := by decide +kernel
theorem d_Md_isCloser_121 : decode b_Md_isCloser 121 = .ok (.aload_n 0, 1) := by decide +kernel
theorem d_Md_isCloser_122 : decode b_Md_isCloser 122 = .ok (.getfield 34, 3) := by decide +kernel
theorem d_Md_isCloser_125 : decode b_Md_isCloser 125 = .ok (.iload_n 1, 1) := by decide +kernel
theorem d_Md_isCloser_126 : decode b_Md_isCloser 126 = .ok (.iload 4, 2) := by decide +kernel
theorem d_Md_isCloser_128 : decode b_Md_isCloser 128 = .ok (.iastore, 1) := by decide +kernel
theorem d_Md_isCloser_129 : decode b_Md_isCloser 129 = .ok (.iload 5, 2) := by decide +kernel
theorem d_Md_isCloser_131 : decode b_Md_isCloser 131 = .ok (.ireturn, 1) := by decide +kernel
def l_Md_isCloser_21 (n : Nat)  (v1 : Int32) (v2 : Int32) (v3 : Int32) (I : Nat → Int32) (R : Nat → Nat → Int32) : Nat → Int32 → Int32 → Option (Int32)
  | 0, _, _ => none
  | k + 1, v4, v5 => (p_Md_all n I R).bind fun x3 => (if x3 < v5 then some v4 else if ix ((64 * v3) + v5) 128 then (if (R 13 ((64 * v3) + v5).toNatClampNeg) = (-1) then some v4 else (p_Md_areHere n v5 v2 v3).bind fun x8 => (if x8 = 0 then some v4 else if ix (((v2 ^^^ v5) + (64 * (1 - v3)))) 128 then (if v4 ≤ ((R 13 ((64 * v3) + v5).toNatClampNeg) + (R 16 (((v2 ^^^ v5) + (64 * (1 - v3)))).toNatClampNeg)) then some v4 else some ((R 13 ((64 * v3) + v5).toNatClampNeg) + (R 16 (((v2 ^^^ v5) + (64 * (1 - v3)))).toNatClampNeg)) : Option (Int32)).bind fun x11 => some x11 else none) : Option (Int32)).bind fun x6 => l_Md_isCloser_21 n v1 v2 v3 I R k x6 (v5 + 1) else none)
set_option maxHeartbeats 4000000 in
theorem wl_Md_isCloser_21 {Q : State → Prop}  {p : Program} {l : Launch} {e : Env} {s : State} {m : MethodId} {args : Array Value} {below : List Frame} {meth : Method} {c : Code} {dC : Nat → ClassId} {dI : Nat → Nat → Nat} {ad : Nat → Nat} {cI cZ : ClassId} {A : Nat → Prop} {adK adV : Nat → Nat} (C : mC p s m args c b_Md_isCloser 8 dC dI cI cZ A adK adV) (hA : ∀ q, s.heap.size ≤ q → A q) (hr : meth.sig.returnType = some .boolean) (hlk : meth.locks = false) (n : Nat)  (v1 : Int32) (v2 : Int32) (v3 : Int32) (I : Nat → Int32) (R : Nat → Nat → Int32) : ∀ (k : Nat) (v4 : Int32) (v5 : Int32) (r0 : Int32), l_Md_isCloser_21 n v1 v2 v3 I R k v4 v5 = some r0 → (∀ (ls : Array Slot), lv_has ls 8 [(0, .ref (ad 0)), (1, .int v1), (4, .int r0)] → ∀ (H : Heap) (locs : List Loc), mH A s.heap dC dI ad cI cZ I R H locs → W p l e (rL 6) s m args below meth c H locs 0 0 Q (F0 m 103 ls [])) → ∀ (ls : Array Slot), lv_has ls 8 [(0, .ref (ad 0)), (1, .int v1), (2, .int v2), (3, .int v3), (4, .int v4), (5, .int v5)] → ∀ (H : Heap) (locs : List Loc), mH A s.heap dC dI ad cI cZ I R H locs → W p l e (rL 6) s m args below meth c H locs 0 0 Q (F0 m 21 ls []) := by
  obtain ⟨hx, hb, hml, hown, hT, -⟩ := id C
  intro k
  induction k with
  | zero => intro v4 v5 r0 hf; exact absurd hf (by unfold l_Md_isCloser_21; exact fun h9 => by cases h9)
  | succ k ih =>
    intro v4 v5 r0 hf K ls hl H locs h
    unfold l_Md_isCloser_21 at hf
    refine lv_iload hx hb d_Md_isCloser_21 (lv_at hl 5 rfl) ?_
    refine lv_aload_n hx hb d_Md_isCloser_23 rfl (lv_at hl 0 rfl) ?_
    obtain ⟨x3, hc2, hf⟩ := op_bind hf
    refine kc_r (rest := [.int v5]) C h hA (c_Md_all l n I R) hc2 (cbW 0 hT cd_Md_all rfl rfl ini_Md ml_Md_48 hd_Md_all ⟨Nat.le_of_ble_eq_true rfl, Nat.le_of_ble_eq_true rfl⟩) im_Md_all sp_Md_all rfl hl.1 rfl (Nat.le_of_ble_eq_true rfl) d_Md_isCloser_24 ⟨Nat.zero_le _, Nat.zero_le _⟩ (fun H locs h => ?_)
    refine lv_icmp_gt (tgt := 103) hx hb d_Md_isCloser_27 (by decide) (fun hc => ?_) (fun hc => ?_)
    · have hf := op_t hc hf
      obtain rfl := op_i1 hf
      exact K ls (lv_sub hl [0, 1, 4] rfl) H locs h
    · have hf := op_f hc hf
      refine lv_aload_n hx hb d_Md_isCloser_30 rfl (lv_at hl 0 rfl) ?_
      refine mg_13 C h d_Md_isCloser_31 ?_
      refine lv_bipush (v := 64) hx hb d_Md_isCloser_34 (by decide) ?_
      refine lv_iload_n hx hb d_Md_isCloser_36 rfl (lv_at hl 3 rfl) ?_
      refine lv_imul hx hb d_Md_isCloser_37 ?_
      refine lv_iload hx hb d_Md_isCloser_38 (lv_at hl 5 rfl) ?_
      refine lv_iadd hx hb d_Md_isCloser_40 ?_
      obtain ⟨h4, hf⟩ := op_if hf
      refine ma_13 C h rfl h4 d_Md_isCloser_41 ?_
      refine lv_istore (lv' := [(6, .int (R 13 ((64 * v3) + v5).toNatClampNeg)), (0, .ref (ad 0)), (1, .int v1), (2, .int v2), (3, .int v3), (4, .int v4), (5, .int v5)]) hx hb d_Md_isCloser_42 hl (by decide) rfl (fun ls hl => ?_)
      refine lv_iload hx hb d_Md_isCloser_44 (lv_at hl 0 rfl) ?_
      refine lv_iconst (v := (-1)) hx hb d_Md_isCloser_46 (by decide) ?_
      obtain ⟨x6, he, hf⟩ := op_bind hf
      have K5 : ∀ (ls : Array Slot), lv_has ls 8 [(0, .ref (ad 0)), (1, .int v1), (2, .int v2), (3, .int v3), (4, .int x6), (5, .int v5)] → ∀ (H : Heap) (locs : List Loc), mH A s.heap dC dI ad cI cZ I R H locs → W p l e (rL 6) s m args below meth c H locs 0 0 Q (F0 m 97 ls []) := by
        intro ls hl H locs h
        refine lv_iinc (v := (v5 + 1)) (lv' := [(5, .int (v5 + 1)), (0, .ref (ad 0)), (1, .int v1), (2, .int v2), (3, .int v3), (4, .int x6)]) hx hb d_Md_isCloser_97 hl (k := 5) rfl rfl (by decide) rfl (fun ls hl => ?_)
        refine lv_goto (tgt := 21) hx hb d_Md_isCloser_100 (by decide) ?_
        exact ih x6 (v5 + 1) _ hf K ls (lv_sub hl [1, 2, 3, 4, 5, 0] rfl) H locs h
      have hf := he
      refine lv_icmp_eq (tgt := 97) hx hb d_Md_isCloser_47 (by decide) (fun hc => ?_) (fun hc => ?_)
      · have hf := op_t hc hf
        obtain rfl := op_i1 hf
        exact K5 ls (lv_sub hl [1, 2, 3, 4, 5, 6] rfl) H locs h
      · have hf := op_f hc hf
        refine lv_iload hx hb d_Md_isCloser_50 (lv_at hl 6 rfl) ?_
        refine lv_iload_n hx hb d_Md_isCloser_52 rfl (lv_at hl 3 rfl) ?_
        refine lv_iload_n hx hb d_Md_isCloser_53 rfl (lv_at hl 4 rfl) ?_
        obtain ⟨x8, hc7, hf⟩ := op_bind hf
        refine ks_i (rest := []) hx hb hml hown hT (c_Md_areHere l n v5 v2 v3 _ hc7) (cbW 3 hT cd_Md_areHere rfl rfl ini_Md ml_Md_173 hd_Md_areHere ⟨Nat.le_of_ble_eq_true rfl, Nat.le_of_ble_eq_true rfl⟩) sm_Md_areHere rfl hl.1 rfl (Nat.le_of_ble_eq_true rfl) d_Md_isCloser_54 ⟨Nat.zero_le _, Nat.zero_le _⟩ ?_
        refine lv_if_eq (tgt := 97) hx hb d_Md_isCloser_57 (by decide) (fun hc => ?_) (fun hc => ?_)
        · have hf := op_t hc hf
          obtain rfl := op_i1 hf
          exact K5 ls (lv_sub hl [1, 2, 3, 4, 5, 6] rfl) H locs h
        · have hf := op_f hc hf
          refine lv_iload hx hb d_Md_isCloser_60 (lv_at hl 0 rfl) ?_
          refine lv_aload_n hx hb d_Md_isCloser_62 rfl (lv_at hl 1 rfl) ?_
          refine mg_16 C h d_Md_isCloser_63 ?_
          refine lv_iload_n hx hb d_Md_isCloser_66 rfl (lv_at hl 3 rfl) ?_
          refine lv_iload hx hb d_Md_isCloser_67 (lv_at hl 6 rfl) ?_
          refine lv_ixor hx hb d_Md_isCloser_69 ?_
          refine lv_bipush (v := 64) hx hb d_Md_isCloser_70 (by decide) ?_
          refine lv_iconst (v := 1) hx hb d_Md_isCloser_72 (by decide) ?_
          refine lv_iload_n hx hb d_Md_isCloser_73 rfl (lv_at hl 4 rfl) ?_
          refine lv_isub hx hb d_Md_isCloser_74 ?_
          refine lv_imul hx hb d_Md_isCloser_75 ?_
          refine lv_iadd hx hb d_Md_isCloser_76 ?_
          obtain ⟨h9, hf⟩ := op_if hf
          refine ma_16 C h rfl h9 d_Md_isCloser_77 ?_
          refine lv_iadd hx hb d_Md_isCloser_78 ?_
          refine lv_istore (lv' := [(7, .int ((R 13 ((64 * v3) + v5).toNatClampNeg) + (R 16 (((v2 ^^^ v5) + (64 * (1 - v3)))).toNatClampNeg))), (6, .int (R 13 ((64 * v3) + v5).toNatClampNeg)), (0, .ref (ad 0)), (1, .int v1), (2, .int v2), (3, .int v3), (4, .int v4), (5, .int v5)]) hx hb d_Md_isCloser_79 hl (by decide) rfl (fun ls hl => ?_)
          refine lv_iload hx hb d_Md_isCloser_81 (lv_at hl 0 rfl) ?_
          refine lv_iload hx hb d_Md_isCloser_83 (lv_at hl 6 rfl) ?_
          obtain ⟨x11, he, hf⟩ := op_bind hf
          have K10 : ∀ (ls : Array Slot), lv_has ls 8 [(0, .ref (ad 0)), (1, .int v1), (2, .int v2), (3, .int v3), (5, .int v5)] → ∀ (H : Heap) (locs : List Loc), mH A s.heap dC dI ad cI cZ I R H locs → W p l e (rL 6) s m args below meth c H locs 0 0 Q (F0 m 95 ls [.int x11]) := by
            intro ls hl H locs h
            refine lv_istore (lv' := [(4, .int x11), (0, .ref (ad 0)), (1, .int v1), (2, .int v2), (3, .int v3), (5, .int v5)]) hx hb d_Md_isCloser_95 hl (by decide) rfl (fun ls hl => ?_)
            obtain rfl := op_i1 hf
            exact K5 ls (lv_sub hl [1, 2, 3, 4, 0, 5] rfl) H locs h
          have hf := he
          refine lv_icmp_ge (tgt := 93) hx hb d_Md_isCloser_85 (by decide) (fun hc => ?_) (fun hc => ?_)
          · have hf := op_t hc hf
            refine lv_iload hx hb d_Md_isCloser_93 (lv_at hl 6 rfl) ?_
            obtain rfl := op_i1 hf
            exact K10 ls (lv_sub hl [2, 3, 4, 5, 7] rfl) H locs h
          · have hf := op_f hc hf
            refine lv_iload hx hb d_Md_isCloser_88 (lv_at hl 0 rfl) ?_
            refine lv_goto (tgt := 95) hx hb d_Md_isCloser_90 (by decide) ?_
            obtain rfl := op_i1 hf
            exact K10 ls (lv_sub hl [2, 3, 4, 5, 7] rfl) H locs h
def p_Md_isCloser (n : Nat) (v1 : Int32) (I : Nat → Int32) (R : Nat → Nat → Int32) : Option (Int32 × MU) := if ix v1 128 then (l_Md_isCloser_21 n v1 (v1 - v1 / 64 * 64) (v1 / 64) I R n (R 16 v1.toNatClampNeg) 1).bind fun y12 => if ix v1 128 then (if (R 16 v1.toNatClampNeg) ≤ y12 then some 0 else some 1 : Option (Int32)).bind fun x15 => if ix v1 128 then if isZ x15 then some (x15, I, (upR R 16 v1.toNatClampNeg y12)) else none else none else none else none
set_option maxHeartbeats 4000000 in
theorem c_Md_isCloser (l : Launch) (n : Nat) (v1 : Int32) (I : Nat → Int32) (R : Nat → Nat → Int32)  : MMi l y_Md_isCloser b_Md_isCloser 8 .boolean (rL 6) (fun ad adK => [.int v1]) I R (p_Md_isCloser n v1 I R) := by
  refine en_mi (by decide) rfl (fun _ _ => Nat.le_of_ble_eq_true rfl) ?_
  intro z hf p e s m args below meth c dC dI ad cI cZ A adK adV ls C hA h hr hlk hl
  have hl : lv_has ls 8 [(0, .ref (ad 0)), (1, .int v1)] := hl
  unfold p_Md_isCloser at hf
  obtain ⟨hx, hb, hml, hown, hT, -⟩ := id C
  refine lv_iload_n hx hb d_Md_isCloser_0 rfl (lv_at hl 1 rfl) ?_
  refine lv_bipush (v := 64) hx hb d_Md_isCloser_1 (by decide) ?_
  refine lv_irem hx hb d_Md_isCloser_3 (by decide) ?_
  refine lv_istore_n (lv' := [(2, .int (v1 - v1 / 64 * 64)), (0, .ref (ad 0)), (1, .int v1)]) hx hb d_Md_isCloser_4 rfl hl (by decide) rfl (fun ls hl => ?_)
  refine lv_iload_n hx hb d_Md_isCloser_5 rfl (lv_at hl 2 rfl) ?_
  refine lv_bipush (v := 64) hx hb d_Md_isCloser_6 (by decide) ?_
  refine lv_idiv hx hb d_Md_isCloser_8 (by decide) ?_
  refine lv_istore_n (lv' := [(3, .int (v1 / 64)), (2, .int (v1 - v1 / 64 * 64)), (0, .ref (ad 0)), (1, .int v1)]) hx hb d_Md_isCloser_9 rfl hl (by decide) rfl (fun ls hl => ?_)
  refine lv_aload_n hx hb d_Md_isCloser_10 rfl (lv_at hl 2 rfl) ?_
  refine mg_16 C h d_Md_isCloser_11 ?_
  refine lv_iload_n hx hb d_Md_isCloser_14 rfl (lv_at hl 3 rfl) ?_
  obtain ⟨h1, hf⟩ := op_if hf
  refine ma_16 C h rfl h1 d_Md_isCloser_15 ?_
  refine lv_istore (lv' := [(4, .int (R 16 v1.toNatClampNeg)), (3, .int (v1 / 64)), (2, .int (v1 - v1 / 64 * 64)), (0, .ref (ad 0)), (1, .int v1)]) hx hb d_Md_isCloser_16 hl (by decide) rfl (fun ls hl => ?_)
  refine lv_iconst (v := 1) hx hb d_Md_isCloser_18 (by decide) ?_
  refine lv_istore (lv' := [(5, .int 1), (4, .int (R 16 v1.toNatClampNeg)), (3, .int (v1 / 64)), (2, .int (v1 - v1 / 64 * 64)), (0, .ref (ad 0)), (1, .int v1)]) hx hb d_Md_isCloser_19 hl (by decide) rfl (fun ls hl => ?_)
  obtain ⟨y12, he, hf⟩ := op_bind hf
  refine wl_Md_isCloser_21 C hA hr hlk n v1 (v1 - v1 / 64 * 64) (v1 / 64) I R n (R 16 v1.toNatClampNeg) 1 _ he (fun ls hl H locs h => ?_) ls (lv_sub hl [4, 5, 3, 2, 1, 0] rfl) s.heap [] h
  refine lv_iload hx hb d_Md_isCloser_103 (lv_at hl 2 rfl) ?_
  refine lv_aload_n hx hb d_Md_isCloser_105 rfl (lv_at hl 0 rfl) ?_
  refine mg_16 C h d_Md_isCloser_106 ?_
  refine lv_iload_n hx hb d_Md_isCloser_109 rfl (lv_at hl 1 rfl) ?_
  obtain ⟨h13, hf⟩ := op_if hf
  refine ma_16 C h rfl h13 d_Md_isCloser_110 ?_
  obtain ⟨x15, he, hf⟩ := op_bind hf
  have K14 : ∀ (ls : Array Slot), lv_has ls 8 [(0, .ref (ad 0)), (1, .int v1), (4, .int y12)] → ∀ (H : Heap) (locs : List Loc), mH A s.heap dC dI ad cI cZ I R H locs → W p l e (rL 6) s m args below meth c H locs 0 0 (mQi dC dI ad cI cZ A below args s z) (F0 m 119 ls [.int x15]) := by
    intro ls hl H locs h
    refine lv_istore (lv' := [(5, .int x15), (0, .ref (ad 0)), (1, .int v1), (4, .int y12)]) hx hb d_Md_isCloser_119 hl (by decide) rfl (fun ls hl => ?_)
    refine lv_aload_n hx hb d_Md_isCloser_121 rfl (lv_at hl 1 rfl) ?_
    refine mg_16 C h d_Md_isCloser_122 ?_
    refine lv_iload_n hx hb d_Md_isCloser_125 rfl (lv_at hl 2 rfl) ?_
    refine lv_iload hx hb d_Md_isCloser_126 (lv_at hl 3 rfl) ?_
    obtain ⟨h16, hf⟩ := op_if hf
    refine ms_16 C h rfl h16 d_Md_isCloser_128 (fun H locs h => ?_)
    refine lv_iload hx hb d_Md_isCloser_129 (lv_at hl 0 rfl) ?_
    obtain ⟨h17, hf⟩ := op_if hf
    exact rt_mi C h hr hlk hf (isZ_nar h17) d_Md_isCloser_131
  have hf := he
  refine lv_icmp_ge (tgt := 118) hx hb d_Md_isCloser_111 (by decide) (fun hc => ?_) (fun hc => ?_)
  · have hf := op_t hc hf
    refine lv_iconst (v := 0) hx hb d_Md_isCloser_118 (by decide) ?_
    obtain rfl := op_i1 hf
    exact K14 ls (lv_sub hl [0, 1, 2] rfl) H locs h
  · have hf := op_f hc hf
    refine lv_iconst (v := 1) hx hb d_Md_isCloser_114 (by decide) ?_
    refine lv_goto (tgt := 119) hx hb d_Md_isCloser_115 (by decide) ?_
    obtain rfl := op_i1 hf
    exact K14 ls (lv_sub hl [0, 1, 2] rfl) H locs h
theorem hd_Md_endOf : y_Md_endOf.cls ≠ "java/lang/invoke/MethodHandle" ∧ y_Md_endOf.cls ≠ "java/lang/invoke/VarHandle" ∧ (parseMethodDescriptor y_Md_endOf.desc).map (fun d => d.parameters.length) = some 2 := by decide +kernel
theorem d_Md_endOf_0 : decode b_Md_endOf 0 = .ok (.iconst (-1), 1) := by decide +kernel
theorem d_Md_endOf_1 : decode b_Md_endOf 1 = .ok (.istore_n 3, 1) := by decide +kernel
theorem d_Md_endOf_2 : decode b_Md_endOf 2 = .ok (.iconst 0, 1) := by decide +kernel
theorem d_Md_endOf_3 : decode b_Md_endOf 3 = .ok (.istore 4, 2) := by decide +kernel
theorem d_Md_endOf_5 : decode b_Md_endOf 5 = .ok (.iload 4, 2) := by decide +kernel
theorem d_Md_endOf_7 : decode b_Md_endOf 7 = .ok (.aload_n 0, 1) := by decide +kernel
theorem d_Md_endOf_8 : decode b_Md_endOf 8 = .ok (.getfield 9, 3) := by decide +kernel
theorem d_Md_endOf_11 : decode b_Md_endOf 11 = .ok (.iconst 0, 1) := by decide +kernel
theorem d_Md_endOf_12 : decode b_Md_endOf 12 = .ok (.iaload, 1) := by decide +kernel
theorem d_Md_endOf_13 : decode b_Md_endOf 13 = .ok (.if_icmp .ge 38, 3) := by decide +kernel
theorem d_Md_endOf_16 : decode b_Md_endOf 16 = .ok (.iload_n 1, 1) := by decide +kernel
theorem d_Md_endOf_17 : decode b_Md_endOf 17 = .ok (.iload 4, 2) := by decide +kernel
theorem d_Md_endOf_19 : decode b_Md_endOf 19 = .ok (.ishr, 1) := by decide +kernel
theorem d_Md_endOf_20 : decode b_Md_endOf 20 = .ok (.iconst 1, 1) := by decide +kernel
theorem d_Md_endOf_21 : decode b_Md_endOf 21 = .ok (.iand, 1) := by decide +kernel
theorem d_Md_endOf_22 : decode b_Md_endOf 22 = .ok (.iconst 1, 1) := by decide +kernel
theorem d_Md_endOf_23 : decode b_Md_endOf 23 = .ok (.if_icmp .ne 22, 3) := by decide +kernel
theorem d_Md_endOf_26 : decode b_Md_endOf 26 = .ok (.iload_n 3, 1) := by decide +kernel
theorem d_Md_endOf_27 : decode b_Md_endOf 27 = .ok (.iconst (-1), 1) := by decide +kernel
theorem d_Md_endOf_28 : decode b_Md_endOf 28 = .ok (.if_icmp .eq 14, 3) := by decide +kernel
theorem d_Md_endOf_31 : decode b_Md_endOf 31 = .ok (.aload_n 0, 1) := by decide +kernel
theorem d_Md_endOf_32 : decode b_Md_endOf 32 = .ok (.iload 4, 2) := by decide +kernel
theorem d_Md_endOf_34 : decode b_Md_endOf 34 = .ok (.iload_n 3, 1) := by decide +kernel
theorem d_Md_endOf_35 : decode b_Md_endOf 35 = .ok (.invokevirtual 205, 3) := by decide +kernel
theorem d_Md_endOf_38 : decode b_Md_endOf 38 = .ok (.iload_n 2, 1) := by decide +kernel
theorem d_Md_endOf_39 : decode b_Md_endOf 39 = .ok (.if_icmp .ne 6, 3) := by decide +kernel
theorem d_Md_endOf_42 : decode b_Md_endOf 42 = .ok (.iload 4, 2) := by decide +kernel
theorem d_Md_endOf_44 : decode b_Md_endOf 44 = .ok (.istore_n 3, 1) := by decide +kernel
theorem d_Md_endOf_45 : decode b_Md_endOf 45 = .ok (.iinc 4 1, 3) := by decide +kernel
theorem d_Md_endOf_48 : decode b_Md_endOf 48 = .ok (.goto (-43), 3) := by decide +kernel
theorem d_Md_endOf_51 : decode b_Md_endOf 51 = .ok (.iload_n 3, 1) := by decide +kernel
theorem d_Md_endOf_52 : decode b_Md_endOf 52 = .ok (.iconst (-1), 1) := by decide +kernel
theorem d_Md_endOf_53 : decode b_Md_endOf 53 = .ok (.if_icmp .ne 7, 3) := by decide +kernel
theorem d_Md_endOf_56 : decode b_Md_endOf 56 = .ok (.iconst 0, 1) := by decide +kernel
theorem d_Md_endOf_57 : decode b_Md_endOf 57 = .ok (.goto 6, 3) := by decide +kernel
theorem d_Md_endOf_60 : decode b_Md_endOf 60 = .ok (.iconst 1, 1) := by decide +kernel
theorem d_Md_endOf_61 : decode b_Md_endOf 61 = .ok (.iload_n 3, 1) := by decide +kernel
theorem d_Md_endOf_62 : decode b_Md_endOf 62 = .ok (.ishl, 1) := by decide +kernel
theorem d_Md_endOf_63 : decode b_Md_endOf 63 = .ok (.ireturn, 1) := by decide +kernel
def l_Md_endOf_5 (n : Nat)  (v1 : Int32) (v2 : Int32) (I : Nat → Int32) (R : Nat → Nat → Int32) : Nat → Int32 → Int32 → Option (Int32)
  | 0, _, _ => none
  | k + 1, v3, v4 => (if (R 1 0) ≤ v4 then some v3 else (if ((v1 >>> (v4 &&& 31)) &&& 1) = 1 then (if v3 = (-1) then some v4 else (p_Md_isAhead n v4 v3 I R).bind fun x4 => (if x4 = v2 then some v4 else some v3)) else some v3 : Option (Int32)).bind fun x2 => l_Md_endOf_5 n v1 v2 I R k x2 (v4 + 1))
set_option maxHeartbeats 4000000 in
theorem wl_Md_endOf_5 {Q : State → Prop}  {p : Program} {l : Launch} {e : Env} {s : State} {m : MethodId} {args : Array Value} {below : List Frame} {meth : Method} {c : Code} {dC : Nat → ClassId} {dI : Nat → Nat → Nat} {ad : Nat → Nat} {cI cZ : ClassId} {A : Nat → Prop} {adK adV : Nat → Nat} (C : mC p s m args c b_Md_endOf 5 dC dI cI cZ A adK adV) (hA : ∀ q, s.heap.size ≤ q → A q) (hr : meth.sig.returnType = some .int) (hlk : meth.locks = false) (n : Nat)  (v1 : Int32) (v2 : Int32) (I : Nat → Int32) (R : Nat → Nat → Int32) : ∀ (k : Nat) (v3 : Int32) (v4 : Int32) (r0 : Int32), l_Md_endOf_5 n v1 v2 I R k v3 v4 = some r0 → (∀ (ls : Array Slot), lv_has ls 5 [(3, .int r0)] → ∀ (H : Heap) (locs : List Loc), mH A s.heap dC dI ad cI cZ I R H locs → W p l e (rL 6) s m args below meth c H locs 0 0 Q (F0 m 51 ls [])) → ∀ (ls : Array Slot), lv_has ls 5 [(0, .ref (ad 0)), (1, .int v1), (2, .int v2), (3, .int v3), (4, .int v4)] → ∀ (H : Heap) (locs : List Loc), mH A s.heap dC dI ad cI cZ I R H locs → W p l e (rL 6) s m args below meth c H locs 0 0 Q (F0 m 5 ls []) := by
  obtain ⟨hx, hb, hml, hown, hT, -⟩ := id C
  intro k
  induction k with
  | zero => intro v3 v4 r0 hf; exact absurd hf (by unfold l_Md_endOf_5; exact fun h9 => by cases h9)
  | succ k ih =>
    intro v3 v4 r0 hf K ls hl H locs h
    unfold l_Md_endOf_5 at hf
    refine lv_iload hx hb d_Md_endOf_5 (lv_at hl 4 rfl) ?_
    refine lv_aload_n hx hb d_Md_endOf_7 rfl (lv_at hl 0 rfl) ?_
    refine mg_1 C h d_Md_endOf_8 ?_
    refine lv_iconst (v := 0) hx hb d_Md_endOf_11 (by decide) ?_
    refine ma_1 C h (j := 0) (by decide) (show ix 0 890 by decide) d_Md_endOf_12 ?_
    refine lv_icmp_ge (tgt := 51) hx hb d_Md_endOf_13 (by decide) (fun hc => ?_) (fun hc => ?_)
    · have hf := op_t hc hf
      obtain rfl := op_i1 hf
      exact K ls (lv_sub hl [3] rfl) H locs h
    · have hf := op_f hc hf
      refine lv_iload_n hx hb d_Md_endOf_16 rfl (lv_at hl 1 rfl) ?_
      refine lv_iload hx hb d_Md_endOf_17 (lv_at hl 4 rfl) ?_
      refine lv_ishr hx hb d_Md_endOf_19 ?_
      refine lv_iconst (v := 1) hx hb d_Md_endOf_20 (by decide) ?_
      refine lv_iand hx hb d_Md_endOf_21 ?_
      refine lv_iconst (v := 1) hx hb d_Md_endOf_22 (by decide) ?_
      obtain ⟨x2, he, hf⟩ := op_bind hf
      have K1 : ∀ (ls : Array Slot), lv_has ls 5 [(0, .ref (ad 0)), (1, .int v1), (2, .int v2), (3, .int x2), (4, .int v4)] → ∀ (H : Heap) (locs : List Loc), mH A s.heap dC dI ad cI cZ I R H locs → W p l e (rL 6) s m args below meth c H locs 0 0 Q (F0 m 45 ls []) := by
        intro ls hl H locs h
        refine lv_iinc (v := (v4 + 1)) (lv' := [(4, .int (v4 + 1)), (0, .ref (ad 0)), (1, .int v1), (2, .int v2), (3, .int x2)]) hx hb d_Md_endOf_45 hl (k := 4) rfl rfl (by decide) rfl (fun ls hl => ?_)
        refine lv_goto (tgt := 5) hx hb d_Md_endOf_48 (by decide) ?_
        exact ih x2 (v4 + 1) _ hf K ls (lv_sub hl [1, 2, 3, 4, 0] rfl) H locs h
      have hf := he
      refine lv_icmp_ne (tgt := 45) hx hb d_Md_endOf_23 (by decide) (fun hc => ?_) (fun hc => ?_)
      · have hf := op_f hc hf
        obtain rfl := op_i1 hf
        exact K1 ls (lv_sub hl [0, 1, 2, 3, 4] rfl) H locs h
      · have hf := op_t hc hf
        refine lv_iload_n hx hb d_Md_endOf_26 rfl (lv_at hl 3 rfl) ?_
        refine lv_iconst (v := (-1)) hx hb d_Md_endOf_27 (by decide) ?_
        refine lv_icmp_eq (tgt := 42) hx hb d_Md_endOf_28 (by decide) (fun hc => ?_) (fun hc => ?_)
        · have hf := op_t hc hf
          refine lv_iload hx hb d_Md_endOf_42 (lv_at hl 4 rfl) ?_
          refine lv_istore_n (lv' := [(3, .int v4), (0, .ref (ad 0)), (1, .int v1), (2, .int v2), (4, .int v4)]) hx hb d_Md_endOf_44 rfl hl (by decide) rfl (fun ls hl => ?_)
          obtain rfl := op_i1 hf
          exact K1 ls (lv_sub hl [1, 2, 3, 0, 4] rfl) H locs h
        · have hf := op_f hc hf
          refine lv_aload_n hx hb d_Md_endOf_31 rfl (lv_at hl 0 rfl) ?_
          refine lv_iload hx hb d_Md_endOf_32 (lv_at hl 4 rfl) ?_
          refine lv_iload_n hx hb d_Md_endOf_34 rfl (lv_at hl 3 rfl) ?_
          obtain ⟨x4, hc3, hf⟩ := op_bind hf
          refine kc_r (rest := []) C h hA (c_Md_isAhead l n v4 v3 I R) hc3 (cbW 2 hT cd_Md_isAhead rfl rfl ini_Md ml_Md_205 hd_Md_isAhead ⟨Nat.le_of_ble_eq_true rfl, Nat.le_of_ble_eq_true rfl⟩) im_Md_isAhead sp_Md_isAhead rfl hl.1 rfl (Nat.le_of_ble_eq_true rfl) d_Md_endOf_35 ⟨Nat.zero_le _, Nat.zero_le _⟩ (fun H locs h => ?_)
          refine lv_iload_n hx hb d_Md_endOf_38 rfl (lv_at hl 2 rfl) ?_
          refine lv_icmp_ne (tgt := 45) hx hb d_Md_endOf_39 (by decide) (fun hc => ?_) (fun hc => ?_)
          · have hf := op_f hc hf
            obtain rfl := op_i1 hf
            exact K1 ls (lv_sub hl [0, 1, 2, 3, 4] rfl) H locs h
          · have hf := op_t hc hf
            refine lv_iload hx hb d_Md_endOf_42 (lv_at hl 4 rfl) ?_
            refine lv_istore_n (lv' := [(3, .int v4), (0, .ref (ad 0)), (1, .int v1), (2, .int v2), (4, .int v4)]) hx hb d_Md_endOf_44 rfl hl (by decide) rfl (fun ls hl => ?_)
            obtain rfl := op_i1 hf
            exact K1 ls (lv_sub hl [1, 2, 3, 0, 4] rfl) H locs h
def p_Md_endOf (n : Nat) (v1 : Int32) (v2 : Int32) (I : Nat → Int32) (R : Nat → Nat → Int32) : Option (Int32) := (l_Md_endOf_5 n v1 v2 I R n (-1) 0).bind fun y5 => (if y5 = (-1) then some 0 else some (1 <<< (y5 &&& 31)) : Option (Int32)).bind fun x7 => some x7
set_option maxHeartbeats 4000000 in
theorem c_Md_endOf (l : Launch) (n : Nat) (v1 : Int32) (v2 : Int32) (I : Nat → Int32) (R : Nat → Nat → Int32)  : MMi l y_Md_endOf b_Md_endOf 5 .int (rL 6) (fun ad adK => [.int v1, .int v2]) I R ((p_Md_endOf n v1 v2 I R).map fun r => (r, I, R)) := by
  refine en_mi (by decide) rfl (fun _ _ => Nat.le_of_ble_eq_true rfl) ?_
  intro z hz p e s m args below meth c dC dI ad cI cZ A adK adV ls C hA h hr hlk hl
  have hl : lv_has ls 5 [(0, .ref (ad 0)), (1, .int v1), (2, .int v2)] := hl
  obtain ⟨z, hf, rfl⟩ := op_map hz
  unfold p_Md_endOf at hf
  obtain ⟨hx, hb, hml, hown, hT, -⟩ := id C
  refine lv_iconst (v := (-1)) hx hb d_Md_endOf_0 (by decide) ?_
  refine lv_istore_n (lv' := [(3, .int (-1)), (0, .ref (ad 0)), (1, .int v1), (2, .int v2)]) hx hb d_Md_endOf_1 rfl hl (by decide) rfl (fun ls hl => ?_)
  refine lv_iconst (v := 0) hx hb d_Md_endOf_2 (by decide) ?_
  refine lv_istore (lv' := [(4, .int 0), (3, .int (-1)), (0, .ref (ad 0)), (1, .int v1), (2, .int v2)]) hx hb d_Md_endOf_3 hl (by decide) rfl (fun ls hl => ?_)
  obtain ⟨y5, he, hf⟩ := op_bind hf
  refine wl_Md_endOf_5 C hA hr hlk n v1 v2 I R n (-1) 0 _ he (fun ls hl H locs h => ?_) ls (lv_sub hl [2, 3, 4, 1, 0] rfl) s.heap [] h
  refine lv_iload_n hx hb d_Md_endOf_51 rfl (lv_at hl 0 rfl) ?_
  refine lv_iconst (v := (-1)) hx hb d_Md_endOf_52 (by decide) ?_
  obtain ⟨x7, he, hf⟩ := op_bind hf
  have K6 : ∀ (ls : Array Slot), lv_has ls 5 [] → ∀ (H : Heap) (locs : List Loc), mH A s.heap dC dI ad cI cZ I R H locs → W p l e (rL 6) s m args below meth c H locs 0 0 (mQi dC dI ad cI cZ A below args s (z, I, R)) (F0 m 63 ls [.int x7]) := by
    intro ls hl H locs h
    exact rt_mr C h hr hlk hf rfl d_Md_endOf_63
  have hf := he
  refine lv_icmp_ne (tgt := 60) hx hb d_Md_endOf_53 (by decide) (fun hc => ?_) (fun hc => ?_)
  · have hf := op_f hc hf
    refine lv_iconst (v := 1) hx hb d_Md_endOf_60 (by decide) ?_
    refine lv_iload_n hx hb d_Md_endOf_61 rfl (lv_at hl 0 rfl) ?_
    refine lv_ishl hx hb d_Md_endOf_62 ?_
    obtain rfl := op_i1 hf
    exact K6 ls (lv_sub hl [] rfl) H locs h
  · have hf := op_t hc hf
    refine lv_iconst (v := 0) hx hb d_Md_endOf_56 (by decide) ?_
    refine lv_goto (tgt := 63) hx hb d_Md_endOf_57 (by decide) ?_
    obtain rfl := op_i1 hf
    exact K6 ls (lv_sub hl [] rfl) H locs h
theorem hd_Md_makersOf : y_Md_makersOf.cls ≠ "java/lang/invoke/MethodHandle" ∧ y_Md_makersOf.cls ≠ "java/lang/invoke/VarHandle" ∧ (parseMethodDescriptor y_Md_makersOf.desc).map (fun d => d.parameters.length) = some 1 := by decide +kernel
theorem d_Md_makersOf_0 : decode b_Md_makersOf 0 = .ok (.iconst 0, 1) := by decide +kernel
theorem d_Md_makersOf_1 : decode b_Md_makersOf 1 = .ok (.istore_n 2, 1) := by decide +kernel
theorem d_Md_makersOf_2 : decode b_Md_makersOf 2 = .ok (.iconst 0, 1) := by decide +kernel
theorem d_Md_makersOf_3 : decode b_Md_makersOf 3 = .ok (.istore_n 3, 1) := by decide +kernel
theorem d_Md_makersOf_4 : decode b_Md_makersOf 4 = .ok (.iload_n 3, 1) := by decide +kernel
theorem d_Md_makersOf_5 : decode b_Md_makersOf 5 = .ok (.bipush 6, 2) := by decide +kernel
theorem d_Md_makersOf_7 : decode b_Md_makersOf 7 = .ok (.if_icmp .ge 53, 3) := by decide +kernel
theorem d_Md_makersOf_10 : decode b_Md_makersOf 10 = .ok (.iload_n 2, 1) := by decide +kernel
theorem d_Md_makersOf_11 : decode b_Md_makersOf 11 = .ok (.aload_n 0, 1) := by decide +kernel
theorem d_Md_makersOf_12 : decode b_Md_makersOf 12 = .ok (.getfield 9, 3) := by decide +kernel
theorem d_Md_makersOf_15 : decode b_Md_makersOf 15 = .ok (.bipush 34, 2) := by decide +kernel
theorem d_Md_makersOf_17 : decode b_Md_makersOf 17 = .ok (.iload_n 1, 1) := by decide +kernel
theorem d_Md_makersOf_18 : decode b_Md_makersOf 18 = .ok (.iadd, 1) := by decide +kernel
theorem d_Md_makersOf_19 : decode b_Md_makersOf 19 = .ok (.iaload, 1) := by decide +kernel
theorem d_Md_makersOf_20 : decode b_Md_makersOf 20 = .ok (.iload_n 3, 1) := by decide +kernel
theorem d_Md_makersOf_21 : decode b_Md_makersOf 21 = .ok (.ishr, 1) := by decide +kernel
theorem d_Md_makersOf_22 : decode b_Md_makersOf 22 = .ok (.iconst 1, 1) := by decide +kernel
theorem d_Md_makersOf_23 : decode b_Md_makersOf 23 = .ok (.iand, 1) := by decide +kernel
theorem d_Md_makersOf_24 : decode b_Md_makersOf 24 = .ok (.iconst 1, 1) := by decide +kernel
theorem d_Md_makersOf_25 : decode b_Md_makersOf 25 = .ok (.if_icmp .ne 26, 3) := by decide +kernel
theorem d_Md_makersOf_28 : decode b_Md_makersOf 28 = .ok (.aload_n 0, 1) := by decide +kernel
theorem d_Md_makersOf_29 : decode b_Md_makersOf 29 = .ok (.iload_n 3, 1) := by decide +kernel
theorem d_Md_makersOf_30 : decode b_Md_makersOf 30 = .ok (.invokevirtual 230, 3) := by decide +kernel
theorem d_Md_makersOf_33 : decode b_Md_makersOf 33 = .ok (.aload_n 0, 1) := by decide +kernel
theorem d_Md_makersOf_34 : decode b_Md_makersOf 34 = .ok (.getfield 9, 3) := by decide +kernel
theorem d_Md_makersOf_37 : decode b_Md_makersOf 37 = .ok (.bipush 46, 2) := by decide +kernel
theorem d_Md_makersOf_39 : decode b_Md_makersOf 39 = .ok (.iload_n 1, 1) := by decide +kernel
theorem d_Md_makersOf_40 : decode b_Md_makersOf 40 = .ok (.iadd, 1) := by decide +kernel
theorem d_Md_makersOf_41 : decode b_Md_makersOf 41 = .ok (.iaload, 1) := by decide +kernel
theorem d_Md_makersOf_42 : decode b_Md_makersOf 42 = .ok (.if_icmp .ne 9, 3) := by decide +kernel
theorem d_Md_makersOf_45 : decode b_Md_makersOf 45 = .ok (.iconst 1, 1) := by decide +kernel
theorem d_Md_makersOf_46 : decode b_Md_makersOf 46 = .ok (.iload_n 3, 1) := by decide +kernel
theorem d_Md_makersOf_47 : decode b_Md_makersOf 47 = .ok (.ishl, 1) := by decide +kernel
theorem d_Md_makersOf_48 : decode b_Md_makersOf 48 = .ok (.goto 4, 3) := by decide +kernel
theorem d_Md_makersOf_51 : decode b_Md_makersOf 51 = .ok (.iconst 0, 1) := by decide +kernel
theorem d_Md_makersOf_52 : decode b_Md_makersOf 52 = .ok (.ior, 1) := by decide +kernel
theorem d_Md_makersOf_53 : decode b_Md_makersOf 53 = .ok (.istore_n 2, 1) := by decide +kernel
theorem d_Md_makersOf_54 : decode b_Md_makersOf 54 = .ok (.iinc 3 1, 3) := by decide +kernel
theorem d_Md_makersOf_57 : decode b_Md_makersOf 57 = .ok (.goto (-53), 3) := by decide +kernel
theorem d_Md_makersOf_60 : decode b_Md_makersOf 60 = .ok (.iload_n 2, 1) := by decide +kernel
theorem d_Md_makersOf_61 : decode b_Md_makersOf 61 = .ok (.ireturn, 1) := by decide +kernel
def l_Md_makersOf_4 (n : Nat)  (v1 : Int32) (I : Nat → Int32) (R : Nat → Nat → Int32) : Nat → Int32 → Int32 → Option (Int32)
  | 0, _, _ => none
  | k + 1, v2, v3 => (if 6 ≤ v3 then some v2 else if ix (34 + v1) 890 then (if (((R 1 (34 + v1).toNatClampNeg) >>> (v3 &&& 31)) &&& 1) = 1 then (p_Md_mostOf n v3 I R).bind fun x5 => if ix (46 + v1) 890 then (if x5 = (R 1 (46 + v1).toNatClampNeg) then some (1 <<< (v3 &&& 31)) else some 0) else none else some 0 : Option (Int32)).bind fun x3 => l_Md_makersOf_4 n v1 I R k (v2 ||| x3) (v3 + 1) else none)
set_option maxHeartbeats 4000000 in
theorem wl_Md_makersOf_4 {Q : State → Prop}  {p : Program} {l : Launch} {e : Env} {s : State} {m : MethodId} {args : Array Value} {below : List Frame} {meth : Method} {c : Code} {dC : Nat → ClassId} {dI : Nat → Nat → Nat} {ad : Nat → Nat} {cI cZ : ClassId} {A : Nat → Prop} {adK adV : Nat → Nat} (C : mC p s m args c b_Md_makersOf 4 dC dI cI cZ A adK adV) (hA : ∀ q, s.heap.size ≤ q → A q) (hr : meth.sig.returnType = some .int) (hlk : meth.locks = false) (n : Nat)  (v1 : Int32) (I : Nat → Int32) (R : Nat → Nat → Int32) : ∀ (k : Nat) (v2 : Int32) (v3 : Int32) (r0 : Int32), l_Md_makersOf_4 n v1 I R k v2 v3 = some r0 → (∀ (ls : Array Slot), lv_has ls 4 [(2, .int r0)] → ∀ (H : Heap) (locs : List Loc), mH A s.heap dC dI ad cI cZ I R H locs → W p l e (rL 6) s m args below meth c H locs 0 0 Q (F0 m 60 ls [])) → ∀ (ls : Array Slot), lv_has ls 4 [(0, .ref (ad 0)), (1, .int v1), (2, .int v2), (3, .int v3)] → ∀ (H : Heap) (locs : List Loc), mH A s.heap dC dI ad cI cZ I R H locs → W p l e (rL 6) s m args below meth c H locs 0 0 Q (F0 m 4 ls []) := by
  obtain ⟨hx, hb, hml, hown, hT, -⟩ := id C
  intro k
  induction k with
  | zero => intro v2 v3 r0 hf; exact absurd hf (by unfold l_Md_makersOf_4; exact fun h9 => by cases h9)
  | succ k ih =>
    intro v2 v3 r0 hf K ls hl H locs h
    unfold l_Md_makersOf_4 at hf
    refine lv_iload_n hx hb d_Md_makersOf_4 rfl (lv_at hl 3 rfl) ?_
    refine lv_bipush (v := 6) hx hb d_Md_makersOf_5 (by decide) ?_
    refine lv_icmp_ge (tgt := 60) hx hb d_Md_makersOf_7 (by decide) (fun hc => ?_) (fun hc => ?_)
    · have hf := op_t hc hf
      obtain rfl := op_i1 hf
      exact K ls (lv_sub hl [2] rfl) H locs h
    · have hf := op_f hc hf
      refine lv_iload_n hx hb d_Md_makersOf_10 rfl (lv_at hl 2 rfl) ?_
      refine lv_aload_n hx hb d_Md_makersOf_11 rfl (lv_at hl 0 rfl) ?_
      refine mg_1 C h d_Md_makersOf_12 ?_
      refine lv_bipush (v := 34) hx hb d_Md_makersOf_15 (by decide) ?_
      refine lv_iload_n hx hb d_Md_makersOf_17 rfl (lv_at hl 1 rfl) ?_
      refine lv_iadd hx hb d_Md_makersOf_18 ?_
      obtain ⟨h1, hf⟩ := op_if hf
      refine ma_1 C h rfl h1 d_Md_makersOf_19 ?_
      refine lv_iload_n hx hb d_Md_makersOf_20 rfl (lv_at hl 3 rfl) ?_
      refine lv_ishr hx hb d_Md_makersOf_21 ?_
      refine lv_iconst (v := 1) hx hb d_Md_makersOf_22 (by decide) ?_
      refine lv_iand hx hb d_Md_makersOf_23 ?_
      refine lv_iconst (v := 1) hx hb d_Md_makersOf_24 (by decide) ?_
      obtain ⟨x3, he, hf⟩ := op_bind hf
      have K2 : ∀ (ls : Array Slot), lv_has ls 4 [(0, .ref (ad 0)), (1, .int v1), (3, .int v3)] → ∀ (H : Heap) (locs : List Loc), mH A s.heap dC dI ad cI cZ I R H locs → W p l e (rL 6) s m args below meth c H locs 0 0 Q (F0 m 52 ls [.int x3, .int v2]) := by
        intro ls hl H locs h
        refine lv_ior hx hb d_Md_makersOf_52 ?_
        refine lv_istore_n (lv' := [(2, .int (v2 ||| x3)), (0, .ref (ad 0)), (1, .int v1), (3, .int v3)]) hx hb d_Md_makersOf_53 rfl hl (by decide) rfl (fun ls hl => ?_)
        refine lv_iinc (v := (v3 + 1)) (lv' := [(3, .int (v3 + 1)), (2, .int (v2 ||| x3)), (0, .ref (ad 0)), (1, .int v1)]) hx hb d_Md_makersOf_54 hl (k := 3) rfl rfl (by decide) rfl (fun ls hl => ?_)
        refine lv_goto (tgt := 4) hx hb d_Md_makersOf_57 (by decide) ?_
        exact ih (v2 ||| x3) (v3 + 1) _ hf K ls (lv_sub hl [2, 3, 1, 0] rfl) H locs h
      have hf := he
      refine lv_icmp_ne (tgt := 51) hx hb d_Md_makersOf_25 (by decide) (fun hc => ?_) (fun hc => ?_)
      · have hf := op_f hc hf
        refine lv_iconst (v := 0) hx hb d_Md_makersOf_51 (by decide) ?_
        obtain rfl := op_i1 hf
        exact K2 ls (lv_sub hl [0, 1, 3] rfl) H locs h
      · have hf := op_t hc hf
        refine lv_aload_n hx hb d_Md_makersOf_28 rfl (lv_at hl 0 rfl) ?_
        refine lv_iload_n hx hb d_Md_makersOf_29 rfl (lv_at hl 3 rfl) ?_
        obtain ⟨x5, hc4, hf⟩ := op_bind hf
        refine kc_r (rest := [.int v2]) C h hA (c_Md_mostOf l n v3 I R) hc4 (cbW 1 hT cd_Md_mostOf rfl rfl ini_Md ml_Md_230 hd_Md_mostOf ⟨Nat.le_of_ble_eq_true rfl, Nat.le_of_ble_eq_true rfl⟩) im_Md_mostOf sp_Md_mostOf rfl hl.1 rfl (Nat.le_of_ble_eq_true rfl) d_Md_makersOf_30 ⟨Nat.zero_le _, Nat.zero_le _⟩ (fun H locs h => ?_)
        refine lv_aload_n hx hb d_Md_makersOf_33 rfl (lv_at hl 0 rfl) ?_
        refine mg_1 C h d_Md_makersOf_34 ?_
        refine lv_bipush (v := 46) hx hb d_Md_makersOf_37 (by decide) ?_
        refine lv_iload_n hx hb d_Md_makersOf_39 rfl (lv_at hl 1 rfl) ?_
        refine lv_iadd hx hb d_Md_makersOf_40 ?_
        obtain ⟨h6, hf⟩ := op_if hf
        refine ma_1 C h rfl h6 d_Md_makersOf_41 ?_
        refine lv_icmp_ne (tgt := 51) hx hb d_Md_makersOf_42 (by decide) (fun hc => ?_) (fun hc => ?_)
        · have hf := op_f hc hf
          refine lv_iconst (v := 0) hx hb d_Md_makersOf_51 (by decide) ?_
          obtain rfl := op_i1 hf
          exact K2 ls (lv_sub hl [0, 1, 3] rfl) H locs h
        · have hf := op_t hc hf
          refine lv_iconst (v := 1) hx hb d_Md_makersOf_45 (by decide) ?_
          refine lv_iload_n hx hb d_Md_makersOf_46 rfl (lv_at hl 3 rfl) ?_
          refine lv_ishl hx hb d_Md_makersOf_47 ?_
          refine lv_goto (tgt := 52) hx hb d_Md_makersOf_48 (by decide) ?_
          obtain rfl := op_i1 hf
          exact K2 ls (lv_sub hl [0, 1, 3] rfl) H locs h
def p_Md_makersOf (n : Nat) (v1 : Int32) (I : Nat → Int32) (R : Nat → Nat → Int32) : Option (Int32) := (l_Md_makersOf_4 n v1 I R n 0 0).bind fun y7 => some y7
set_option maxHeartbeats 4000000 in
theorem c_Md_makersOf (l : Launch) (n : Nat) (v1 : Int32) (I : Nat → Int32) (R : Nat → Nat → Int32)  : MMi l y_Md_makersOf b_Md_makersOf 4 .int (rL 6) (fun ad adK => [.int v1]) I R ((p_Md_makersOf n v1 I R).map fun r => (r, I, R)) := by
  refine en_mi (by decide) rfl (fun _ _ => Nat.le_of_ble_eq_true rfl) ?_
  intro z hz p e s m args below meth c dC dI ad cI cZ A adK adV ls C hA h hr hlk hl
  have hl : lv_has ls 4 [(0, .ref (ad 0)), (1, .int v1)] := hl
  obtain ⟨z, hf, rfl⟩ := op_map hz
  unfold p_Md_makersOf at hf
  obtain ⟨hx, hb, hml, hown, hT, -⟩ := id C
  refine lv_iconst (v := 0) hx hb d_Md_makersOf_0 (by decide) ?_
  refine lv_istore_n (lv' := [(2, .int 0), (0, .ref (ad 0)), (1, .int v1)]) hx hb d_Md_makersOf_1 rfl hl (by decide) rfl (fun ls hl => ?_)
  refine lv_iconst (v := 0) hx hb d_Md_makersOf_2 (by decide) ?_
  refine lv_istore_n (lv' := [(3, .int 0), (2, .int 0), (0, .ref (ad 0)), (1, .int v1)]) hx hb d_Md_makersOf_3 rfl hl (by decide) rfl (fun ls hl => ?_)
  obtain ⟨y7, he, hf⟩ := op_bind hf
  refine wl_Md_makersOf_4 C hA hr hlk n v1 I R n 0 0 _ he (fun ls hl H locs h => ?_) ls (lv_sub hl [2, 3, 1, 0] rfl) s.heap [] h
  refine lv_iload_n hx hb d_Md_makersOf_60 rfl (lv_at hl 0 rfl) ?_
  exact rt_mr C h hr hlk hf rfl d_Md_makersOf_61
theorem hd_Md_plainGoes : y_Md_plainGoes.cls ≠ "java/lang/invoke/MethodHandle" ∧ y_Md_plainGoes.cls ≠ "java/lang/invoke/VarHandle" ∧ (parseMethodDescriptor y_Md_plainGoes.desc).map (fun d => d.parameters.length) = some 1 := by decide +kernel
theorem d_Md_plainGoes_0 : decode b_Md_plainGoes 0 = .ok (.aload_n 0, 1) := by decide +kernel
theorem d_Md_plainGoes_1 : decode b_Md_plainGoes 1 = .ok (.iconst 1, 1) := by decide +kernel
theorem d_Md_plainGoes_2 : decode b_Md_plainGoes 2 = .ok (.invokevirtual 247, 3) := by decide +kernel
theorem d_Md_plainGoes_5 : decode b_Md_plainGoes 5 = .ok (.iload_n 1, 1) := by decide +kernel
theorem d_Md_plainGoes_6 : decode b_Md_plainGoes 6 = .ok (.aload_n 0, 1) := by decide +kernel
theorem d_Md_plainGoes_7 : decode b_Md_plainGoes 7 = .ok (.getfield 250, 3) := by decide +kernel
theorem d_Md_plainGoes_10 : decode b_Md_plainGoes 10 = .ok (.iadd, 1) := by decide +kernel
theorem d_Md_plainGoes_11 : decode b_Md_plainGoes 11 = .ok (.ireturn, 1) := by decide +kernel
def p_Md_plainGoes (n : Nat) (v1 : Int32) (I : Nat → Int32) (R : Nat → Nat → Int32) : Option (Int32 × MU) := (p_Md_ranBody n 1 I R).bind fun (I2, R3) => some ((v1 + (I2 22)), I2, R3)
set_option maxHeartbeats 4000000 in
theorem c_Md_plainGoes (l : Launch) (n : Nat) (v1 : Int32) (I : Nat → Int32) (R : Nat → Nat → Int32)  : MMi l y_Md_plainGoes b_Md_plainGoes 2 .int (rL 6) (fun ad adK => [.int v1]) I R (p_Md_plainGoes n v1 I R) := by
  refine en_mi (by decide) rfl (fun _ _ => Nat.le_of_ble_eq_true rfl) ?_
  intro z hf p e s m args below meth c dC dI ad cI cZ A adK adV ls C hA h hr hlk hl
  have hl : lv_has ls 2 [(0, .ref (ad 0)), (1, .int v1)] := hl
  unfold p_Md_plainGoes at hf
  obtain ⟨hx, hb, hml, hown, hT, -⟩ := id C
  refine lv_aload_n hx hb d_Md_plainGoes_0 rfl (lv_at hl 0 rfl) ?_
  refine lv_iconst (v := 1) hx hb d_Md_plainGoes_1 (by decide) ?_
  obtain ⟨⟨I2, R3⟩, hc1, hf⟩ := op_bind hf
  try dsimp only at hf
  refine kc_v (rest := []) C h hA (c_Md_ranBody l n 1 I R) hc1 (cbW 1 hT cd_Md_ranBody rfl rfl ini_Md ml_Md_247 hd_Md_ranBody ⟨Nat.le_of_ble_eq_true rfl, Nat.le_of_ble_eq_true rfl⟩) im_Md_ranBody sp_Md_ranBody rfl hl.1 rfl (Nat.le_of_ble_eq_true rfl) d_Md_plainGoes_2 ⟨Nat.zero_le _, Nat.zero_le _⟩ (fun H locs h => ?_)
  refine lv_iload_n hx hb d_Md_plainGoes_5 rfl (lv_at hl 1 rfl) ?_
  refine lv_aload_n hx hb d_Md_plainGoes_6 rfl (lv_at hl 0 rfl) ?_
  refine mg_22 C h d_Md_plainGoes_7 ?_
  refine lv_iadd hx hb d_Md_plainGoes_10 ?_
  exact rt_mi C h hr hlk hf rfl d_Md_plainGoes_11
theorem hd_Md_trace : y_Md_trace.cls ≠ "java/lang/invoke/MethodHandle" ∧ y_Md_trace.cls ≠ "java/lang/invoke/VarHandle" ∧ (parseMethodDescriptor y_Md_trace.desc).map (fun d => d.parameters.length) = some 1 := by decide +kernel
theorem d_Md_trace_0 : decode b_Md_trace 0 = .ok (.iload_n 1, 1) := by decide +kernel
theorem d_Md_trace_1 : decode b_Md_trace 1 = .ok (.iconst 0, 1) := by decide +kernel
theorem d_Md_trace_2 : decode b_Md_trace 2 = .ok (.aload_n 0, 1) := by decide +kernel
theorem d_Md_trace_3 : decode b_Md_trace 3 = .ok (.getfield 244, 3) := by decide +kernel
theorem d_Md_trace_6 : decode b_Md_trace 6 = .ok (.bipush 20, 2) := by decide +kernel
theorem d_Md_trace_8 : decode b_Md_trace 8 = .ok (.if_icmp .ge 10, 3) := by decide +kernel
theorem d_Md_trace_11 : decode b_Md_trace 11 = .ok (.aload_n 0, 1) := by decide +kernel
theorem d_Md_trace_12 : decode b_Md_trace 12 = .ok (.getfield 244, 3) := by decide +kernel
theorem d_Md_trace_15 : decode b_Md_trace 15 = .ok (.goto 5, 3) := by decide +kernel
theorem d_Md_trace_18 : decode b_Md_trace 18 = .ok (.bipush 20, 2) := by decide +kernel
theorem d_Md_trace_20 : decode b_Md_trace 20 = .ok (.iconst 1, 1) := by decide +kernel
theorem d_Md_trace_21 : decode b_Md_trace 21 = .ok (.isub, 1) := by decide +kernel
theorem d_Md_trace_22 : decode b_Md_trace 22 = .ok (.invokestatic 44, 3) := by decide +kernel
theorem d_Md_trace_25 : decode b_Md_trace 25 = .ok (.ifCond .eq 12, 3) := by decide +kernel
theorem d_Md_trace_28 : decode b_Md_trace 28 = .ok (.aload_n 0, 1) := by decide +kernel
theorem d_Md_trace_29 : decode b_Md_trace 29 = .ok (.getfield 37, 3) := by decide +kernel
theorem d_Md_trace_32 : decode b_Md_trace 32 = .ok (.iload_n 1, 1) := by decide +kernel
theorem d_Md_trace_33 : decode b_Md_trace 33 = .ok (.iaload, 1) := by decide +kernel
theorem d_Md_trace_34 : decode b_Md_trace 34 = .ok (.goto 4, 3) := by decide +kernel
theorem d_Md_trace_37 : decode b_Md_trace 37 = .ok (.iconst (-1), 1) := by decide +kernel
theorem d_Md_trace_38 : decode b_Md_trace 38 = .ok (.ireturn, 1) := by decide +kernel
def p_Md_trace (n : Nat) (v1 : Int32) (I : Nat → Int32) (R : Nat → Nat → Int32) : Option (Int32) := (if 20 ≤ (I 20) then some 20 else some (I 20) : Option (Int32)).bind fun x2 => (p_Md_in n v1 0 (x2 - 1)).bind fun x4 => (if x4 = 0 then some (-1) else if ix v1 20 then some (R 19 v1.toNatClampNeg) else none : Option (Int32)).bind fun x6 => some x6
set_option maxHeartbeats 4000000 in
theorem c_Md_trace (l : Launch) (n : Nat) (v1 : Int32) (I : Nat → Int32) (R : Nat → Nat → Int32)  : MMi l y_Md_trace b_Md_trace 2 .int (rL 6) (fun ad adK => [.int v1]) I R ((p_Md_trace n v1 I R).map fun r => (r, I, R)) := by
  refine en_mi (by decide) rfl (fun _ _ => Nat.le_of_ble_eq_true rfl) ?_
  intro z hz p e s m args below meth c dC dI ad cI cZ A adK adV ls C hA h hr hlk hl
  have hl : lv_has ls 2 [(0, .ref (ad 0)), (1, .int v1)] := hl
  obtain ⟨z, hf, rfl⟩ := op_map hz
  unfold p_Md_trace at hf
  obtain ⟨hx, hb, hml, hown, hT, -⟩ := id C
  refine lv_iload_n hx hb d_Md_trace_0 rfl (lv_at hl 1 rfl) ?_
  refine lv_iconst (v := 0) hx hb d_Md_trace_1 (by decide) ?_
  refine lv_aload_n hx hb d_Md_trace_2 rfl (lv_at hl 0 rfl) ?_
  refine mg_20 C h d_Md_trace_3 ?_
  refine lv_bipush (v := 20) hx hb d_Md_trace_6 (by decide) ?_
  obtain ⟨x2, he, hf⟩ := op_bind hf
  have K1 : ∀ (ls : Array Slot), lv_has ls 2 [(0, .ref (ad 0)), (1, .int v1)] → ∀ (H : Heap) (locs : List Loc), mH A s.heap dC dI ad cI cZ I R H locs → W p l e (rL 6) s m args below meth c H locs 0 0 (mQi dC dI ad cI cZ A below args s (z, I, R)) (F0 m 20 ls [.int x2, .int 0, .int v1]) := by
    intro ls hl H locs h
    refine lv_iconst (v := 1) hx hb d_Md_trace_20 (by decide) ?_
    refine lv_isub hx hb d_Md_trace_21 ?_
    obtain ⟨x4, hc3, hf⟩ := op_bind hf
    refine ks_i (rest := []) hx hb hml hown hT (c_Md_in l n v1 0 (x2 - 1) _ hc3) (cbW 3 hT cd_Md_in rfl rfl ini_Md ml_Md_44 hd_Md_in ⟨Nat.le_of_ble_eq_true rfl, Nat.le_of_ble_eq_true rfl⟩) sm_Md_in rfl hl.1 rfl (Nat.le_of_ble_eq_true rfl) d_Md_trace_22 ⟨Nat.zero_le _, Nat.zero_le _⟩ ?_
    obtain ⟨x6, he, hf⟩ := op_bind hf
    have K5 : ∀ (ls : Array Slot), lv_has ls 2 [] → ∀ (H : Heap) (locs : List Loc), mH A s.heap dC dI ad cI cZ I R H locs → W p l e (rL 6) s m args below meth c H locs 0 0 (mQi dC dI ad cI cZ A below args s (z, I, R)) (F0 m 38 ls [.int x6]) := by
      intro ls hl H locs h
      exact rt_mr C h hr hlk hf rfl d_Md_trace_38
    have hf := he
    refine lv_if_eq (tgt := 37) hx hb d_Md_trace_25 (by decide) (fun hc => ?_) (fun hc => ?_)
    · have hf := op_t hc hf
      refine lv_iconst (v := (-1)) hx hb d_Md_trace_37 (by decide) ?_
      obtain rfl := op_i1 hf
      exact K5 ls (lv_sub hl [] rfl) H locs h
    · have hf := op_f hc hf
      refine lv_aload_n hx hb d_Md_trace_28 rfl (lv_at hl 0 rfl) ?_
      refine mg_19 C h d_Md_trace_29 ?_
      refine lv_iload_n hx hb d_Md_trace_32 rfl (lv_at hl 1 rfl) ?_
      obtain ⟨h7, hf⟩ := op_if hf
      refine ma_19 C h rfl h7 d_Md_trace_33 ?_
      refine lv_goto (tgt := 38) hx hb d_Md_trace_34 (by decide) ?_
      obtain rfl := op_i1 hf
      exact K5 ls (lv_sub hl [] rfl) H locs h
  have hf := he
  refine lv_icmp_ge (tgt := 18) hx hb d_Md_trace_8 (by decide) (fun hc => ?_) (fun hc => ?_)
  · have hf := op_t hc hf
    refine lv_bipush (v := 20) hx hb d_Md_trace_18 (by decide) ?_
    obtain rfl := op_i1 hf
    exact K1 ls (lv_sub hl [0, 1] rfl) s.heap [] h
  · have hf := op_f hc hf
    refine lv_aload_n hx hb d_Md_trace_11 rfl (lv_at hl 0 rfl) ?_
    refine mg_20 C h d_Md_trace_12 ?_
    refine lv_goto (tgt := 20) hx hb d_Md_trace_15 (by decide) ?_
    obtain rfl := op_i1 hf
    exact K1 ls (lv_sub hl [0, 1] rfl) s.heap [] h
theorem hd_Md_of : y_Md_of.cls ≠ "java/lang/invoke/MethodHandle" ∧ y_Md_of.cls ≠ "java/lang/invoke/VarHandle" ∧ (parseMethodDescriptor y_Md_of.desc).map (fun d => d.parameters.length) = some 2 := by decide +kernel
theorem d_Md_of_0 : decode b_Md_of 0 = .ok (.aload_n 0, 1) := by decide +kernel
theorem d_Md_of_1 : decode b_Md_of 1 = .ok (.iload_n 1, 1) := by decide +kernel
theorem d_Md_of_2 : decode b_Md_of 2 = .ok (.invokevirtual 131, 3) := by decide +kernel
theorem d_Md_of_5 : decode b_Md_of 5 = .ok (.ifCond .eq 12, 3) := by decide +kernel
theorem d_Md_of_8 : decode b_Md_of 8 = .ok (.iload_n 2, 1) := by decide +kernel
theorem d_Md_of_9 : decode b_Md_of 9 = .ok (.iconst 0, 1) := by decide +kernel
theorem d_Md_of_10 : decode b_Md_of 10 = .ok (.iconst 4, 1) := by decide +kernel
theorem d_Md_of_11 : decode b_Md_of 11 = .ok (.invokestatic 44, 3) := by decide +kernel
theorem d_Md_of_14 : decode b_Md_of 14 = .ok (.ifCond .ne 5, 3) := by decide +kernel
theorem d_Md_of_17 : decode b_Md_of 17 = .ok (.iconst (-1), 1) := by decide +kernel
theorem d_Md_of_18 : decode b_Md_of 18 = .ok (.ireturn, 1) := by decide +kernel
theorem d_Md_of_19 : decode b_Md_of 19 = .ok (.iload_n 2, 1) := by decide +kernel
theorem d_Md_of_20 : decode b_Md_of 20 = .ok (.iconst 4, 1) := by decide +kernel
theorem d_Md_of_21 : decode b_Md_of 21 = .ok (.if_icmp .ne 17, 3) := by decide +kernel
theorem d_Md_of_24 : decode b_Md_of 24 = .ok (.aload_n 0, 1) := by decide +kernel
theorem d_Md_of_25 : decode b_Md_of 25 = .ok (.getfield 9, 3) := by decide +kernel
theorem d_Md_of_28 : decode b_Md_of 28 = .ok (.bipush 9, 2) := by decide +kernel
theorem d_Md_of_30 : decode b_Md_of 30 = .ok (.iaload, 1) := by decide +kernel
theorem d_Md_of_31 : decode b_Md_of 31 = .ok (.iload_n 1, 1) := by decide +kernel
theorem d_Md_of_32 : decode b_Md_of 32 = .ok (.ishr, 1) := by decide +kernel
theorem d_Md_of_33 : decode b_Md_of 33 = .ok (.iconst 1, 1) := by decide +kernel
theorem d_Md_of_34 : decode b_Md_of 34 = .ok (.iand, 1) := by decide +kernel
theorem d_Md_of_35 : decode b_Md_of 35 = .ok (.goto 17, 3) := by decide +kernel
theorem d_Md_of_38 : decode b_Md_of 38 = .ok (.aload_n 0, 1) := by decide +kernel
theorem d_Md_of_39 : decode b_Md_of 39 = .ok (.getfield 9, 3) := by decide +kernel
theorem d_Md_of_42 : decode b_Md_of 42 = .ok (.bipush 10, 2) := by decide +kernel
theorem d_Md_of_44 : decode b_Md_of 44 = .ok (.bipush 6, 2) := by decide +kernel
theorem d_Md_of_46 : decode b_Md_of 46 = .ok (.iload_n 2, 1) := by decide +kernel
theorem d_Md_of_47 : decode b_Md_of 47 = .ok (.imul, 1) := by decide +kernel
theorem d_Md_of_48 : decode b_Md_of 48 = .ok (.iadd, 1) := by decide +kernel
theorem d_Md_of_49 : decode b_Md_of 49 = .ok (.iload_n 1, 1) := by decide +kernel
theorem d_Md_of_50 : decode b_Md_of 50 = .ok (.iadd, 1) := by decide +kernel
theorem d_Md_of_51 : decode b_Md_of 51 = .ok (.iaload, 1) := by decide +kernel
theorem d_Md_of_52 : decode b_Md_of 52 = .ok (.ireturn, 1) := by decide +kernel
def p_Md_of (n : Nat) (v1 : Int32) (v2 : Int32) (I : Nat → Int32) (R : Nat → Nat → Int32) : Option (Int32) := (p_Md_isPerson n v1 I R).bind fun x2 => (if x2 = 0 then some (-1) else (p_Md_in n v2 0 4).bind fun x4 => (if x4 = 0 then some (-1) else (if v2 = 4 then some (((R 1 9) >>> (v1 &&& 31)) &&& 1) else if ix ((10 + (6 * v2)) + v1) 890 then some (R 1 ((10 + (6 * v2)) + v1).toNatClampNeg) else none : Option (Int32)).bind fun x6 => some x6))
set_option maxHeartbeats 4000000 in
theorem c_Md_of (l : Launch) (n : Nat) (v1 : Int32) (v2 : Int32) (I : Nat → Int32) (R : Nat → Nat → Int32)  : MMi l y_Md_of b_Md_of 3 .int (rL 7) (fun ad adK => [.int v1, .int v2]) I R ((p_Md_of n v1 v2 I R).map fun r => (r, I, R)) := by
  refine en_mi (by decide) rfl (fun _ _ => Nat.le_of_ble_eq_true rfl) ?_
  intro z hz p e s m args below meth c dC dI ad cI cZ A adK adV ls C hA h hr hlk hl
  have hl : lv_has ls 3 [(0, .ref (ad 0)), (1, .int v1), (2, .int v2)] := hl
  obtain ⟨z, hf, rfl⟩ := op_map hz
  unfold p_Md_of at hf
  obtain ⟨hx, hb, hml, hown, hT, -⟩ := id C
  refine lv_aload_n hx hb d_Md_of_0 rfl (lv_at hl 0 rfl) ?_
  refine lv_iload_n hx hb d_Md_of_1 rfl (lv_at hl 1 rfl) ?_
  obtain ⟨x2, hc1, hf⟩ := op_bind hf
  refine kc_r (rest := []) C h hA (c_Md_isPerson l n v1 I R) hc1 (cbW 1 hT cd_Md_isPerson rfl rfl ini_Md ml_Md_131 hd_Md_isPerson ⟨Nat.le_of_ble_eq_true rfl, Nat.le_of_ble_eq_true rfl⟩) im_Md_isPerson sp_Md_isPerson rfl hl.1 rfl (Nat.le_of_ble_eq_true rfl) d_Md_of_2 ⟨Nat.zero_le _, Nat.zero_le _⟩ (fun H locs h => ?_)
  refine lv_if_eq (tgt := 17) hx hb d_Md_of_5 (by decide) (fun hc => ?_) (fun hc => ?_)
  · have hf := op_t hc hf
    refine lv_iconst (v := (-1)) hx hb d_Md_of_17 (by decide) ?_
    exact rt_mr C h hr hlk hf rfl d_Md_of_18
  · have hf := op_f hc hf
    refine lv_iload_n hx hb d_Md_of_8 rfl (lv_at hl 2 rfl) ?_
    refine lv_iconst (v := 0) hx hb d_Md_of_9 (by decide) ?_
    refine lv_iconst (v := 4) hx hb d_Md_of_10 (by decide) ?_
    obtain ⟨x4, hc3, hf⟩ := op_bind hf
    refine ks_i (rest := []) hx hb hml hown hT (c_Md_in l n v2 0 4 _ hc3) (cbW 3 hT cd_Md_in rfl rfl ini_Md ml_Md_44 hd_Md_in ⟨Nat.le_of_ble_eq_true rfl, Nat.le_of_ble_eq_true rfl⟩) sm_Md_in rfl hl.1 rfl (Nat.le_of_ble_eq_true rfl) d_Md_of_11 ⟨Nat.zero_le _, Nat.zero_le _⟩ ?_
    refine lv_if_ne (tgt := 19) hx hb d_Md_of_14 (by decide) (fun hc => ?_) (fun hc => ?_)
    · have hf := op_f hc hf
      refine lv_iload_n hx hb d_Md_of_19 rfl (lv_at hl 2 rfl) ?_
      refine lv_iconst (v := 4) hx hb d_Md_of_20 (by decide) ?_
      obtain ⟨x6, he, hf⟩ := op_bind hf
      have K5 : ∀ (ls : Array Slot), lv_has ls 3 [] → ∀ (H : Heap) (locs : List Loc), mH A s.heap dC dI ad cI cZ I R H locs → W p l e (rL 7) s m args below meth c H locs 0 0 (mQi dC dI ad cI cZ A below args s (z, I, R)) (F0 m 52 ls [.int x6]) := by
        intro ls hl H locs h
        exact rt_mr C h hr hlk hf rfl d_Md_of_52
      have hf := he
      refine lv_icmp_ne (tgt := 38) hx hb d_Md_of_21 (by decide) (fun hc => ?_) (fun hc => ?_)
      · have hf := op_f hc hf
        refine lv_aload_n hx hb d_Md_of_38 rfl (lv_at hl 0 rfl) ?_
        refine mg_1 C h d_Md_of_39 ?_
        refine lv_bipush (v := 10) hx hb d_Md_of_42 (by decide) ?_
        refine lv_bipush (v := 6) hx hb d_Md_of_44 (by decide) ?_
        refine lv_iload_n hx hb d_Md_of_46 rfl (lv_at hl 2 rfl) ?_
        refine lv_imul hx hb d_Md_of_47 ?_
        refine lv_iadd hx hb d_Md_of_48 ?_
        refine lv_iload_n hx hb d_Md_of_49 rfl (lv_at hl 1 rfl) ?_
        refine lv_iadd hx hb d_Md_of_50 ?_
        obtain ⟨h7, hf⟩ := op_if hf
        refine ma_1 C h rfl h7 d_Md_of_51 ?_
        obtain rfl := op_i1 hf
        exact K5 ls (lv_sub hl [] rfl) H locs h
      · have hf := op_t hc hf
        refine lv_aload_n hx hb d_Md_of_24 rfl (lv_at hl 0 rfl) ?_
        refine mg_1 C h d_Md_of_25 ?_
        refine lv_bipush (v := 9) hx hb d_Md_of_28 (by decide) ?_
        refine ma_1 C h (j := 9) (by decide) (show ix 9 890 by decide) d_Md_of_30 ?_
        refine lv_iload_n hx hb d_Md_of_31 rfl (lv_at hl 1 rfl) ?_
        refine lv_ishr hx hb d_Md_of_32 ?_
        refine lv_iconst (v := 1) hx hb d_Md_of_33 (by decide) ?_
        refine lv_iand hx hb d_Md_of_34 ?_
        refine lv_goto (tgt := 52) hx hb d_Md_of_35 (by decide) ?_
        obtain rfl := op_i1 hf
        exact K5 ls (lv_sub hl [] rfl) H locs h
    · have hf := op_t hc hf
      refine lv_iconst (v := (-1)) hx hb d_Md_of_17 (by decide) ?_
      exact rt_mr C h hr hlk hf rfl d_Md_of_18
theorem hd_Md_goes : y_Md_goes.cls ≠ "java/lang/invoke/MethodHandle" ∧ y_Md_goes.cls ≠ "java/lang/invoke/VarHandle" ∧ (parseMethodDescriptor y_Md_goes.desc).map (fun d => d.parameters.length) = some 2 := by decide +kernel
theorem d_Md_goes_0 : decode b_Md_goes 0 = .ok (.aload_n 0, 1) := by decide +kernel
theorem d_Md_goes_1 : decode b_Md_goes 1 = .ok (.iload_n 1, 1) := by decide +kernel
theorem d_Md_goes_2 : decode b_Md_goes 2 = .ok (.invokevirtual 131, 3) := by decide +kernel
theorem d_Md_goes_5 : decode b_Md_goes 5 = .ok (.ifCond .eq 16, 3) := by decide +kernel
theorem d_Md_goes_8 : decode b_Md_goes 8 = .ok (.iload_n 2, 1) := by decide +kernel
theorem d_Md_goes_9 : decode b_Md_goes 9 = .ok (.iload_n 1, 1) := by decide +kernel
theorem d_Md_goes_10 : decode b_Md_goes 10 = .ok (.ishr, 1) := by decide +kernel
theorem d_Md_goes_11 : decode b_Md_goes 11 = .ok (.iconst 1, 1) := by decide +kernel
theorem d_Md_goes_12 : decode b_Md_goes 12 = .ok (.iand, 1) := by decide +kernel
theorem d_Md_goes_13 : decode b_Md_goes 13 = .ok (.iconst 1, 1) := by decide +kernel
theorem d_Md_goes_14 : decode b_Md_goes 14 = .ok (.if_icmp .ne 7, 3) := by decide +kernel
theorem d_Md_goes_17 : decode b_Md_goes 17 = .ok (.iconst 1, 1) := by decide +kernel
theorem d_Md_goes_18 : decode b_Md_goes 18 = .ok (.goto 4, 3) := by decide +kernel
theorem d_Md_goes_21 : decode b_Md_goes 21 = .ok (.iconst 0, 1) := by decide +kernel
theorem d_Md_goes_22 : decode b_Md_goes 22 = .ok (.ireturn, 1) := by decide +kernel
def p_Md_goes (n : Nat) (v1 : Int32) (v2 : Int32) (I : Nat → Int32) (R : Nat → Nat → Int32) : Option (Int32) := (p_Md_isPerson n v1 I R).bind fun x2 => (if x2 = 0 then some 0 else (if ((v2 >>> (v1 &&& 31)) &&& 1) = 1 then some 1 else some 0) : Option (Int32)).bind fun x4 => if isZ x4 then some x4 else none
set_option maxHeartbeats 4000000 in
theorem c_Md_goes (l : Launch) (n : Nat) (v1 : Int32) (v2 : Int32) (I : Nat → Int32) (R : Nat → Nat → Int32)  : MMi l y_Md_goes b_Md_goes 3 .boolean (rL 7) (fun ad adK => [.int v1, .int v2]) I R ((p_Md_goes n v1 v2 I R).map fun r => (r, I, R)) := by
  refine en_mi (by decide) rfl (fun _ _ => Nat.le_of_ble_eq_true rfl) ?_
  intro z hz p e s m args below meth c dC dI ad cI cZ A adK adV ls C hA h hr hlk hl
  have hl : lv_has ls 3 [(0, .ref (ad 0)), (1, .int v1), (2, .int v2)] := hl
  obtain ⟨z, hf, rfl⟩ := op_map hz
  unfold p_Md_goes at hf
  obtain ⟨hx, hb, hml, hown, hT, -⟩ := id C
  refine lv_aload_n hx hb d_Md_goes_0 rfl (lv_at hl 0 rfl) ?_
  refine lv_iload_n hx hb d_Md_goes_1 rfl (lv_at hl 1 rfl) ?_
  obtain ⟨x2, hc1, hf⟩ := op_bind hf
  refine kc_r (rest := []) C h hA (c_Md_isPerson l n v1 I R) hc1 (cbW 1 hT cd_Md_isPerson rfl rfl ini_Md ml_Md_131 hd_Md_isPerson ⟨Nat.le_of_ble_eq_true rfl, Nat.le_of_ble_eq_true rfl⟩) im_Md_isPerson sp_Md_isPerson rfl hl.1 rfl (Nat.le_of_ble_eq_true rfl) d_Md_goes_2 ⟨Nat.zero_le _, Nat.zero_le _⟩ (fun H locs h => ?_)
  obtain ⟨x4, he, hf⟩ := op_bind hf
  have K3 : ∀ (ls : Array Slot), lv_has ls 3 [] → ∀ (H : Heap) (locs : List Loc), mH A s.heap dC dI ad cI cZ I R H locs → W p l e (rL 7) s m args below meth c H locs 0 0 (mQi dC dI ad cI cZ A below args s (z, I, R)) (F0 m 22 ls [.int x4]) := by
    intro ls hl H locs h
    obtain ⟨h5, hf⟩ := op_if hf
    exact rt_mr C h hr hlk hf (isZ_nar h5) d_Md_goes_22
  have hf := he
  refine lv_if_eq (tgt := 21) hx hb d_Md_goes_5 (by decide) (fun hc => ?_) (fun hc => ?_)
  · have hf := op_t hc hf
    refine lv_iconst (v := 0) hx hb d_Md_goes_21 (by decide) ?_
    obtain rfl := op_i1 hf
    exact K3 ls (lv_sub hl [] rfl) H locs h
  · have hf := op_f hc hf
    refine lv_iload_n hx hb d_Md_goes_8 rfl (lv_at hl 2 rfl) ?_
    refine lv_iload_n hx hb d_Md_goes_9 rfl (lv_at hl 1 rfl) ?_
    refine lv_ishr hx hb d_Md_goes_10 ?_
    refine lv_iconst (v := 1) hx hb d_Md_goes_11 (by decide) ?_
    refine lv_iand hx hb d_Md_goes_12 ?_
    refine lv_iconst (v := 1) hx hb d_Md_goes_13 (by decide) ?_
    refine lv_icmp_ne (tgt := 21) hx hb d_Md_goes_14 (by decide) (fun hc => ?_) (fun hc => ?_)
    · have hf := op_f hc hf
      refine lv_iconst (v := 0) hx hb d_Md_goes_21 (by decide) ?_
      obtain rfl := op_i1 hf
      exact K3 ls (lv_sub hl [] rfl) H locs h
    · have hf := op_t hc hf
      refine lv_iconst (v := 1) hx hb d_Md_goes_17 (by decide) ?_
      refine lv_goto (tgt := 22) hx hb d_Md_goes_18 (by decide) ?_
      obtain rfl := op_i1 hf
      exact K3 ls (lv_sub hl [] rfl) H locs h
