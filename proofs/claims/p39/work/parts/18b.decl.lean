theorem dL_below_0 : decode cL_below 0 = .ok (.iload_n 0, 1) := by decide +kernel
theorem dL_below_1 : decode cL_below 1 = .ok (.ldc 7, 2) := by decide +kernel
theorem dL_below_3 : decode cL_below 3 = .ok (.iand, 1) := by decide +kernel
theorem dL_below_4 : decode cL_below 4 = .ok (.iload_n 1, 1) := by decide +kernel
theorem dL_below_5 : decode cL_below 5 = .ok (.irem, 1) := by decide +kernel
theorem dL_below_6 : decode cL_below 6 = .ok (.ireturn, 1) := by decide +kernel
theorem dL_cell_0 : decode cL_cell 0 = .ok (.iload_n 1, 1) := by decide +kernel
theorem dL_cell_1 : decode cL_cell 1 = .ok (.aload_n 0, 1) := by decide +kernel
theorem dL_cell_2 : decode cL_cell 2 = .ok (.arraylength, 1) := by decide +kernel
theorem dL_cell_3 : decode cL_cell 3 = .ok (.if_icmp .ge 9, 3) := by decide +kernel
theorem dL_cell_6 : decode cL_cell 6 = .ok (.aload_n 0, 1) := by decide +kernel
theorem dL_cell_7 : decode cL_cell 7 = .ok (.iload_n 1, 1) := by decide +kernel
theorem dL_cell_8 : decode cL_cell 8 = .ok (.iaload, 1) := by decide +kernel
theorem dL_cell_9 : decode cL_cell 9 = .ok (.goto 9, 3) := by decide +kernel
theorem dL_cell_12 : decode cL_cell 12 = .ok (.ldc 8, 2) := by decide +kernel
theorem dL_cell_14 : decode cL_cell 14 = .ok (.iload_n 1, 1) := by decide +kernel
theorem dL_cell_15 : decode cL_cell 15 = .ok (.iconst 3, 1) := by decide +kernel
theorem dL_cell_16 : decode cL_cell 16 = .ok (.iadd, 1) := by decide +kernel
theorem dL_cell_17 : decode cL_cell 17 = .ok (.imul, 1) := by decide +kernel
theorem dL_cell_18 : decode cL_cell 18 = .ok (.ireturn, 1) := by decide +kernel
theorem dL_act_0 : decode cL_act 0 = .ok (.aload_n 1, 1) := by decide +kernel
theorem dL_act_1 : decode cL_act 1 = .ok (.getfield 9, 3) := by decide +kernel
theorem dL_act_4 : decode cL_act 4 = .ok (.arraylength, 1) := by decide +kernel
theorem dL_act_5 : decode cL_act 5 = .ok (.istore_n 3, 1) := by decide +kernel
theorem dL_act_6 : decode cL_act 6 = .ok (.iload_n 2, 1) := by decide +kernel
theorem dL_act_7 : decode cL_act 7 = .ok (.bipush 9, 2) := by decide +kernel
theorem dL_act_9 : decode cL_act 9 = .ok (.ishr, 1) := by decide +kernel
theorem dL_act_10 : decode cL_act 10 = .ok (.bipush 16, 2) := by decide +kernel
theorem dL_act_12 : decode cL_act 12 = .ok (.invokestatic 15, 3) := by decide +kernel
theorem dL_act_15 : decode cL_act 15 = .ok (.istore 4, 2) := by decide +kernel
theorem dL_act_17 : decode cL_act 17 = .ok (.iload_n 3, 1) := by decide +kernel
theorem dL_act_18 : decode cL_act 18 = .ok (.ifCond .eq 9, 3) := by decide +kernel
theorem dL_act_21 : decode cL_act 21 = .ok (.iload 4, 2) := by decide +kernel
theorem dL_act_23 : decode cL_act 23 = .ok (.iconst 4, 1) := by decide +kernel
theorem dL_act_24 : decode cL_act 24 = .ok (.if_icmp .ge 136, 3) := by decide +kernel
theorem dL_act_27 : decode cL_act 27 = .ok (.iconst 5, 1) := by decide +kernel
theorem dL_act_28 : decode cL_act 28 = .ok (.newarray .int, 2) := by decide +kernel
theorem dL_act_30 : decode cL_act 30 = .ok (.dup, 1) := by decide +kernel
theorem dL_act_31 : decode cL_act 31 = .ok (.iconst 0, 1) := by decide +kernel
theorem dL_act_32 : decode cL_act 32 = .ok (.iload_n 2, 1) := by decide +kernel
theorem dL_act_33 : decode cL_act 33 = .ok (.iconst 1, 1) := by decide +kernel
theorem dL_act_34 : decode cL_act 34 = .ok (.ishr, 1) := by decide +kernel
theorem dL_act_35 : decode cL_act 35 = .ok (.iconst 5, 1) := by decide +kernel
theorem dL_act_36 : decode cL_act 36 = .ok (.invokestatic 15, 3) := by decide +kernel
theorem dL_act_39 : decode cL_act 39 = .ok (.iastore, 1) := by decide +kernel
theorem dL_act_40 : decode cL_act 40 = .ok (.dup, 1) := by decide +kernel
theorem dL_act_41 : decode cL_act 41 = .ok (.iconst 1, 1) := by decide +kernel
theorem dL_act_42 : decode cL_act 42 = .ok (.iload_n 2, 1) := by decide +kernel
theorem dL_act_43 : decode cL_act 43 = .ok (.iconst 3, 1) := by decide +kernel
theorem dL_act_44 : decode cL_act 44 = .ok (.ishr, 1) := by decide +kernel
theorem dL_act_45 : decode cL_act 45 = .ok (.bipush 41, 2) := by decide +kernel
theorem dL_act_47 : decode cL_act 47 = .ok (.invokestatic 15, 3) := by decide +kernel
theorem dL_act_50 : decode cL_act 50 = .ok (.iastore, 1) := by decide +kernel
theorem dL_act_51 : decode cL_act 51 = .ok (.dup, 1) := by decide +kernel
theorem dL_act_52 : decode cL_act 52 = .ok (.iconst 2, 1) := by decide +kernel
theorem dL_act_53 : decode cL_act 53 = .ok (.iload_n 2, 1) := by decide +kernel
theorem dL_act_54 : decode cL_act 54 = .ok (.iconst 5, 1) := by decide +kernel
theorem dL_act_55 : decode cL_act 55 = .ok (.ishr, 1) := by decide +kernel
theorem dL_act_56 : decode cL_act 56 = .ok (.iload_n 2, 1) := by decide +kernel
theorem dL_act_57 : decode cL_act 57 = .ok (.iconst 2, 1) := by decide +kernel
theorem dL_act_58 : decode cL_act 58 = .ok (.invokestatic 15, 3) := by decide +kernel
theorem dL_act_61 : decode cL_act 61 = .ok (.ifCond .ne 8, 3) := by decide +kernel
theorem dL_act_64 : decode cL_act 64 = .ok (.bipush 21, 2) := by decide +kernel
theorem dL_act_66 : decode cL_act 66 = .ok (.goto 5, 3) := by decide +kernel
theorem dL_act_69 : decode cL_act 69 = .ok (.bipush 8, 2) := by decide +kernel
theorem dL_act_71 : decode cL_act 71 = .ok (.invokestatic 15, 3) := by decide +kernel
theorem dL_act_74 : decode cL_act 74 = .ok (.iastore, 1) := by decide +kernel
theorem dL_act_75 : decode cL_act 75 = .ok (.dup, 1) := by decide +kernel
theorem dL_act_76 : decode cL_act 76 = .ok (.iconst 3, 1) := by decide +kernel
theorem dL_act_77 : decode cL_act 77 = .ok (.iconst 1, 1) := by decide +kernel
theorem dL_act_78 : decode cL_act 78 = .ok (.iload_n 2, 1) := by decide +kernel
theorem dL_act_79 : decode cL_act 79 = .ok (.bipush 7, 2) := by decide +kernel
theorem dL_act_81 : decode cL_act 81 = .ok (.ishr, 1) := by decide +kernel
theorem dL_act_82 : decode cL_act 82 = .ok (.iconst 5, 1) := by decide +kernel
theorem dL_act_83 : decode cL_act 83 = .ok (.invokestatic 15, 3) := by decide +kernel
theorem dL_act_86 : decode cL_act 86 = .ok (.iadd, 1) := by decide +kernel
theorem dL_act_87 : decode cL_act 87 = .ok (.iastore, 1) := by decide +kernel
theorem dL_act_88 : decode cL_act 88 = .ok (.dup, 1) := by decide +kernel
theorem dL_act_89 : decode cL_act 89 = .ok (.iconst 4, 1) := by decide +kernel
theorem dL_act_90 : decode cL_act 90 = .ok (.iload_n 2, 1) := by decide +kernel
theorem dL_act_91 : decode cL_act 91 = .ok (.iconst 3, 1) := by decide +kernel
theorem dL_act_92 : decode cL_act 92 = .ok (.ishr, 1) := by decide +kernel
theorem dL_act_93 : decode cL_act 93 = .ok (.bipush 41, 2) := by decide +kernel
theorem dL_act_95 : decode cL_act 95 = .ok (.invokestatic 15, 3) := by decide +kernel
theorem dL_act_98 : decode cL_act 98 = .ok (.iastore, 1) := by decide +kernel
theorem dL_act_99 : decode cL_act 99 = .ok (.astore 5, 2) := by decide +kernel
theorem dL_act_101 : decode cL_act 101 = .ok (.iload_n 3, 1) := by decide +kernel
theorem dL_act_102 : decode cL_act 102 = .ok (.bipush 12, 2) := by decide +kernel
theorem dL_act_104 : decode cL_act 104 = .ok (.if_icmp .eq 18, 3) := by decide +kernel
theorem dL_act_107 : decode cL_act 107 = .ok (.aload_n 1, 1) := by decide +kernel
theorem dL_act_108 : decode cL_act 108 = .ok (.aload 5, 2) := by decide +kernel
theorem dL_act_110 : decode cL_act 110 = .ok (.iconst 4, 1) := by decide +kernel
theorem dL_act_111 : decode cL_act 111 = .ok (.iaload, 1) := by decide +kernel
theorem dL_act_112 : decode cL_act 112 = .ok (.invokevirtual 21, 3) := by decide +kernel
theorem dL_act_115 : decode cL_act 115 = .ok (.aload_n 1, 1) := by decide +kernel
theorem dL_act_116 : decode cL_act 116 = .ok (.getfield 25, 3) := by decide +kernel
theorem dL_act_119 : decode cL_act 119 = .ok (.if_icmp .lt 5, 3) := by decide +kernel
theorem dL_act_122 : decode cL_act 122 = .ok (.iconst 1, 1) := by decide +kernel
theorem dL_act_123 : decode cL_act 123 = .ok (.ireturn, 1) := by decide +kernel
theorem dL_act_124 : decode cL_act 124 = .ok (.aload_n 1, 1) := by decide +kernel
theorem dL_act_125 : decode cL_act 125 = .ok (.aload 5, 2) := by decide +kernel
theorem dL_act_127 : decode cL_act 127 = .ok (.invokevirtual 29, 3) := by decide +kernel
theorem dL_act_130 : decode cL_act 130 = .ok (.aload_n 0, 1) := by decide +kernel
theorem dL_act_131 : decode cL_act 131 = .ok (.aload 5, 2) := by decide +kernel
theorem dL_act_133 : decode cL_act 133 = .ok (.iconst 0, 1) := by decide +kernel
theorem dL_act_134 : decode cL_act 134 = .ok (.iaload, 1) := by decide +kernel
theorem dL_act_135 : decode cL_act 135 = .ok (.aload 5, 2) := by decide +kernel
theorem dL_act_137 : decode cL_act 137 = .ok (.iconst 1, 1) := by decide +kernel
theorem dL_act_138 : decode cL_act 138 = .ok (.iaload, 1) := by decide +kernel
theorem dL_act_139 : decode cL_act 139 = .ok (.aload 5, 2) := by decide +kernel
theorem dL_act_141 : decode cL_act 141 = .ok (.iconst 2, 1) := by decide +kernel
theorem dL_act_142 : decode cL_act 142 = .ok (.iaload, 1) := by decide +kernel
theorem dL_act_143 : decode cL_act 143 = .ok (.aload 5, 2) := by decide +kernel
theorem dL_act_145 : decode cL_act 145 = .ok (.iconst 3, 1) := by decide +kernel
theorem dL_act_146 : decode cL_act 146 = .ok (.iaload, 1) := by decide +kernel
theorem dL_act_147 : decode cL_act 147 = .ok (.invokevirtual 33, 3) := by decide +kernel
theorem dL_act_150 : decode cL_act 150 = .ok (.iload_n 3, 1) := by decide +kernel
theorem dL_act_151 : decode cL_act 151 = .ok (.if_icmp .ne 7, 3) := by decide +kernel
theorem dL_act_154 : decode cL_act 154 = .ok (.iconst 1, 1) := by decide +kernel
theorem dL_act_155 : decode cL_act 155 = .ok (.goto 4, 3) := by decide +kernel
theorem dL_act_158 : decode cL_act 158 = .ok (.iconst 0, 1) := by decide +kernel
theorem dL_act_159 : decode cL_act 159 = .ok (.ireturn, 1) := by decide +kernel
theorem dL_act_160 : decode cL_act 160 = .ok (.iload_n 2, 1) := by decide +kernel
theorem dL_act_161 : decode cL_act 161 = .ok (.iconst 1, 1) := by decide +kernel
theorem dL_act_162 : decode cL_act 162 = .ok (.ishr, 1) := by decide +kernel
theorem dL_act_163 : decode cL_act 163 = .ok (.iload_n 3, 1) := by decide +kernel
theorem dL_act_164 : decode cL_act 164 = .ok (.invokestatic 15, 3) := by decide +kernel
theorem dL_act_167 : decode cL_act 167 = .ok (.istore 5, 2) := by decide +kernel
theorem dL_act_169 : decode cL_act 169 = .ok (.aload_n 1, 1) := by decide +kernel
theorem dL_act_170 : decode cL_act 170 = .ok (.getfield 9, 3) := by decide +kernel
theorem dL_act_173 : decode cL_act 173 = .ok (.iload 5, 2) := by decide +kernel
theorem dL_act_175 : decode cL_act 175 = .ok (.aaload, 1) := by decide +kernel
theorem dL_act_176 : decode cL_act 176 = .ok (.astore 6, 2) := by decide +kernel
theorem dL_act_178 : decode cL_act 178 = .ok (.iload 4, 2) := by decide +kernel
theorem dL_act_180 : decode cL_act 180 = .ok (.tableswitch 314 4 10 #[44, 83, 83, 122, 122, 122, 263], 44) := by decide +kernel
theorem dL_act_224 : decode cL_act 224 = .ok (.iload_n 2, 1) := by decide +kernel
theorem dL_act_225 : decode cL_act 225 = .ok (.iconst 2, 1) := by decide +kernel
theorem dL_act_226 : decode cL_act 226 = .ok (.invokestatic 15, 3) := by decide +kernel
theorem dL_act_229 : decode cL_act 229 = .ok (.ifCond .ne 5, 3) := by decide +kernel
theorem dL_act_232 : decode cL_act 232 = .ok (.iconst 1, 1) := by decide +kernel
theorem dL_act_233 : decode cL_act 233 = .ok (.ireturn, 1) := by decide +kernel
theorem dL_act_234 : decode cL_act 234 = .ok (.aload 6, 2) := by decide +kernel
theorem dL_act_236 : decode cL_act 236 = .ok (.iconst 4, 1) := by decide +kernel
theorem dL_act_237 : decode cL_act 237 = .ok (.iaload, 1) := by decide +kernel
theorem dL_act_238 : decode cL_act 238 = .ok (.istore 7, 2) := by decide +kernel
theorem dL_act_240 : decode cL_act 240 = .ok (.aload_n 1, 1) := by decide +kernel
theorem dL_act_241 : decode cL_act 241 = .ok (.iload 5, 2) := by decide +kernel
theorem dL_act_243 : decode cL_act 243 = .ok (.invokevirtual 39, 3) := by decide +kernel
theorem dL_act_246 : decode cL_act 246 = .ok (.aload_n 0, 1) := by decide +kernel
theorem dL_act_247 : decode cL_act 247 = .ok (.iload 5, 2) := by decide +kernel
theorem dL_act_249 : decode cL_act 249 = .ok (.invokevirtual 43, 3) := by decide +kernel
theorem dL_act_252 : decode cL_act 252 = .ok (.iload 7, 2) := by decide +kernel
theorem dL_act_254 : decode cL_act 254 = .ok (.if_icmp .ne 7, 3) := by decide +kernel
theorem dL_act_257 : decode cL_act 257 = .ok (.iconst 1, 1) := by decide +kernel
theorem dL_act_258 : decode cL_act 258 = .ok (.goto 4, 3) := by decide +kernel
theorem dL_act_261 : decode cL_act 261 = .ok (.iconst 0, 1) := by decide +kernel
theorem dL_act_262 : decode cL_act 262 = .ok (.ireturn, 1) := by decide +kernel
theorem dL_act_263 : decode cL_act 263 = .ok (.aload 6, 2) := by decide +kernel
theorem dL_act_265 : decode cL_act 265 = .ok (.iconst 1, 1) := by decide +kernel
theorem dL_act_266 : decode cL_act 266 = .ok (.iaload, 1) := by decide +kernel
theorem dL_act_267 : decode cL_act 267 = .ok (.istore 8, 2) := by decide +kernel
theorem dL_act_269 : decode cL_act 269 = .ok (.aload 6, 2) := by decide +kernel
theorem dL_act_271 : decode cL_act 271 = .ok (.iconst 1, 1) := by decide +kernel
theorem dL_act_272 : decode cL_act 272 = .ok (.iload_n 2, 1) := by decide +kernel
theorem dL_act_273 : decode cL_act 273 = .ok (.iconst 3, 1) := by decide +kernel
theorem dL_act_274 : decode cL_act 274 = .ok (.ishr, 1) := by decide +kernel
theorem dL_act_275 : decode cL_act 275 = .ok (.bipush 41, 2) := by decide +kernel
theorem dL_act_277 : decode cL_act 277 = .ok (.invokestatic 15, 3) := by decide +kernel
theorem dL_act_280 : decode cL_act 280 = .ok (.iastore, 1) := by decide +kernel
theorem dL_act_281 : decode cL_act 281 = .ok (.aload_n 0, 1) := by decide +kernel
theorem dL_act_282 : decode cL_act 282 = .ok (.iload 5, 2) := by decide +kernel
theorem dL_act_284 : decode cL_act 284 = .ok (.aload 6, 2) := by decide +kernel
theorem dL_act_286 : decode cL_act 286 = .ok (.iconst 1, 1) := by decide +kernel
theorem dL_act_287 : decode cL_act 287 = .ok (.iaload, 1) := by decide +kernel
theorem dL_act_288 : decode cL_act 288 = .ok (.invokevirtual 46, 3) := by decide +kernel
theorem dL_act_291 : decode cL_act 291 = .ok (.iload 8, 2) := by decide +kernel
theorem dL_act_293 : decode cL_act 293 = .ok (.if_icmp .ne 7, 3) := by decide +kernel
theorem dL_act_296 : decode cL_act 296 = .ok (.iconst 1, 1) := by decide +kernel
theorem dL_act_297 : decode cL_act 297 = .ok (.goto 4, 3) := by decide +kernel
theorem dL_act_300 : decode cL_act 300 = .ok (.iconst 0, 1) := by decide +kernel
theorem dL_act_301 : decode cL_act 301 = .ok (.ireturn, 1) := by decide +kernel
theorem dL_act_302 : decode cL_act 302 = .ok (.iconst 0, 1) := by decide +kernel
theorem dL_act_303 : decode cL_act 303 = .ok (.bipush 40, 2) := by decide +kernel
theorem dL_act_305 : decode cL_act 305 = .ok (.aload 6, 2) := by decide +kernel
theorem dL_act_307 : decode cL_act 307 = .ok (.iconst 1, 1) := by decide +kernel
theorem dL_act_308 : decode cL_act 308 = .ok (.iaload, 1) := by decide +kernel
theorem dL_act_309 : decode cL_act 309 = .ok (.iload_n 2, 1) := by decide +kernel
theorem dL_act_310 : decode cL_act 310 = .ok (.iconst 3, 1) := by decide +kernel
theorem dL_act_311 : decode cL_act 311 = .ok (.ishr, 1) := by decide +kernel
theorem dL_act_312 : decode cL_act 312 = .ok (.bipush 17, 2) := by decide +kernel
theorem dL_act_314 : decode cL_act 314 = .ok (.invokestatic 15, 3) := by decide +kernel
theorem dL_act_317 : decode cL_act 317 = .ok (.iadd, 1) := by decide +kernel
theorem dL_act_318 : decode cL_act 318 = .ok (.bipush 8, 2) := by decide +kernel
theorem dL_act_320 : decode cL_act 320 = .ok (.isub, 1) := by decide +kernel
theorem dL_act_321 : decode cL_act 321 = .ok (.invokestatic 49, 3) := by decide +kernel
theorem dL_act_324 : decode cL_act 324 = .ok (.invokestatic 54, 3) := by decide +kernel
theorem dL_act_327 : decode cL_act 327 = .ok (.istore 9, 2) := by decide +kernel
theorem dL_act_329 : decode cL_act 329 = .ok (.iload 9, 2) := by decide +kernel
theorem dL_act_331 : decode cL_act 331 = .ok (.aload 6, 2) := by decide +kernel
theorem dL_act_333 : decode cL_act 333 = .ok (.iconst 1, 1) := by decide +kernel
theorem dL_act_334 : decode cL_act 334 = .ok (.iaload, 1) := by decide +kernel
theorem dL_act_335 : decode cL_act 335 = .ok (.isub, 1) := by decide +kernel
theorem dL_act_336 : decode cL_act 336 = .ok (.invokestatic 57, 3) := by decide +kernel
theorem dL_act_339 : decode cL_act 339 = .ok (.aload 6, 2) := by decide +kernel
theorem dL_act_341 : decode cL_act 341 = .ok (.iconst 2, 1) := by decide +kernel
theorem dL_act_342 : decode cL_act 342 = .ok (.iaload, 1) := by decide +kernel
theorem dL_act_343 : decode cL_act 343 = .ok (.if_icmp .gt 29, 3) := by decide +kernel
theorem dL_act_346 : decode cL_act 346 = .ok (.iload 9, 2) := by decide +kernel
theorem dL_act_348 : decode cL_act 348 = .ok (.aload 6, 2) := by decide +kernel
theorem dL_act_350 : decode cL_act 350 = .ok (.iconst 4, 1) := by decide +kernel
theorem dL_act_351 : decode cL_act 351 = .ok (.iaload, 1) := by decide +kernel
theorem dL_act_352 : decode cL_act 352 = .ok (.if_icmp .eq 16, 3) := by decide +kernel
theorem dL_act_355 : decode cL_act 355 = .ok (.aload_n 1, 1) := by decide +kernel
theorem dL_act_356 : decode cL_act 356 = .ok (.iload 9, 2) := by decide +kernel
theorem dL_act_358 : decode cL_act 358 = .ok (.invokevirtual 21, 3) := by decide +kernel
theorem dL_act_361 : decode cL_act 361 = .ok (.aload_n 1, 1) := by decide +kernel
theorem dL_act_362 : decode cL_act 362 = .ok (.getfield 25, 3) := by decide +kernel
theorem dL_act_365 : decode cL_act 365 = .ok (.if_icmp .ge 7, 3) := by decide +kernel
theorem dL_act_368 : decode cL_act 368 = .ok (.iconst 1, 1) := by decide +kernel
theorem dL_act_369 : decode cL_act 369 = .ok (.goto 4, 3) := by decide +kernel
theorem dL_act_372 : decode cL_act 372 = .ok (.iconst 0, 1) := by decide +kernel
theorem dL_act_373 : decode cL_act 373 = .ok (.istore 10, 2) := by decide +kernel
theorem dL_act_375 : decode cL_act 375 = .ok (.aload_n 0, 1) := by decide +kernel
theorem dL_act_376 : decode cL_act 376 = .ok (.iload 5, 2) := by decide +kernel
theorem dL_act_378 : decode cL_act 378 = .ok (.iload 9, 2) := by decide +kernel
theorem dL_act_380 : decode cL_act 380 = .ok (.invokevirtual 60, 3) := by decide +kernel
theorem dL_act_383 : decode cL_act 383 = .ok (.iload 10, 2) := by decide +kernel
theorem dL_act_385 : decode cL_act 385 = .ok (.if_icmp .ne 8, 3) := by decide +kernel
theorem dL_act_388 : decode cL_act 388 = .ok (.iload 10, 2) := by decide +kernel
theorem dL_act_390 : decode cL_act 390 = .ok (.ifCond .ne 22, 3) := by decide +kernel
theorem dL_act_393 : decode cL_act 393 = .ok (.aload_n 0, 1) := by decide +kernel
theorem dL_act_394 : decode cL_act 394 = .ok (.iload 5, 2) := by decide +kernel
theorem dL_act_396 : decode cL_act 396 = .ok (.iload 9, 2) := by decide +kernel
theorem dL_act_398 : decode cL_act 398 = .ok (.invokevirtual 60, 3) := by decide +kernel
theorem dL_act_401 : decode cL_act 401 = .ok (.iload 10, 2) := by decide +kernel
theorem dL_act_403 : decode cL_act 403 = .ok (.if_icmp .ne 7, 3) := by decide +kernel
theorem dL_act_406 : decode cL_act 406 = .ok (.iconst 1, 1) := by decide +kernel
theorem dL_act_407 : decode cL_act 407 = .ok (.goto 4, 3) := by decide +kernel
theorem dL_act_410 : decode cL_act 410 = .ok (.iconst 0, 1) := by decide +kernel
theorem dL_act_411 : decode cL_act 411 = .ok (.ireturn, 1) := by decide +kernel
theorem dL_act_412 : decode cL_act 412 = .ok (.aload 6, 2) := by decide +kernel
theorem dL_act_414 : decode cL_act 414 = .ok (.iconst 4, 1) := by decide +kernel
theorem dL_act_415 : decode cL_act 415 = .ok (.iaload, 1) := by decide +kernel
theorem dL_act_416 : decode cL_act 416 = .ok (.istore 11, 2) := by decide +kernel
theorem dL_act_418 : decode cL_act 418 = .ok (.aload 6, 2) := by decide +kernel
theorem dL_act_420 : decode cL_act 420 = .ok (.iconst 4, 1) := by decide +kernel
theorem dL_act_421 : decode cL_act 421 = .ok (.iload 9, 2) := by decide +kernel
theorem dL_act_423 : decode cL_act 423 = .ok (.iastore, 1) := by decide +kernel
theorem dL_act_424 : decode cL_act 424 = .ok (.aload_n 0, 1) := by decide +kernel
theorem dL_act_425 : decode cL_act 425 = .ok (.iload 5, 2) := by decide +kernel
theorem dL_act_427 : decode cL_act 427 = .ok (.iload 9, 2) := by decide +kernel
theorem dL_act_429 : decode cL_act 429 = .ok (.invokevirtual 64, 3) := by decide +kernel
theorem dL_act_432 : decode cL_act 432 = .ok (.iload 11, 2) := by decide +kernel
theorem dL_act_434 : decode cL_act 434 = .ok (.if_icmp .ne 7, 3) := by decide +kernel
theorem dL_act_437 : decode cL_act 437 = .ok (.iconst 1, 1) := by decide +kernel
theorem dL_act_438 : decode cL_act 438 = .ok (.goto 4, 3) := by decide +kernel
theorem dL_act_441 : decode cL_act 441 = .ok (.iconst 0, 1) := by decide +kernel
theorem dL_act_442 : decode cL_act 442 = .ok (.ireturn, 1) := by decide +kernel
theorem dL_act_443 : decode cL_act 443 = .ok (.aload_n 1, 1) := by decide +kernel
theorem dL_act_444 : decode cL_act 444 = .ok (.getfield 25, 3) := by decide +kernel
theorem dL_act_447 : decode cL_act 447 = .ok (.istore 12, 2) := by decide +kernel
theorem dL_act_449 : decode cL_act 449 = .ok (.aload_n 1, 1) := by decide +kernel
theorem dL_act_450 : decode cL_act 450 = .ok (.iconst 1, 1) := by decide +kernel
theorem dL_act_451 : decode cL_act 451 = .ok (.iload_n 2, 1) := by decide +kernel
theorem dL_act_452 : decode cL_act 452 = .ok (.iconst 3, 1) := by decide +kernel
theorem dL_act_453 : decode cL_act 453 = .ok (.ishr, 1) := by decide +kernel
theorem dL_act_454 : decode cL_act 454 = .ok (.iload_n 2, 1) := by decide +kernel
theorem dL_act_455 : decode cL_act 455 = .ok (.iconst 2, 1) := by decide +kernel
theorem dL_act_456 : decode cL_act 456 = .ok (.invokestatic 15, 3) := by decide +kernel
theorem dL_act_459 : decode cL_act 459 = .ok (.ifCond .ne 8, 3) := by decide +kernel
theorem dL_act_462 : decode cL_act 462 = .ok (.bipush 12, 2) := by decide +kernel
theorem dL_act_464 : decode cL_act 464 = .ok (.goto 4, 3) := by decide +kernel
theorem dL_act_467 : decode cL_act 467 = .ok (.iconst 3, 1) := by decide +kernel
theorem dL_act_468 : decode cL_act 468 = .ok (.invokestatic 15, 3) := by decide +kernel
theorem dL_act_471 : decode cL_act 471 = .ok (.iadd, 1) := by decide +kernel
theorem dL_act_472 : decode cL_act 472 = .ok (.putfield 25, 3) := by decide +kernel
theorem dL_act_475 : decode cL_act 475 = .ok (.aload_n 0, 1) := by decide +kernel
theorem dL_act_476 : decode cL_act 476 = .ok (.aload_n 1, 1) := by decide +kernel
theorem dL_act_477 : decode cL_act 477 = .ok (.getfield 25, 3) := by decide +kernel
theorem dL_act_480 : decode cL_act 480 = .ok (.invokevirtual 67, 3) := by decide +kernel
theorem dL_act_483 : decode cL_act 483 = .ok (.iload 12, 2) := by decide +kernel
theorem dL_act_485 : decode cL_act 485 = .ok (.if_icmp .ne 7, 3) := by decide +kernel
theorem dL_act_488 : decode cL_act 488 = .ok (.iconst 1, 1) := by decide +kernel
theorem dL_act_489 : decode cL_act 489 = .ok (.goto 4, 3) := by decide +kernel
theorem dL_act_492 : decode cL_act 492 = .ok (.iconst 0, 1) := by decide +kernel
theorem dL_act_493 : decode cL_act 493 = .ok (.ireturn, 1) := by decide +kernel
theorem dL_act_494 : decode cL_act 494 = .ok (.iconst 1, 1) := by decide +kernel
theorem dL_act_495 : decode cL_act 495 = .ok (.iload_n 2, 1) := by decide +kernel
theorem dL_act_496 : decode cL_act 496 = .ok (.iconst 2, 1) := by decide +kernel
theorem dL_act_497 : decode cL_act 497 = .ok (.ishr, 1) := by decide +kernel
theorem dL_act_498 : decode cL_act 498 = .ok (.iload_n 2, 1) := by decide +kernel
theorem dL_act_499 : decode cL_act 499 = .ok (.bipush 6, 2) := by decide +kernel
theorem dL_act_501 : decode cL_act 501 = .ok (.invokestatic 15, 3) := by decide +kernel
theorem dL_act_504 : decode cL_act 504 = .ok (.ifCond .ne 8, 3) := by decide +kernel
theorem dL_act_507 : decode cL_act 507 = .ok (.bipush 50, 2) := by decide +kernel
theorem dL_act_509 : decode cL_act 509 = .ok (.goto 4, 3) := by decide +kernel
theorem dL_act_512 : decode cL_act 512 = .ok (.iconst 3, 1) := by decide +kernel
theorem dL_act_513 : decode cL_act 513 = .ok (.invokestatic 15, 3) := by decide +kernel
theorem dL_act_516 : decode cL_act 516 = .ok (.iadd, 1) := by decide +kernel
theorem dL_act_517 : decode cL_act 517 = .ok (.istore 13, 2) := by decide +kernel
theorem dL_act_519 : decode cL_act 519 = .ok (.aload_n 0, 1) := by decide +kernel
theorem dL_act_520 : decode cL_act 520 = .ok (.iload 13, 2) := by decide +kernel
theorem dL_act_522 : decode cL_act 522 = .ok (.invokevirtual 70, 3) := by decide +kernel
theorem dL_act_525 : decode cL_act 525 = .ok (.aload_n 1, 1) := by decide +kernel
theorem dL_act_526 : decode cL_act 526 = .ok (.iload 13, 2) := by decide +kernel
theorem dL_act_528 : decode cL_act 528 = .ok (.invokevirtual 73, 3) := by decide +kernel
theorem dL_act_531 : decode cL_act 531 = .ok (.if_icmp .ne 7, 3) := by decide +kernel
theorem dL_act_534 : decode cL_act 534 = .ok (.iconst 1, 1) := by decide +kernel
theorem dL_act_535 : decode cL_act 535 = .ok (.goto 4, 3) := by decide +kernel
theorem dL_act_538 : decode cL_act 538 = .ok (.iconst 0, 1) := by decide +kernel
theorem dL_act_539 : decode cL_act 539 = .ok (.ireturn, 1) := by decide +kernel
theorem dL_build_0 : decode cL_build 0 = .ok (.new 10, 3) := by decide +kernel
theorem dL_build_3 : decode cL_build 3 = .ok (.dup, 1) := by decide +kernel
theorem dL_build_4 : decode cL_build 4 = .ok (.invokespecial 76, 3) := by decide +kernel
theorem dL_build_7 : decode cL_build 7 = .ok (.astore_n 2, 1) := by decide +kernel
theorem dL_build_8 : decode cL_build 8 = .ok (.bipush 8, 2) := by decide +kernel
theorem dL_build_10 : decode cL_build 10 = .ok (.aload_n 1, 1) := by decide +kernel
theorem dL_build_11 : decode cL_build 11 = .ok (.iconst 0, 1) := by decide +kernel
theorem dL_build_12 : decode cL_build 12 = .ok (.invokestatic 77, 3) := by decide +kernel
theorem dL_build_15 : decode cL_build 15 = .ok (.bipush 30, 2) := by decide +kernel
theorem dL_build_17 : decode cL_build 17 = .ok (.invokestatic 15, 3) := by decide +kernel
theorem dL_build_20 : decode cL_build 20 = .ok (.iadd, 1) := by decide +kernel
theorem dL_build_21 : decode cL_build 21 = .ok (.istore_n 3, 1) := by decide +kernel
theorem dL_build_22 : decode cL_build 22 = .ok (.iconst 0, 1) := by decide +kernel
theorem dL_build_23 : decode cL_build 23 = .ok (.istore 4, 2) := by decide +kernel
theorem dL_build_25 : decode cL_build 25 = .ok (.iload 4, 2) := by decide +kernel
theorem dL_build_27 : decode cL_build 27 = .ok (.iload_n 3, 1) := by decide +kernel
theorem dL_build_28 : decode cL_build 28 = .ok (.if_icmp .ge 43, 3) := by decide +kernel
theorem dL_build_31 : decode cL_build 31 = .ok (.aload_n 0, 1) := by decide +kernel
theorem dL_build_32 : decode cL_build 32 = .ok (.aload_n 2, 1) := by decide +kernel
theorem dL_build_33 : decode cL_build 33 = .ok (.aload_n 1, 1) := by decide +kernel
theorem dL_build_34 : decode cL_build 34 = .ok (.iload 4, 2) := by decide +kernel
theorem dL_build_36 : decode cL_build 36 = .ok (.bipush 16, 2) := by decide +kernel
theorem dL_build_38 : decode cL_build 38 = .ok (.irem, 1) := by decide +kernel
theorem dL_build_39 : decode cL_build 39 = .ok (.invokestatic 77, 3) := by decide +kernel
theorem dL_build_42 : decode cL_build 42 = .ok (.iload 4, 2) := by decide +kernel
theorem dL_build_44 : decode cL_build 44 = .ok (.bipush 16, 2) := by decide +kernel
theorem dL_build_46 : decode cL_build 46 = .ok (.idiv, 1) := by decide +kernel
theorem dL_build_47 : decode cL_build 47 = .ok (.iconst 3, 1) := by decide +kernel
theorem dL_build_48 : decode cL_build 48 = .ok (.imul, 1) := by decide +kernel
theorem dL_build_49 : decode cL_build 49 = .ok (.ishr, 1) := by decide +kernel
theorem dL_build_50 : decode cL_build 50 = .ok (.sipush 619, 3) := by decide +kernel
theorem dL_build_53 : decode cL_build 53 = .ok (.iload 4, 2) := by decide +kernel
theorem dL_build_55 : decode cL_build 55 = .ok (.imul, 1) := by decide +kernel
theorem dL_build_56 : decode cL_build 56 = .ok (.iadd, 1) := by decide +kernel
theorem dL_build_57 : decode cL_build 57 = .ok (.invokestatic 81, 3) := by decide +kernel
theorem dL_build_60 : decode cL_build 60 = .ok (.ifCond .ne 5, 3) := by decide +kernel
theorem dL_build_63 : decode cL_build 63 = .ok (.aconst_null, 1) := by decide +kernel
theorem dL_build_64 : decode cL_build 64 = .ok (.areturn, 1) := by decide +kernel
theorem dL_build_65 : decode cL_build 65 = .ok (.iinc 4 1, 3) := by decide +kernel
theorem dL_build_68 : decode cL_build 68 = .ok (.goto (-43), 3) := by decide +kernel
theorem dL_build_71 : decode cL_build 71 = .ok (.aload_n 2, 1) := by decide +kernel
theorem dL_build_72 : decode cL_build 72 = .ok (.areturn, 1) := by decide +kernel
theorem dL_law_0 : decode cL_law 0 = .ok (.new 34, 3) := by decide +kernel
theorem dL_law_3 : decode cL_law 3 = .ok (.dup, 1) := by decide +kernel
theorem dL_law_4 : decode cL_law 4 = .ok (.invokespecial 85, 3) := by decide +kernel
theorem dL_law_7 : decode cL_law 7 = .ok (.astore_n 1, 1) := by decide +kernel
theorem dL_law_8 : decode cL_law 8 = .ok (.aload_n 1, 1) := by decide +kernel
theorem dL_law_9 : decode cL_law 9 = .ok (.aload_n 0, 1) := by decide +kernel
theorem dL_law_10 : decode cL_law 10 = .ok (.invokestatic 86, 3) := by decide +kernel
theorem dL_law_13 : decode cL_law 13 = .ok (.astore_n 2, 1) := by decide +kernel
theorem dL_law_14 : decode cL_law 14 = .ok (.aload_n 2, 1) := by decide +kernel
theorem dL_law_15 : decode cL_law 15 = .ok (.ifnonnull 5, 3) := by decide +kernel
theorem dL_law_18 : decode cL_law 18 = .ok (.iconst 0, 1) := by decide +kernel
theorem dL_law_19 : decode cL_law 19 = .ok (.ireturn, 1) := by decide +kernel
theorem dL_law_20 : decode cL_law 20 = .ok (.iconst 0, 1) := by decide +kernel
theorem dL_law_21 : decode cL_law 21 = .ok (.istore_n 3, 1) := by decide +kernel
theorem dL_law_22 : decode cL_law 22 = .ok (.iload_n 3, 1) := by decide +kernel
theorem dL_law_23 : decode cL_law 23 = .ok (.bipush 32, 2) := by decide +kernel
theorem dL_law_25 : decode cL_law 25 = .ok (.if_icmp .ge 871, 3) := by decide +kernel
theorem dL_law_28 : decode cL_law 28 = .ok (.aload_n 0, 1) := by decide +kernel
theorem dL_law_29 : decode cL_law 29 = .ok (.iload_n 3, 1) := by decide +kernel
theorem dL_law_30 : decode cL_law 30 = .ok (.bipush 16, 2) := by decide +kernel
theorem dL_law_32 : decode cL_law 32 = .ok (.irem, 1) := by decide +kernel
theorem dL_law_33 : decode cL_law 33 = .ok (.invokestatic 77, 3) := by decide +kernel
theorem dL_law_36 : decode cL_law 36 = .ok (.iload_n 3, 1) := by decide +kernel
theorem dL_law_37 : decode cL_law 37 = .ok (.bipush 16, 2) := by decide +kernel
theorem dL_law_39 : decode cL_law 39 = .ok (.idiv, 1) := by decide +kernel
theorem dL_law_40 : decode cL_law 40 = .ok (.iconst 3, 1) := by decide +kernel
theorem dL_law_41 : decode cL_law 41 = .ok (.imul, 1) := by decide +kernel
theorem dL_law_42 : decode cL_law 42 = .ok (.ishr, 1) := by decide +kernel
theorem dL_law_43 : decode cL_law 43 = .ok (.sipush 619, 3) := by decide +kernel
theorem dL_law_46 : decode cL_law 46 = .ok (.iload_n 3, 1) := by decide +kernel
theorem dL_law_47 : decode cL_law 47 = .ok (.imul, 1) := by decide +kernel
theorem dL_law_48 : decode cL_law 48 = .ok (.iadd, 1) := by decide +kernel
theorem dL_law_49 : decode cL_law 49 = .ok (.istore 4, 2) := by decide +kernel
theorem dL_law_51 : decode cL_law 51 = .ok (.aload_n 1, 1) := by decide +kernel
theorem dL_law_52 : decode cL_law 52 = .ok (.aload_n 2, 1) := by decide +kernel
theorem dL_law_53 : decode cL_law 53 = .ok (.iload 4, 2) := by decide +kernel
theorem dL_law_55 : decode cL_law 55 = .ok (.invokestatic 81, 3) := by decide +kernel
theorem dL_law_58 : decode cL_law 58 = .ok (.ifCond .ne 5, 3) := by decide +kernel
theorem dL_law_61 : decode cL_law 61 = .ok (.iconst 0, 1) := by decide +kernel
theorem dL_law_62 : decode cL_law 62 = .ok (.ireturn, 1) := by decide +kernel
theorem dL_law_63 : decode cL_law 63 = .ok (.aload_n 1, 1) := by decide +kernel
theorem dL_law_64 : decode cL_law 64 = .ok (.invokevirtual 90, 3) := by decide +kernel
theorem dL_law_67 : decode cL_law 67 = .ok (.istore 5, 2) := by decide +kernel
theorem dL_law_69 : decode cL_law 69 = .ok (.iconst 0, 1) := by decide +kernel
theorem dL_law_70 : decode cL_law 70 = .ok (.istore 6, 2) := by decide +kernel
theorem dL_law_72 : decode cL_law 72 = .ok (.iconst 0, 1) := by decide +kernel
theorem dL_law_73 : decode cL_law 73 = .ok (.istore 7, 2) := by decide +kernel
theorem dL_law_75 : decode cL_law 75 = .ok (.iload 7, 2) := by decide +kernel
theorem dL_law_77 : decode cL_law 77 = .ok (.bipush 41, 2) := by decide +kernel
theorem dL_law_79 : decode cL_law 79 = .ok (.if_icmp .ge 20, 3) := by decide +kernel
theorem dL_law_82 : decode cL_law 82 = .ok (.iload 6, 2) := by decide +kernel
theorem dL_law_84 : decode cL_law 84 = .ok (.aload_n 1, 1) := by decide +kernel
theorem dL_law_85 : decode cL_law 85 = .ok (.iload 7, 2) := by decide +kernel
theorem dL_law_87 : decode cL_law 87 = .ok (.invokevirtual 93, 3) := by decide +kernel
theorem dL_law_90 : decode cL_law 90 = .ok (.iadd, 1) := by decide +kernel
theorem dL_law_91 : decode cL_law 91 = .ok (.istore 6, 2) := by decide +kernel
theorem dL_law_93 : decode cL_law 93 = .ok (.iinc 7 1, 3) := by decide +kernel
theorem dL_law_96 : decode cL_law 96 = .ok (.goto (-21), 3) := by decide +kernel
theorem dL_law_99 : decode cL_law 99 = .ok (.iload 6, 2) := by decide +kernel
theorem dL_law_101 : decode cL_law 101 = .ok (.iload 5, 2) := by decide +kernel
theorem dL_law_103 : decode cL_law 103 = .ok (.if_icmp .ne 27, 3) := by decide +kernel
theorem dL_law_106 : decode cL_law 106 = .ok (.iload 5, 2) := by decide +kernel
theorem dL_law_108 : decode cL_law 108 = .ok (.bipush 12, 2) := by decide +kernel
theorem dL_law_110 : decode cL_law 110 = .ok (.if_icmp .gt 20, 3) := by decide +kernel
theorem dL_law_113 : decode cL_law 113 = .ok (.aload_n 1, 1) := by decide +kernel
theorem dL_law_114 : decode cL_law 114 = .ok (.invokevirtual 96, 3) := by decide +kernel
theorem dL_law_117 : decode cL_law 117 = .ok (.iconst 1, 1) := by decide +kernel
theorem dL_law_118 : decode cL_law 118 = .ok (.if_icmp .lt 12, 3) := by decide +kernel
theorem dL_law_121 : decode cL_law 121 = .ok (.aload_n 1, 1) := by decide +kernel
theorem dL_law_122 : decode cL_law 122 = .ok (.invokevirtual 96, 3) := by decide +kernel
theorem dL_law_125 : decode cL_law 125 = .ok (.bipush 12, 2) := by decide +kernel
theorem dL_law_127 : decode cL_law 127 = .ok (.if_icmp .le 5, 3) := by decide +kernel
theorem dL_law_130 : decode cL_law 130 = .ok (.iconst 0, 1) := by decide +kernel
theorem dL_law_131 : decode cL_law 131 = .ok (.ireturn, 1) := by decide +kernel
theorem dL_law_132 : decode cL_law 132 = .ok (.iload 5, 2) := by decide +kernel
theorem dL_law_134 : decode cL_law 134 = .ok (.ifCond .ne 6, 3) := by decide +kernel
theorem dL_law_137 : decode cL_law 137 = .ok (.goto 753, 3) := by decide +kernel
theorem dL_law_140 : decode cL_law 140 = .ok (.aload_n 1, 1) := by decide +kernel
theorem dL_law_141 : decode cL_law 141 = .ok (.invokevirtual 98, 3) := by decide +kernel
theorem dL_law_144 : decode cL_law 144 = .ok (.istore 7, 2) := by decide +kernel
theorem dL_law_146 : decode cL_law 146 = .ok (.bipush 40, 2) := by decide +kernel
theorem dL_law_148 : decode cL_law 148 = .ok (.istore 8, 2) := by decide +kernel
theorem dL_law_150 : decode cL_law 150 = .ok (.iconst 0, 1) := by decide +kernel
theorem dL_law_151 : decode cL_law 151 = .ok (.istore 9, 2) := by decide +kernel
theorem dL_law_153 : decode cL_law 153 = .ok (.iconst 0, 1) := by decide +kernel
theorem dL_law_154 : decode cL_law 154 = .ok (.istore 10, 2) := by decide +kernel
theorem dL_law_156 : decode cL_law 156 = .ok (.iconst 0, 1) := by decide +kernel
theorem dL_law_157 : decode cL_law 157 = .ok (.istore 11, 2) := by decide +kernel
theorem dL_law_159 : decode cL_law 159 = .ok (.iconst 0, 1) := by decide +kernel
theorem dL_law_160 : decode cL_law 160 = .ok (.istore 12, 2) := by decide +kernel
theorem dL_law_162 : decode cL_law 162 = .ok (.iload 5, 2) := by decide +kernel
theorem dL_law_164 : decode cL_law 164 = .ok (.newarray .int, 2) := by decide +kernel
theorem dL_law_166 : decode cL_law 166 = .ok (.astore 13, 2) := by decide +kernel
theorem dL_law_168 : decode cL_law 168 = .ok (.iconst 0, 1) := by decide +kernel
theorem dL_law_169 : decode cL_law 169 = .ok (.istore 14, 2) := by decide +kernel
theorem dL_law_171 : decode cL_law 171 = .ok (.iload 14, 2) := by decide +kernel
theorem dL_law_173 : decode cL_law 173 = .ok (.iload 5, 2) := by decide +kernel
theorem dL_law_175 : decode cL_law 175 = .ok (.if_icmp .ge 131, 3) := by decide +kernel
theorem dL_law_178 : decode cL_law 178 = .ok (.aload 13, 2) := by decide +kernel
theorem dL_law_180 : decode cL_law 180 = .ok (.iload 14, 2) := by decide +kernel
theorem dL_law_182 : decode cL_law 182 = .ok (.aload_n 1, 1) := by decide +kernel
theorem dL_law_183 : decode cL_law 183 = .ok (.iload 14, 2) := by decide +kernel
theorem dL_law_185 : decode cL_law 185 = .ok (.invokevirtual 101, 3) := by decide +kernel
theorem dL_law_188 : decode cL_law 188 = .ok (.iastore, 1) := by decide +kernel
theorem dL_law_189 : decode cL_law 189 = .ok (.iload 8, 2) := by decide +kernel
theorem dL_law_191 : decode cL_law 191 = .ok (.aload 13, 2) := by decide +kernel
theorem dL_law_193 : decode cL_law 193 = .ok (.iload 14, 2) := by decide +kernel
theorem dL_law_195 : decode cL_law 195 = .ok (.iaload, 1) := by decide +kernel
theorem dL_law_196 : decode cL_law 196 = .ok (.invokestatic 49, 3) := by decide +kernel
theorem dL_law_199 : decode cL_law 199 = .ok (.istore 8, 2) := by decide +kernel
theorem dL_law_201 : decode cL_law 201 = .ok (.iload 9, 2) := by decide +kernel
theorem dL_law_203 : decode cL_law 203 = .ok (.aload 13, 2) := by decide +kernel
theorem dL_law_205 : decode cL_law 205 = .ok (.iload 14, 2) := by decide +kernel
theorem dL_law_207 : decode cL_law 207 = .ok (.iaload, 1) := by decide +kernel
theorem dL_law_208 : decode cL_law 208 = .ok (.invokestatic 54, 3) := by decide +kernel
theorem dL_law_211 : decode cL_law 211 = .ok (.istore 9, 2) := by decide +kernel
theorem dL_law_213 : decode cL_law 213 = .ok (.iload 10, 2) := by decide +kernel
theorem dL_law_215 : decode cL_law 215 = .ok (.aload 13, 2) := by decide +kernel
theorem dL_law_217 : decode cL_law 217 = .ok (.iload 14, 2) := by decide +kernel
theorem dL_law_219 : decode cL_law 219 = .ok (.iaload, 1) := by decide +kernel
theorem dL_law_220 : decode cL_law 220 = .ok (.iload 7, 2) := by decide +kernel
theorem dL_law_222 : decode cL_law 222 = .ok (.if_icmp .ge 7, 3) := by decide +kernel
theorem dL_law_225 : decode cL_law 225 = .ok (.iconst 1, 1) := by decide +kernel
theorem dL_law_226 : decode cL_law 226 = .ok (.goto 4, 3) := by decide +kernel
theorem dL_law_229 : decode cL_law 229 = .ok (.iconst 0, 1) := by decide +kernel
theorem dL_law_230 : decode cL_law 230 = .ok (.iadd, 1) := by decide +kernel
theorem dL_law_231 : decode cL_law 231 = .ok (.istore 10, 2) := by decide +kernel
theorem dL_law_233 : decode cL_law 233 = .ok (.iload 11, 2) := by decide +kernel
theorem dL_law_235 : decode cL_law 235 = .ok (.aload 13, 2) := by decide +kernel
theorem dL_law_237 : decode cL_law 237 = .ok (.iload 14, 2) := by decide +kernel
theorem dL_law_239 : decode cL_law 239 = .ok (.iaload, 1) := by decide +kernel
theorem dL_law_240 : decode cL_law 240 = .ok (.iload 7, 2) := by decide +kernel
theorem dL_law_242 : decode cL_law 242 = .ok (.if_icmp .le 7, 3) := by decide +kernel
theorem dL_law_245 : decode cL_law 245 = .ok (.iconst 1, 1) := by decide +kernel
theorem dL_law_246 : decode cL_law 246 = .ok (.goto 4, 3) := by decide +kernel
theorem dL_law_249 : decode cL_law 249 = .ok (.iconst 0, 1) := by decide +kernel
theorem dL_law_250 : decode cL_law 250 = .ok (.iadd, 1) := by decide +kernel
theorem dL_law_251 : decode cL_law 251 = .ok (.istore 11, 2) := by decide +kernel
theorem dL_law_253 : decode cL_law 253 = .ok (.iload 12, 2) := by decide +kernel
theorem dL_law_255 : decode cL_law 255 = .ok (.aload_n 1, 1) := by decide +kernel
theorem dL_law_256 : decode cL_law 256 = .ok (.iload 14, 2) := by decide +kernel
theorem dL_law_258 : decode cL_law 258 = .ok (.invokevirtual 104, 3) := by decide +kernel
theorem dL_law_261 : decode cL_law 261 = .ok (.iadd, 1) := by decide +kernel
theorem dL_law_262 : decode cL_law 262 = .ok (.istore 12, 2) := by decide +kernel
theorem dL_law_264 : decode cL_law 264 = .ok (.aload_n 1, 1) := by decide +kernel
theorem dL_law_265 : decode cL_law 265 = .ok (.iload 14, 2) := by decide +kernel
theorem dL_law_267 : decode cL_law 267 = .ok (.invokevirtual 104, 3) := by decide +kernel
theorem dL_law_270 : decode cL_law 270 = .ok (.aload_n 1, 1) := by decide +kernel
theorem dL_law_271 : decode cL_law 271 = .ok (.iload 14, 2) := by decide +kernel
theorem dL_law_273 : decode cL_law 273 = .ok (.invokevirtual 107, 3) := by decide +kernel
theorem dL_law_276 : decode cL_law 276 = .ok (.iload 7, 2) := by decide +kernel
theorem dL_law_278 : decode cL_law 278 = .ok (.isub, 1) := by decide +kernel
theorem dL_law_279 : decode cL_law 279 = .ok (.invokestatic 57, 3) := by decide +kernel
theorem dL_law_282 : decode cL_law 282 = .ok (.if_icmp .ne 16, 3) := by decide +kernel
theorem dL_law_285 : decode cL_law 285 = .ok (.aload_n 1, 1) := by decide +kernel
theorem dL_law_286 : decode cL_law 286 = .ok (.aload 13, 2) := by decide +kernel
theorem dL_law_288 : decode cL_law 288 = .ok (.iload 14, 2) := by decide +kernel
theorem dL_law_290 : decode cL_law 290 = .ok (.iaload, 1) := by decide +kernel
theorem dL_law_291 : decode cL_law 291 = .ok (.invokevirtual 93, 3) := by decide +kernel
theorem dL_law_294 : decode cL_law 294 = .ok (.iconst 1, 1) := by decide +kernel
theorem dL_law_295 : decode cL_law 295 = .ok (.if_icmp .ge 5, 3) := by decide +kernel
theorem dL_law_298 : decode cL_law 298 = .ok (.iconst 0, 1) := by decide +kernel
theorem dL_law_299 : decode cL_law 299 = .ok (.ireturn, 1) := by decide +kernel
theorem dL_law_300 : decode cL_law 300 = .ok (.iinc 14 1, 3) := by decide +kernel
theorem dL_law_303 : decode cL_law 303 = .ok (.goto (-132), 3) := by decide +kernel
theorem dL_law_306 : decode cL_law 306 = .ok (.iconst 2, 1) := by decide +kernel
theorem dL_law_307 : decode cL_law 307 = .ok (.iload 10, 2) := by decide +kernel
theorem dL_law_309 : decode cL_law 309 = .ok (.imul, 1) := by decide +kernel
theorem dL_law_310 : decode cL_law 310 = .ok (.iload 5, 2) := by decide +kernel
theorem dL_law_312 : decode cL_law 312 = .ok (.if_icmp .ge 70, 3) := by decide +kernel
theorem dL_law_315 : decode cL_law 315 = .ok (.iconst 2, 1) := by decide +kernel
theorem dL_law_316 : decode cL_law 316 = .ok (.iload 11, 2) := by decide +kernel
theorem dL_law_318 : decode cL_law 318 = .ok (.imul, 1) := by decide +kernel
theorem dL_law_319 : decode cL_law 319 = .ok (.iload 5, 2) := by decide +kernel
theorem dL_law_321 : decode cL_law 321 = .ok (.if_icmp .gt 61, 3) := by decide +kernel
theorem dL_law_324 : decode cL_law 324 = .ok (.aload_n 1, 1) := by decide +kernel
theorem dL_law_325 : decode cL_law 325 = .ok (.iload 7, 2) := by decide +kernel
theorem dL_law_327 : decode cL_law 327 = .ok (.invokevirtual 93, 3) := by decide +kernel
theorem dL_law_330 : decode cL_law 330 = .ok (.iconst 1, 1) := by decide +kernel
theorem dL_law_331 : decode cL_law 331 = .ok (.if_icmp .lt 51, 3) := by decide +kernel
theorem dL_law_334 : decode cL_law 334 = .ok (.aload_n 1, 1) := by decide +kernel
theorem dL_law_335 : decode cL_law 335 = .ok (.aload_n 1, 1) := by decide +kernel
theorem dL_law_336 : decode cL_law 336 = .ok (.invokevirtual 110, 3) := by decide +kernel
theorem dL_law_339 : decode cL_law 339 = .ok (.invokevirtual 101, 3) := by decide +kernel
theorem dL_law_342 : decode cL_law 342 = .ok (.iload 7, 2) := by decide +kernel
theorem dL_law_344 : decode cL_law 344 = .ok (.if_icmp .ne 38, 3) := by decide +kernel
theorem dL_law_347 : decode cL_law 347 = .ok (.aload_n 1, 1) := by decide +kernel
theorem dL_law_348 : decode cL_law 348 = .ok (.invokevirtual 113, 3) := by decide +kernel
theorem dL_law_351 : decode cL_law 351 = .ok (.iload 9, 2) := by decide +kernel
theorem dL_law_353 : decode cL_law 353 = .ok (.iload 8, 2) := by decide +kernel
theorem dL_law_355 : decode cL_law 355 = .ok (.isub, 1) := by decide +kernel
theorem dL_law_356 : decode cL_law 356 = .ok (.if_icmp .ne 26, 3) := by decide +kernel
theorem dL_law_359 : decode cL_law 359 = .ok (.aload_n 1, 1) := by decide +kernel
theorem dL_law_360 : decode cL_law 360 = .ok (.invokevirtual 116, 3) := by decide +kernel
theorem dL_law_363 : decode cL_law 363 = .ok (.iload 12, 2) := by decide +kernel
theorem dL_law_365 : decode cL_law 365 = .ok (.if_icmp .ne 17, 3) := by decide +kernel
theorem dL_law_368 : decode cL_law 368 = .ok (.iload 7, 2) := by decide +kernel
theorem dL_law_370 : decode cL_law 370 = .ok (.iload 8, 2) := by decide +kernel
theorem dL_law_372 : decode cL_law 372 = .ok (.if_icmp .lt 10, 3) := by decide +kernel
theorem dL_law_375 : decode cL_law 375 = .ok (.iload 7, 2) := by decide +kernel
theorem dL_law_377 : decode cL_law 377 = .ok (.iload 9, 2) := by decide +kernel
theorem dL_law_379 : decode cL_law 379 = .ok (.if_icmp .le 5, 3) := by decide +kernel
theorem dL_law_382 : decode cL_law 382 = .ok (.iconst 0, 1) := by decide +kernel
theorem dL_law_383 : decode cL_law 383 = .ok (.ireturn, 1) := by decide +kernel
theorem dL_law_384 : decode cL_law 384 = .ok (.aload_n 1, 1) := by decide +kernel
theorem dL_law_385 : decode cL_law 385 = .ok (.invokevirtual 119, 3) := by decide +kernel
theorem dL_law_388 : decode cL_law 388 = .ok (.istore 14, 2) := by decide +kernel
theorem dL_law_390 : decode cL_law 390 = .ok (.iconst 0, 1) := by decide +kernel
theorem dL_law_391 : decode cL_law 391 = .ok (.istore 15, 2) := by decide +kernel
theorem dL_law_393 : decode cL_law 393 = .ok (.iconst 0, 1) := by decide +kernel
theorem dL_law_394 : decode cL_law 394 = .ok (.istore 16, 2) := by decide +kernel
theorem dL_law_396 : decode cL_law 396 = .ok (.iload 16, 2) := by decide +kernel
theorem dL_law_398 : decode cL_law 398 = .ok (.iload 5, 2) := by decide +kernel
theorem dL_law_400 : decode cL_law 400 = .ok (.if_icmp .ge 26, 3) := by decide +kernel
theorem dL_law_403 : decode cL_law 403 = .ok (.iload 15, 2) := by decide +kernel
theorem dL_law_405 : decode cL_law 405 = .ok (.aload_n 1, 1) := by decide +kernel
theorem dL_law_406 : decode cL_law 406 = .ok (.iload 16, 2) := by decide +kernel
theorem dL_law_408 : decode cL_law 408 = .ok (.invokevirtual 107, 3) := by decide +kernel
theorem dL_law_411 : decode cL_law 411 = .ok (.iload 14, 2) := by decide +kernel
theorem dL_law_413 : decode cL_law 413 = .ok (.isub, 1) := by decide +kernel
theorem dL_law_414 : decode cL_law 414 = .ok (.invokestatic 57, 3) := by decide +kernel
theorem dL_law_417 : decode cL_law 417 = .ok (.iadd, 1) := by decide +kernel
theorem dL_law_418 : decode cL_law 418 = .ok (.istore 15, 2) := by decide +kernel
theorem dL_law_420 : decode cL_law 420 = .ok (.iinc 16 1, 3) := by decide +kernel
theorem dL_law_423 : decode cL_law 423 = .ok (.goto (-27), 3) := by decide +kernel
theorem dL_law_426 : decode cL_law 426 = .ok (.iload 4, 2) := by decide +kernel
theorem dL_law_428 : decode cL_law 428 = .ok (.iconst 2, 1) := by decide +kernel
theorem dL_law_429 : decode cL_law 429 = .ok (.ishr, 1) := by decide +kernel
theorem dL_law_430 : decode cL_law 430 = .ok (.bipush 41, 2) := by decide +kernel
theorem dL_law_432 : decode cL_law 432 = .ok (.invokestatic 15, 3) := by decide +kernel
theorem dL_law_435 : decode cL_law 435 = .ok (.istore 16, 2) := by decide +kernel
theorem dL_law_437 : decode cL_law 437 = .ok (.iload 16, 2) := by decide +kernel
theorem dL_law_439 : decode cL_law 439 = .ok (.iconst 1, 1) := by decide +kernel
theorem dL_law_440 : decode cL_law 440 = .ok (.iadd, 1) := by decide +kernel
theorem dL_law_441 : decode cL_law 441 = .ok (.iload 4, 2) := by decide +kernel
theorem dL_law_443 : decode cL_law 443 = .ok (.iconst 5, 1) := by decide +kernel
theorem dL_law_444 : decode cL_law 444 = .ok (.ishr, 1) := by decide +kernel
theorem dL_law_445 : decode cL_law 445 = .ok (.bipush 40, 2) := by decide +kernel
theorem dL_law_447 : decode cL_law 447 = .ok (.invokestatic 15, 3) := by decide +kernel
theorem dL_law_450 : decode cL_law 450 = .ok (.iadd, 1) := by decide +kernel
theorem dL_law_451 : decode cL_law 451 = .ok (.bipush 41, 2) := by decide +kernel
theorem dL_law_453 : decode cL_law 453 = .ok (.irem, 1) := by decide +kernel
theorem dL_law_454 : decode cL_law 454 = .ok (.istore 17, 2) := by decide +kernel
theorem dL_law_456 : decode cL_law 456 = .ok (.iconst 0, 1) := by decide +kernel
theorem dL_law_457 : decode cL_law 457 = .ok (.istore 18, 2) := by decide +kernel
theorem dL_law_459 : decode cL_law 459 = .ok (.iconst 0, 1) := by decide +kernel
theorem dL_law_460 : decode cL_law 460 = .ok (.istore 19, 2) := by decide +kernel
theorem dL_law_462 : decode cL_law 462 = .ok (.iload 19, 2) := by decide +kernel
theorem dL_law_464 : decode cL_law 464 = .ok (.iload 5, 2) := by decide +kernel
theorem dL_law_466 : decode cL_law 466 = .ok (.if_icmp .ge 26, 3) := by decide +kernel
theorem dL_law_469 : decode cL_law 469 = .ok (.iload 18, 2) := by decide +kernel
theorem dL_law_471 : decode cL_law 471 = .ok (.aload_n 1, 1) := by decide +kernel
theorem dL_law_472 : decode cL_law 472 = .ok (.iload 19, 2) := by decide +kernel
theorem dL_law_474 : decode cL_law 474 = .ok (.invokevirtual 107, 3) := by decide +kernel
theorem dL_law_477 : decode cL_law 477 = .ok (.iload 16, 2) := by decide +kernel
theorem dL_law_479 : decode cL_law 479 = .ok (.isub, 1) := by decide +kernel
theorem dL_law_480 : decode cL_law 480 = .ok (.invokestatic 57, 3) := by decide +kernel
theorem dL_law_483 : decode cL_law 483 = .ok (.iadd, 1) := by decide +kernel
theorem dL_law_484 : decode cL_law 484 = .ok (.istore 18, 2) := by decide +kernel
theorem dL_law_486 : decode cL_law 486 = .ok (.iinc 19 1, 3) := by decide +kernel
theorem dL_law_489 : decode cL_law 489 = .ok (.goto (-27), 3) := by decide +kernel
theorem dL_law_492 : decode cL_law 492 = .ok (.aload_n 1, 1) := by decide +kernel
theorem dL_law_493 : decode cL_law 493 = .ok (.iload 16, 2) := by decide +kernel
theorem dL_law_495 : decode cL_law 495 = .ok (.iload 17, 2) := by decide +kernel
theorem dL_law_497 : decode cL_law 497 = .ok (.invokevirtual 122, 3) := by decide +kernel
theorem dL_law_500 : decode cL_law 500 = .ok (.istore 19, 2) := by decide +kernel
theorem dL_law_502 : decode cL_law 502 = .ok (.aload_n 1, 1) := by decide +kernel
theorem dL_law_503 : decode cL_law 503 = .ok (.iload 17, 2) := by decide +kernel
theorem dL_law_505 : decode cL_law 505 = .ok (.iload 16, 2) := by decide +kernel
theorem dL_law_507 : decode cL_law 507 = .ok (.invokevirtual 122, 3) := by decide +kernel
theorem dL_law_510 : decode cL_law 510 = .ok (.istore 20, 2) := by decide +kernel
theorem dL_law_512 : decode cL_law 512 = .ok (.aload_n 1, 1) := by decide +kernel
theorem dL_law_513 : decode cL_law 513 = .ok (.iload 16, 2) := by decide +kernel
theorem dL_law_515 : decode cL_law 515 = .ok (.iload 17, 2) := by decide +kernel
theorem dL_law_517 : decode cL_law 517 = .ok (.invokevirtual 125, 3) := by decide +kernel
theorem dL_law_520 : decode cL_law 520 = .ok (.istore 21, 2) := by decide +kernel
theorem dL_law_522 : decode cL_law 522 = .ok (.iload 18, 2) := by decide +kernel
theorem dL_law_524 : decode cL_law 524 = .ok (.iload 15, 2) := by decide +kernel
theorem dL_law_526 : decode cL_law 526 = .ok (.if_icmp .lt 80, 3) := by decide +kernel
theorem dL_law_529 : decode cL_law 529 = .ok (.iload 18, 2) := by decide +kernel
theorem dL_law_531 : decode cL_law 531 = .ok (.iload 15, 2) := by decide +kernel
theorem dL_law_533 : decode cL_law 533 = .ok (.if_icmp .ne 10, 3) := by decide +kernel
theorem dL_law_536 : decode cL_law 536 = .ok (.iload 16, 2) := by decide +kernel
theorem dL_law_538 : decode cL_law 538 = .ok (.iload 14, 2) := by decide +kernel
theorem dL_law_540 : decode cL_law 540 = .ok (.if_icmp .lt 66, 3) := by decide +kernel
theorem dL_law_543 : decode cL_law 543 = .ok (.iload 12, 2) := by decide +kernel
theorem dL_law_545 : decode cL_law 545 = .ok (.iload 15, 2) := by decide +kernel
theorem dL_law_547 : decode cL_law 547 = .ok (.if_icmp .lt 59, 3) := by decide +kernel
theorem dL_law_550 : decode cL_law 550 = .ok (.iload 19, 2) := by decide +kernel
theorem dL_law_552 : decode cL_law 552 = .ok (.ifCond .lt 54, 3) := by decide +kernel
theorem dL_law_555 : decode cL_law 555 = .ok (.iload 20, 2) := by decide +kernel
theorem dL_law_557 : decode cL_law 557 = .ok (.ifCond .lt 49, 3) := by decide +kernel
theorem dL_law_560 : decode cL_law 560 = .ok (.iload 19, 2) := by decide +kernel
theorem dL_law_562 : decode cL_law 562 = .ok (.iload 20, 2) := by decide +kernel
theorem dL_law_564 : decode cL_law 564 = .ok (.iadd, 1) := by decide +kernel
theorem dL_law_565 : decode cL_law 565 = .ok (.iload 5, 2) := by decide +kernel
theorem dL_law_567 : decode cL_law 567 = .ok (.if_icmp .gt 39, 3) := by decide +kernel
theorem dL_law_570 : decode cL_law 570 = .ok (.iload 21, 2) := by decide +kernel
theorem dL_law_572 : decode cL_law 572 = .ok (.iload 19, 2) := by decide +kernel
theorem dL_law_574 : decode cL_law 574 = .ok (.iload 20, 2) := by decide +kernel
theorem dL_law_576 : decode cL_law 576 = .ok (.if_icmp .le 8, 3) := by decide +kernel
theorem dL_law_579 : decode cL_law 579 = .ok (.iload 16, 2) := by decide +kernel
theorem dL_law_581 : decode cL_law 581 = .ok (.goto 22, 3) := by decide +kernel
theorem dL_law_584 : decode cL_law 584 = .ok (.iload 19, 2) := by decide +kernel
theorem dL_law_586 : decode cL_law 586 = .ok (.iload 20, 2) := by decide +kernel
theorem dL_law_588 : decode cL_law 588 = .ok (.if_icmp .ge 8, 3) := by decide +kernel
theorem dL_law_591 : decode cL_law 591 = .ok (.iload 17, 2) := by decide +kernel
theorem dL_law_593 : decode cL_law 593 = .ok (.goto 10, 3) := by decide +kernel
theorem dL_law_596 : decode cL_law 596 = .ok (.iload 16, 2) := by decide +kernel
theorem dL_law_598 : decode cL_law 598 = .ok (.iload 17, 2) := by decide +kernel
theorem dL_law_600 : decode cL_law 600 = .ok (.invokestatic 49, 3) := by decide +kernel
theorem dL_law_603 : decode cL_law 603 = .ok (.if_icmp .eq 5, 3) := by decide +kernel
theorem dL_law_606 : decode cL_law 606 = .ok (.iconst 0, 1) := by decide +kernel
theorem dL_law_607 : decode cL_law 607 = .ok (.ireturn, 1) := by decide +kernel
theorem dL_law_608 : decode cL_law 608 = .ok (.iload 5, 2) := by decide +kernel
theorem dL_law_610 : decode cL_law 610 = .ok (.newarray .int, 2) := by decide +kernel
theorem dL_law_612 : decode cL_law 612 = .ok (.astore 22, 2) := by decide +kernel
theorem dL_law_614 : decode cL_law 614 = .ok (.iconst 0, 1) := by decide +kernel
theorem dL_law_615 : decode cL_law 615 = .ok (.istore 23, 2) := by decide +kernel
theorem dL_law_617 : decode cL_law 617 = .ok (.iload 23, 2) := by decide +kernel
theorem dL_law_619 : decode cL_law 619 = .ok (.iload 5, 2) := by decide +kernel
theorem dL_law_621 : decode cL_law 621 = .ok (.if_icmp .ge 20, 3) := by decide +kernel
theorem dL_law_624 : decode cL_law 624 = .ok (.aload 22, 2) := by decide +kernel
theorem dL_law_626 : decode cL_law 626 = .ok (.iload 23, 2) := by decide +kernel
theorem dL_law_628 : decode cL_law 628 = .ok (.aload_n 1, 1) := by decide +kernel
theorem dL_law_629 : decode cL_law 629 = .ok (.iload 23, 2) := by decide +kernel
theorem dL_law_631 : decode cL_law 631 = .ok (.invokevirtual 128, 3) := by decide +kernel
theorem dL_law_634 : decode cL_law 634 = .ok (.iastore, 1) := by decide +kernel
theorem dL_law_635 : decode cL_law 635 = .ok (.iinc 23 1, 3) := by decide +kernel
theorem dL_law_638 : decode cL_law 638 = .ok (.goto (-21), 3) := by decide +kernel
theorem dL_law_641 : decode cL_law 641 = .ok (.aload_n 1, 1) := by decide +kernel
theorem dL_law_642 : decode cL_law 642 = .ok (.iconst 1, 1) := by decide +kernel
theorem dL_law_643 : decode cL_law 643 = .ok (.invokevirtual 70, 3) := by decide +kernel
theorem dL_law_646 : decode cL_law 646 = .ok (.istore 23, 2) := by decide +kernel
theorem dL_law_648 : decode cL_law 648 = .ok (.aload_n 2, 1) := by decide +kernel
theorem dL_law_649 : decode cL_law 649 = .ok (.invokevirtual 131, 3) := by decide +kernel
theorem dL_law_652 : decode cL_law 652 = .ok (.pop, 1) := by decide +kernel
theorem dL_law_653 : decode cL_law 653 = .ok (.iconst 0, 1) := by decide +kernel
theorem dL_law_654 : decode cL_law 654 = .ok (.istore 24, 2) := by decide +kernel
theorem dL_law_656 : decode cL_law 656 = .ok (.iconst 0, 1) := by decide +kernel
theorem dL_law_657 : decode cL_law 657 = .ok (.istore 25, 2) := by decide +kernel
theorem dL_law_659 : decode cL_law 659 = .ok (.iload 25, 2) := by decide +kernel
theorem dL_law_661 : decode cL_law 661 = .ok (.iload 5, 2) := by decide +kernel
theorem dL_law_663 : decode cL_law 663 = .ok (.if_icmp .ge 218, 3) := by decide +kernel
theorem dL_law_666 : decode cL_law 666 = .ok (.aload_n 1, 1) := by decide +kernel
theorem dL_law_667 : decode cL_law 667 = .ok (.iload 25, 2) := by decide +kernel
theorem dL_law_669 : decode cL_law 669 = .ok (.invokevirtual 101, 3) := by decide +kernel
theorem dL_law_672 : decode cL_law 672 = .ok (.istore 26, 2) := by decide +kernel
theorem dL_law_674 : decode cL_law 674 = .ok (.iload 26, 2) := by decide +kernel
theorem dL_law_676 : decode cL_law 676 = .ok (.aload 13, 2) := by decide +kernel
theorem dL_law_678 : decode cL_law 678 = .ok (.iload 25, 2) := by decide +kernel
theorem dL_law_680 : decode cL_law 680 = .ok (.iaload, 1) := by decide +kernel
theorem dL_law_681 : decode cL_law 681 = .ok (.if_icmp .eq 7, 3) := by decide +kernel
theorem dL_law_684 : decode cL_law 684 = .ok (.iconst 1, 1) := by decide +kernel
theorem dL_law_685 : decode cL_law 685 = .ok (.goto 4, 3) := by decide +kernel
theorem dL_law_688 : decode cL_law 688 = .ok (.iconst 0, 1) := by decide +kernel
theorem dL_law_689 : decode cL_law 689 = .ok (.istore 27, 2) := by decide +kernel
theorem dL_law_691 : decode cL_law 691 = .ok (.iload 24, 2) := by decide +kernel
theorem dL_law_693 : decode cL_law 693 = .ok (.iload 27, 2) := by decide +kernel
theorem dL_law_695 : decode cL_law 695 = .ok (.ifCond .eq 7, 3) := by decide +kernel
theorem dL_law_698 : decode cL_law 698 = .ok (.iconst 1, 1) := by decide +kernel
theorem dL_law_699 : decode cL_law 699 = .ok (.goto 4, 3) := by decide +kernel
theorem dL_law_702 : decode cL_law 702 = .ok (.iconst 0, 1) := by decide +kernel
theorem dL_law_703 : decode cL_law 703 = .ok (.iadd, 1) := by decide +kernel
theorem dL_law_704 : decode cL_law 704 = .ok (.istore 24, 2) := by decide +kernel
theorem dL_law_706 : decode cL_law 706 = .ok (.aload_n 1, 1) := by decide +kernel
theorem dL_law_707 : decode cL_law 707 = .ok (.iload 25, 2) := by decide +kernel
theorem dL_law_709 : decode cL_law 709 = .ok (.invokevirtual 107, 3) := by decide +kernel
theorem dL_law_712 : decode cL_law 712 = .ok (.istore 28, 2) := by decide +kernel
theorem dL_law_714 : decode cL_law 714 = .ok (.aload_n 1, 1) := by decide +kernel
theorem dL_law_715 : decode cL_law 715 = .ok (.iload 25, 2) := by decide +kernel
theorem dL_law_717 : decode cL_law 717 = .ok (.invokevirtual 134, 3) := by decide +kernel
theorem dL_law_720 : decode cL_law 720 = .ok (.istore 29, 2) := by decide +kernel
theorem dL_law_722 : decode cL_law 722 = .ok (.iload 27, 2) := by decide +kernel
theorem dL_law_724 : decode cL_law 724 = .ok (.ifCond .eq 35, 3) := by decide +kernel
theorem dL_law_727 : decode cL_law 727 = .ok (.iload 26, 2) := by decide +kernel
theorem dL_law_729 : decode cL_law 729 = .ok (.aload 22, 2) := by decide +kernel
theorem dL_law_731 : decode cL_law 731 = .ok (.iload 25, 2) := by decide +kernel
theorem dL_law_733 : decode cL_law 733 = .ok (.iaload, 1) := by decide +kernel
theorem dL_law_734 : decode cL_law 734 = .ok (.if_icmp .ne 23, 3) := by decide +kernel
theorem dL_law_737 : decode cL_law 737 = .ok (.iload 26, 2) := by decide +kernel
theorem dL_law_739 : decode cL_law 739 = .ok (.aload 13, 2) := by decide +kernel
theorem dL_law_741 : decode cL_law 741 = .ok (.iload 25, 2) := by decide +kernel
theorem dL_law_743 : decode cL_law 743 = .ok (.iaload, 1) := by decide +kernel
theorem dL_law_744 : decode cL_law 744 = .ok (.isub, 1) := by decide +kernel
theorem dL_law_745 : decode cL_law 745 = .ok (.invokestatic 57, 3) := by decide +kernel
theorem dL_law_748 : decode cL_law 748 = .ok (.aload_n 1, 1) := by decide +kernel
theorem dL_law_749 : decode cL_law 749 = .ok (.iload 25, 2) := by decide +kernel
theorem dL_law_751 : decode cL_law 751 = .ok (.invokevirtual 137, 3) := by decide +kernel
theorem dL_law_754 : decode cL_law 754 = .ok (.if_icmp .le 5, 3) := by decide +kernel
theorem dL_law_757 : decode cL_law 757 = .ok (.iconst 0, 1) := by decide +kernel
theorem dL_law_758 : decode cL_law 758 = .ok (.ireturn, 1) := by decide +kernel
theorem dL_law_759 : decode cL_law 759 = .ok (.aload 13, 2) := by decide +kernel
theorem dL_law_761 : decode cL_law 761 = .ok (.iload 25, 2) := by decide +kernel
theorem dL_law_763 : decode cL_law 763 = .ok (.iaload, 1) := by decide +kernel
theorem dL_law_764 : decode cL_law 764 = .ok (.iload 28, 2) := by decide +kernel
theorem dL_law_766 : decode cL_law 766 = .ok (.isub, 1) := by decide +kernel
theorem dL_law_767 : decode cL_law 767 = .ok (.invokestatic 57, 3) := by decide +kernel
theorem dL_law_770 : decode cL_law 770 = .ok (.iload 29, 2) := by decide +kernel
theorem dL_law_772 : decode cL_law 772 = .ok (.if_icmp .gt 18, 3) := by decide +kernel
theorem dL_law_775 : decode cL_law 775 = .ok (.iload 26, 2) := by decide +kernel
theorem dL_law_777 : decode cL_law 777 = .ok (.iload 28, 2) := by decide +kernel
theorem dL_law_779 : decode cL_law 779 = .ok (.isub, 1) := by decide +kernel
theorem dL_law_780 : decode cL_law 780 = .ok (.invokestatic 57, 3) := by decide +kernel
theorem dL_law_783 : decode cL_law 783 = .ok (.iload 29, 2) := by decide +kernel
theorem dL_law_785 : decode cL_law 785 = .ok (.if_icmp .le 5, 3) := by decide +kernel
theorem dL_law_788 : decode cL_law 788 = .ok (.iconst 0, 1) := by decide +kernel
theorem dL_law_789 : decode cL_law 789 = .ok (.ireturn, 1) := by decide +kernel
theorem dL_law_790 : decode cL_law 790 = .ok (.aload 13, 2) := by decide +kernel
theorem dL_law_792 : decode cL_law 792 = .ok (.iload 25, 2) := by decide +kernel
theorem dL_law_794 : decode cL_law 794 = .ok (.iaload, 1) := by decide +kernel
theorem dL_law_795 : decode cL_law 795 = .ok (.iload 28, 2) := by decide +kernel
theorem dL_law_797 : decode cL_law 797 = .ok (.isub, 1) := by decide +kernel
theorem dL_law_798 : decode cL_law 798 = .ok (.invokestatic 57, 3) := by decide +kernel
theorem dL_law_801 : decode cL_law 801 = .ok (.iload 29, 2) := by decide +kernel
theorem dL_law_803 : decode cL_law 803 = .ok (.if_icmp .le 27, 3) := by decide +kernel
theorem dL_law_806 : decode cL_law 806 = .ok (.iload 26, 2) := by decide +kernel
theorem dL_law_808 : decode cL_law 808 = .ok (.iload 28, 2) := by decide +kernel
theorem dL_law_810 : decode cL_law 810 = .ok (.isub, 1) := by decide +kernel
theorem dL_law_811 : decode cL_law 811 = .ok (.invokestatic 57, 3) := by decide +kernel
theorem dL_law_814 : decode cL_law 814 = .ok (.aload 13, 2) := by decide +kernel
theorem dL_law_816 : decode cL_law 816 = .ok (.iload 25, 2) := by decide +kernel
theorem dL_law_818 : decode cL_law 818 = .ok (.iaload, 1) := by decide +kernel
theorem dL_law_819 : decode cL_law 819 = .ok (.iload 28, 2) := by decide +kernel
theorem dL_law_821 : decode cL_law 821 = .ok (.isub, 1) := by decide +kernel
theorem dL_law_822 : decode cL_law 822 = .ok (.invokestatic 57, 3) := by decide +kernel
theorem dL_law_825 : decode cL_law 825 = .ok (.if_icmp .le 5, 3) := by decide +kernel
theorem dL_law_828 : decode cL_law 828 = .ok (.iconst 0, 1) := by decide +kernel
theorem dL_law_829 : decode cL_law 829 = .ok (.ireturn, 1) := by decide +kernel
theorem dL_law_830 : decode cL_law 830 = .ok (.iload 27, 2) := by decide +kernel
theorem dL_law_832 : decode cL_law 832 = .ok (.ifCond .eq 43, 3) := by decide +kernel
theorem dL_law_835 : decode cL_law 835 = .ok (.aload 13, 2) := by decide +kernel
theorem dL_law_837 : decode cL_law 837 = .ok (.iload 25, 2) := by decide +kernel
theorem dL_law_839 : decode cL_law 839 = .ok (.iaload, 1) := by decide +kernel
theorem dL_law_840 : decode cL_law 840 = .ok (.iload 28, 2) := by decide +kernel
theorem dL_law_842 : decode cL_law 842 = .ok (.isub, 1) := by decide +kernel
theorem dL_law_843 : decode cL_law 843 = .ok (.invokestatic 57, 3) := by decide +kernel
theorem dL_law_846 : decode cL_law 846 = .ok (.iload 29, 2) := by decide +kernel
theorem dL_law_848 : decode cL_law 848 = .ok (.if_icmp .gt 27, 3) := by decide +kernel
theorem dL_law_851 : decode cL_law 851 = .ok (.iload 26, 2) := by decide +kernel
theorem dL_law_853 : decode cL_law 853 = .ok (.iload 7, 2) := by decide +kernel
theorem dL_law_855 : decode cL_law 855 = .ok (.isub, 1) := by decide +kernel
theorem dL_law_856 : decode cL_law 856 = .ok (.invokestatic 57, 3) := by decide +kernel
theorem dL_law_859 : decode cL_law 859 = .ok (.aload 13, 2) := by decide +kernel
theorem dL_law_861 : decode cL_law 861 = .ok (.iload 25, 2) := by decide +kernel
theorem dL_law_863 : decode cL_law 863 = .ok (.iaload, 1) := by decide +kernel
theorem dL_law_864 : decode cL_law 864 = .ok (.iload 7, 2) := by decide +kernel
theorem dL_law_866 : decode cL_law 866 = .ok (.isub, 1) := by decide +kernel
theorem dL_law_867 : decode cL_law 867 = .ok (.invokestatic 57, 3) := by decide +kernel
theorem dL_law_870 : decode cL_law 870 = .ok (.if_icmp .lt 5, 3) := by decide +kernel
theorem dL_law_873 : decode cL_law 873 = .ok (.iconst 0, 1) := by decide +kernel
theorem dL_law_874 : decode cL_law 874 = .ok (.ireturn, 1) := by decide +kernel
theorem dL_law_875 : decode cL_law 875 = .ok (.iinc 25 1, 3) := by decide +kernel
theorem dL_law_878 : decode cL_law 878 = .ok (.goto (-219), 3) := by decide +kernel
theorem dL_law_881 : decode cL_law 881 = .ok (.iload 24, 2) := by decide +kernel
theorem dL_law_883 : decode cL_law 883 = .ok (.iload 23, 2) := by decide +kernel
theorem dL_law_885 : decode cL_law 885 = .ok (.if_icmp .eq 5, 3) := by decide +kernel
theorem dL_law_888 : decode cL_law 888 = .ok (.iconst 0, 1) := by decide +kernel
theorem dL_law_889 : decode cL_law 889 = .ok (.ireturn, 1) := by decide +kernel
theorem dL_law_890 : decode cL_law 890 = .ok (.iinc 3 1, 3) := by decide +kernel
theorem dL_law_893 : decode cL_law 893 = .ok (.goto (-871), 3) := by decide +kernel
theorem dL_law_896 : decode cL_law 896 = .ok (.aload_n 2, 1) := by decide +kernel
theorem dL_law_897 : decode cL_law 897 = .ok (.aload_n 1, 1) := by decide +kernel
theorem dL_law_898 : decode cL_law 898 = .ok (.invokevirtual 140, 3) := by decide +kernel
theorem dL_law_901 : decode cL_law 901 = .ok (.ireturn, 1) := by decide +kernel
