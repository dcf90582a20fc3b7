theorem dX4_init_0 : decode cX4_init 0 = .ok (.aload_n 0, 1) := by decide +kernel
theorem dX4_init_1 : decode cX4_init 1 = .ok (.invokespecial 1, 3) := by decide +kernel
theorem dX4_init_4 : decode cX4_init 4 = .ok (.aload_n 0, 1) := by decide +kernel
theorem dX4_init_5 : decode cX4_init 5 = .ok (.bipush 6, 2) := by decide +kernel
theorem dX4_init_7 : decode cX4_init 7 = .ok (.newarray .boolean, 2) := by decide +kernel
theorem dX4_init_9 : decode cX4_init 9 = .ok (.putfield 7, 3) := by decide +kernel
theorem dX4_init_12 : decode cX4_init 12 = .ok (.aload_n 0, 1) := by decide +kernel
theorem dX4_init_13 : decode cX4_init 13 = .ok (.bipush 6, 2) := by decide +kernel
theorem dX4_init_15 : decode cX4_init 15 = .ok (.newarray .boolean, 2) := by decide +kernel
theorem dX4_init_17 : decode cX4_init 17 = .ok (.putfield 13, 3) := by decide +kernel
theorem dX4_init_20 : decode cX4_init 20 = .ok (.aload_n 0, 1) := by decide +kernel
theorem dX4_init_21 : decode cX4_init 21 = .ok (.bipush 6, 2) := by decide +kernel
theorem dX4_init_23 : decode cX4_init 23 = .ok (.newarray .int, 2) := by decide +kernel
theorem dX4_init_25 : decode cX4_init 25 = .ok (.putfield 16, 3) := by decide +kernel
theorem dX4_init_28 : decode cX4_init 28 = .ok (.aload_n 0, 1) := by decide +kernel
theorem dX4_init_29 : decode cX4_init 29 = .ok (.bipush 6, 2) := by decide +kernel
theorem dX4_init_31 : decode cX4_init 31 = .ok (.newarray .int, 2) := by decide +kernel
theorem dX4_init_33 : decode cX4_init 33 = .ok (.putfield 20, 3) := by decide +kernel
theorem dX4_init_36 : decode cX4_init 36 = .ok (.aload_n 0, 1) := by decide +kernel
theorem dX4_init_37 : decode cX4_init 37 = .ok (.bipush 6, 2) := by decide +kernel
theorem dX4_init_39 : decode cX4_init 39 = .ok (.newarray .int, 2) := by decide +kernel
theorem dX4_init_41 : decode cX4_init 41 = .ok (.putfield 23, 3) := by decide +kernel
theorem dX4_init_44 : decode cX4_init 44 = .ok (.aload_n 0, 1) := by decide +kernel
theorem dX4_init_45 : decode cX4_init 45 = .ok (.bipush 6, 2) := by decide +kernel
theorem dX4_init_47 : decode cX4_init 47 = .ok (.newarray .int, 2) := by decide +kernel
theorem dX4_init_49 : decode cX4_init 49 = .ok (.putfield 26, 3) := by decide +kernel
theorem dX4_init_52 : decode cX4_init 52 = .ok (.aload_n 0, 1) := by decide +kernel
theorem dX4_init_53 : decode cX4_init 53 = .ok (.bipush 6, 2) := by decide +kernel
theorem dX4_init_55 : decode cX4_init 55 = .ok (.newarray .int, 2) := by decide +kernel
theorem dX4_init_57 : decode cX4_init 57 = .ok (.putfield 29, 3) := by decide +kernel
theorem dX4_init_60 : decode cX4_init 60 = .ok (.aload_n 0, 1) := by decide +kernel
theorem dX4_init_61 : decode cX4_init 61 = .ok (.bipush 6, 2) := by decide +kernel
theorem dX4_init_63 : decode cX4_init 63 = .ok (.newarray .int, 2) := by decide +kernel
theorem dX4_init_65 : decode cX4_init 65 = .ok (.putfield 32, 3) := by decide +kernel
theorem dX4_init_68 : decode cX4_init 68 = .ok (.aload_n 0, 1) := by decide +kernel
theorem dX4_init_69 : decode cX4_init 69 = .ok (.bipush 6, 2) := by decide +kernel
theorem dX4_init_71 : decode cX4_init 71 = .ok (.newarray .int, 2) := by decide +kernel
theorem dX4_init_73 : decode cX4_init 73 = .ok (.putfield 35, 3) := by decide +kernel
theorem dX4_init_76 : decode cX4_init 76 = .ok (.aload_n 0, 1) := by decide +kernel
theorem dX4_init_77 : decode cX4_init 77 = .ok (.bipush 6, 2) := by decide +kernel
theorem dX4_init_79 : decode cX4_init 79 = .ok (.newarray .boolean, 2) := by decide +kernel
theorem dX4_init_81 : decode cX4_init 81 = .ok (.putfield 38, 3) := by decide +kernel
theorem dX4_init_84 : decode cX4_init 84 = .ok (.aload_n 0, 1) := by decide +kernel
theorem dX4_init_85 : decode cX4_init 85 = .ok (.bipush 6, 2) := by decide +kernel
theorem dX4_init_87 : decode cX4_init 87 = .ok (.newarray .boolean, 2) := by decide +kernel
theorem dX4_init_89 : decode cX4_init 89 = .ok (.putfield 41, 3) := by decide +kernel
theorem dX4_init_92 : decode cX4_init 92 = .ok (.aload_n 0, 1) := by decide +kernel
theorem dX4_init_93 : decode cX4_init 93 = .ok (.bipush 6, 2) := by decide +kernel
theorem dX4_init_95 : decode cX4_init 95 = .ok (.newarray .int, 2) := by decide +kernel
theorem dX4_init_97 : decode cX4_init 97 = .ok (.putfield 44, 3) := by decide +kernel
theorem dX4_init_100 : decode cX4_init 100 = .ok (.aload_n 0, 1) := by decide +kernel
theorem dX4_init_101 : decode cX4_init 101 = .ok (.bipush 6, 2) := by decide +kernel
theorem dX4_init_103 : decode cX4_init 103 = .ok (.newarray .int, 2) := by decide +kernel
theorem dX4_init_105 : decode cX4_init 105 = .ok (.putfield 47, 3) := by decide +kernel
theorem dX4_init_108 : decode cX4_init 108 = .ok (.aload_n 0, 1) := by decide +kernel
theorem dX4_init_109 : decode cX4_init 109 = .ok (.bipush 6, 2) := by decide +kernel
theorem dX4_init_111 : decode cX4_init 111 = .ok (.newarray .int, 2) := by decide +kernel
theorem dX4_init_113 : decode cX4_init 113 = .ok (.putfield 50, 3) := by decide +kernel
theorem dX4_init_116 : decode cX4_init 116 = .ok (.aload_n 0, 1) := by decide +kernel
theorem dX4_init_117 : decode cX4_init 117 = .ok (.bipush 6, 2) := by decide +kernel
theorem dX4_init_119 : decode cX4_init 119 = .ok (.newarray .int, 2) := by decide +kernel
theorem dX4_init_121 : decode cX4_init 121 = .ok (.putfield 53, 3) := by decide +kernel
theorem dX4_init_124 : decode cX4_init 124 = .ok (.aload_n 0, 1) := by decide +kernel
theorem dX4_init_125 : decode cX4_init 125 = .ok (.bipush 6, 2) := by decide +kernel
theorem dX4_init_127 : decode cX4_init 127 = .ok (.newarray .int, 2) := by decide +kernel
theorem dX4_init_129 : decode cX4_init 129 = .ok (.putfield 56, 3) := by decide +kernel
theorem dX4_init_132 : decode cX4_init 132 = .ok (.aload_n 0, 1) := by decide +kernel
theorem dX4_init_133 : decode cX4_init 133 = .ok (.bipush 6, 2) := by decide +kernel
theorem dX4_init_135 : decode cX4_init 135 = .ok (.newarray .int, 2) := by decide +kernel
theorem dX4_init_137 : decode cX4_init 137 = .ok (.putfield 59, 3) := by decide +kernel
theorem dX4_init_140 : decode cX4_init 140 = .ok (.aload_n 0, 1) := by decide +kernel
theorem dX4_init_141 : decode cX4_init 141 = .ok (.bipush 6, 2) := by decide +kernel
theorem dX4_init_143 : decode cX4_init 143 = .ok (.newarray .float, 2) := by decide +kernel
theorem dX4_init_145 : decode cX4_init 145 = .ok (.putfield 62, 3) := by decide +kernel
theorem dX4_init_148 : decode cX4_init 148 = .ok (.aload_n 0, 1) := by decide +kernel
theorem dX4_init_149 : decode cX4_init 149 = .ok (.bipush 12, 2) := by decide +kernel
theorem dX4_init_151 : decode cX4_init 151 = .ok (.newarray .int, 2) := by decide +kernel
theorem dX4_init_153 : decode cX4_init 153 = .ok (.putfield 66, 3) := by decide +kernel
theorem dX4_init_156 : decode cX4_init 156 = .ok (.aload_n 0, 1) := by decide +kernel
theorem dX4_init_157 : decode cX4_init 157 = .ok (.bipush 60, 2) := by decide +kernel
theorem dX4_init_159 : decode cX4_init 159 = .ok (.newarray .int, 2) := by decide +kernel
theorem dX4_init_161 : decode cX4_init 161 = .ok (.putfield 69, 3) := by decide +kernel
theorem dX4_init_164 : decode cX4_init 164 = .ok (.aload_n 0, 1) := by decide +kernel
theorem dX4_init_165 : decode cX4_init 165 = .ok (.bipush 60, 2) := by decide +kernel
theorem dX4_init_167 : decode cX4_init 167 = .ok (.newarray .int, 2) := by decide +kernel
theorem dX4_init_169 : decode cX4_init 169 = .ok (.putfield 72, 3) := by decide +kernel
theorem dX4_init_172 : decode cX4_init 172 = .ok (.aload_n 0, 1) := by decide +kernel
theorem dX4_init_173 : decode cX4_init 173 = .ok (.bipush 60, 2) := by decide +kernel
theorem dX4_init_175 : decode cX4_init 175 = .ok (.newarray .int, 2) := by decide +kernel
theorem dX4_init_177 : decode cX4_init 177 = .ok (.putfield 75, 3) := by decide +kernel
theorem dX4_init_180 : decode cX4_init 180 = .ok (.aload_n 0, 1) := by decide +kernel
theorem dX4_init_181 : decode cX4_init 181 = .ok (.bipush 6, 2) := by decide +kernel
theorem dX4_init_183 : decode cX4_init 183 = .ok (.newarray .int, 2) := by decide +kernel
theorem dX4_init_185 : decode cX4_init 185 = .ok (.putfield 78, 3) := by decide +kernel
theorem dX4_init_188 : decode cX4_init 188 = .ok (.aload_n 0, 1) := by decide +kernel
theorem dX4_init_189 : decode cX4_init 189 = .ok (.bipush 36, 2) := by decide +kernel
theorem dX4_init_191 : decode cX4_init 191 = .ok (.newarray .int, 2) := by decide +kernel
theorem dX4_init_193 : decode cX4_init 193 = .ok (.putfield 81, 3) := by decide +kernel
theorem dX4_init_196 : decode cX4_init 196 = .ok (.aload_n 0, 1) := by decide +kernel
theorem dX4_init_197 : decode cX4_init 197 = .ok (.bipush 6, 2) := by decide +kernel
theorem dX4_init_199 : decode cX4_init 199 = .ok (.newarray .boolean, 2) := by decide +kernel
theorem dX4_init_201 : decode cX4_init 201 = .ok (.putfield 84, 3) := by decide +kernel
theorem dX4_init_204 : decode cX4_init 204 = .ok (.aload_n 0, 1) := by decide +kernel
theorem dX4_init_205 : decode cX4_init 205 = .ok (.bipush 6, 2) := by decide +kernel
theorem dX4_init_207 : decode cX4_init 207 = .ok (.newarray .int, 2) := by decide +kernel
theorem dX4_init_209 : decode cX4_init 209 = .ok (.putfield 87, 3) := by decide +kernel
theorem dX4_init_212 : decode cX4_init 212 = .ok (.aload_n 0, 1) := by decide +kernel
theorem dX4_init_213 : decode cX4_init 213 = .ok (.bipush 6, 2) := by decide +kernel
theorem dX4_init_215 : decode cX4_init 215 = .ok (.newarray .int, 2) := by decide +kernel
theorem dX4_init_217 : decode cX4_init 217 = .ok (.putfield 90, 3) := by decide +kernel
theorem dX4_init_220 : decode cX4_init 220 = .ok (.aload_n 0, 1) := by decide +kernel
theorem dX4_init_221 : decode cX4_init 221 = .ok (.bipush 6, 2) := by decide +kernel
theorem dX4_init_223 : decode cX4_init 223 = .ok (.newarray .int, 2) := by decide +kernel
theorem dX4_init_225 : decode cX4_init 225 = .ok (.putfield 93, 3) := by decide +kernel
theorem dX4_init_228 : decode cX4_init 228 = .ok (.aload_n 0, 1) := by decide +kernel
theorem dX4_init_229 : decode cX4_init 229 = .ok (.bipush 6, 2) := by decide +kernel
theorem dX4_init_231 : decode cX4_init 231 = .ok (.newarray .int, 2) := by decide +kernel
theorem dX4_init_233 : decode cX4_init 233 = .ok (.putfield 96, 3) := by decide +kernel
theorem dX4_init_236 : decode cX4_init 236 = .ok (.aload_n 0, 1) := by decide +kernel
theorem dX4_init_237 : decode cX4_init 237 = .ok (.bipush 6, 2) := by decide +kernel
theorem dX4_init_239 : decode cX4_init 239 = .ok (.newarray .int, 2) := by decide +kernel
theorem dX4_init_241 : decode cX4_init 241 = .ok (.putfield 99, 3) := by decide +kernel
theorem dX4_init_244 : decode cX4_init 244 = .ok (.aload_n 0, 1) := by decide +kernel
theorem dX4_init_245 : decode cX4_init 245 = .ok (.bipush 6, 2) := by decide +kernel
theorem dX4_init_247 : decode cX4_init 247 = .ok (.newarray .int, 2) := by decide +kernel
theorem dX4_init_249 : decode cX4_init 249 = .ok (.putfield 102, 3) := by decide +kernel
theorem dX4_init_252 : decode cX4_init 252 = .ok (.aload_n 0, 1) := by decide +kernel
theorem dX4_init_253 : decode cX4_init 253 = .ok (.bipush 6, 2) := by decide +kernel
theorem dX4_init_255 : decode cX4_init 255 = .ok (.newarray .int, 2) := by decide +kernel
theorem dX4_init_257 : decode cX4_init 257 = .ok (.putfield 105, 3) := by decide +kernel
theorem dX4_init_260 : decode cX4_init 260 = .ok (.aload_n 0, 1) := by decide +kernel
theorem dX4_init_261 : decode cX4_init 261 = .ok (.bipush 6, 2) := by decide +kernel
theorem dX4_init_263 : decode cX4_init 263 = .ok (.newarray .int, 2) := by decide +kernel
theorem dX4_init_265 : decode cX4_init 265 = .ok (.putfield 108, 3) := by decide +kernel
theorem dX4_init_268 : decode cX4_init 268 = .ok (.aload_n 0, 1) := by decide +kernel
theorem dX4_init_269 : decode cX4_init 269 = .ok (.iload_n 1, 1) := by decide +kernel
theorem dX4_init_270 : decode cX4_init 270 = .ok (.iconst 2, 1) := by decide +kernel
theorem dX4_init_271 : decode cX4_init 271 = .ok (.if_icmp .lt 13, 3) := by decide +kernel
theorem dX4_init_274 : decode cX4_init 274 = .ok (.iload_n 1, 1) := by decide +kernel
theorem dX4_init_275 : decode cX4_init 275 = .ok (.bipush 6, 2) := by decide +kernel
theorem dX4_init_277 : decode cX4_init 277 = .ok (.if_icmp .gt 7, 3) := by decide +kernel
theorem dX4_init_280 : decode cX4_init 280 = .ok (.iload_n 1, 1) := by decide +kernel
theorem dX4_init_281 : decode cX4_init 281 = .ok (.goto 4, 3) := by decide +kernel
theorem dX4_init_284 : decode cX4_init 284 = .ok (.iconst 4, 1) := by decide +kernel
theorem dX4_init_285 : decode cX4_init 285 = .ok (.putfield 111, 3) := by decide +kernel
theorem dX4_init_288 : decode cX4_init 288 = .ok (.iconst 0, 1) := by decide +kernel
theorem dX4_init_289 : decode cX4_init 289 = .ok (.istore_n 2, 1) := by decide +kernel
theorem dX4_init_290 : decode cX4_init 290 = .ok (.iload_n 2, 1) := by decide +kernel
theorem dX4_init_291 : decode cX4_init 291 = .ok (.bipush 6, 2) := by decide +kernel
theorem dX4_init_293 : decode cX4_init 293 = .ok (.if_icmp .ge 76, 3) := by decide +kernel
theorem dX4_init_296 : decode cX4_init 296 = .ok (.aload_n 0, 1) := by decide +kernel
theorem dX4_init_297 : decode cX4_init 297 = .ok (.getfield 7, 3) := by decide +kernel
theorem dX4_init_300 : decode cX4_init 300 = .ok (.iload_n 2, 1) := by decide +kernel
theorem dX4_init_301 : decode cX4_init 301 = .ok (.iload_n 2, 1) := by decide +kernel
theorem dX4_init_302 : decode cX4_init 302 = .ok (.aload_n 0, 1) := by decide +kernel
theorem dX4_init_303 : decode cX4_init 303 = .ok (.getfield 111, 3) := by decide +kernel
theorem dX4_init_306 : decode cX4_init 306 = .ok (.if_icmp .ge 7, 3) := by decide +kernel
theorem dX4_init_309 : decode cX4_init 309 = .ok (.iconst 1, 1) := by decide +kernel
theorem dX4_init_310 : decode cX4_init 310 = .ok (.goto 4, 3) := by decide +kernel
theorem dX4_init_313 : decode cX4_init 313 = .ok (.iconst 0, 1) := by decide +kernel
theorem dX4_init_314 : decode cX4_init 314 = .ok (.bastore, 1) := by decide +kernel
theorem dX4_init_315 : decode cX4_init 315 = .ok (.aload_n 0, 1) := by decide +kernel
theorem dX4_init_316 : decode cX4_init 316 = .ok (.getfield 13, 3) := by decide +kernel
theorem dX4_init_319 : decode cX4_init 319 = .ok (.iload_n 2, 1) := by decide +kernel
theorem dX4_init_320 : decode cX4_init 320 = .ok (.iload_n 2, 1) := by decide +kernel
theorem dX4_init_321 : decode cX4_init 321 = .ok (.aload_n 0, 1) := by decide +kernel
theorem dX4_init_322 : decode cX4_init 322 = .ok (.getfield 111, 3) := by decide +kernel
theorem dX4_init_325 : decode cX4_init 325 = .ok (.if_icmp .ge 7, 3) := by decide +kernel
theorem dX4_init_328 : decode cX4_init 328 = .ok (.iconst 1, 1) := by decide +kernel
theorem dX4_init_329 : decode cX4_init 329 = .ok (.goto 4, 3) := by decide +kernel
theorem dX4_init_332 : decode cX4_init 332 = .ok (.iconst 0, 1) := by decide +kernel
theorem dX4_init_333 : decode cX4_init 333 = .ok (.bastore, 1) := by decide +kernel
theorem dX4_init_334 : decode cX4_init 334 = .ok (.aload_n 0, 1) := by decide +kernel
theorem dX4_init_335 : decode cX4_init 335 = .ok (.getfield 16, 3) := by decide +kernel
theorem dX4_init_338 : decode cX4_init 338 = .ok (.iload_n 2, 1) := by decide +kernel
theorem dX4_init_339 : decode cX4_init 339 = .ok (.bipush 20, 2) := by decide +kernel
theorem dX4_init_341 : decode cX4_init 341 = .ok (.iastore, 1) := by decide +kernel
theorem dX4_init_342 : decode cX4_init 342 = .ok (.aload_n 0, 1) := by decide +kernel
theorem dX4_init_343 : decode cX4_init 343 = .ok (.getfield 44, 3) := by decide +kernel
theorem dX4_init_346 : decode cX4_init 346 = .ok (.iload_n 2, 1) := by decide +kernel
theorem dX4_init_347 : decode cX4_init 347 = .ok (.iconst (-1), 1) := by decide +kernel
theorem dX4_init_348 : decode cX4_init 348 = .ok (.iastore, 1) := by decide +kernel
theorem dX4_init_349 : decode cX4_init 349 = .ok (.aload_n 0, 1) := by decide +kernel
theorem dX4_init_350 : decode cX4_init 350 = .ok (.getfield 53, 3) := by decide +kernel
theorem dX4_init_353 : decode cX4_init 353 = .ok (.iload_n 2, 1) := by decide +kernel
theorem dX4_init_354 : decode cX4_init 354 = .ok (.iconst (-1), 1) := by decide +kernel
theorem dX4_init_355 : decode cX4_init 355 = .ok (.iastore, 1) := by decide +kernel
theorem dX4_init_356 : decode cX4_init 356 = .ok (.aload_n 0, 1) := by decide +kernel
theorem dX4_init_357 : decode cX4_init 357 = .ok (.getfield 99, 3) := by decide +kernel
theorem dX4_init_360 : decode cX4_init 360 = .ok (.iload_n 2, 1) := by decide +kernel
theorem dX4_init_361 : decode cX4_init 361 = .ok (.iconst (-1), 1) := by decide +kernel
theorem dX4_init_362 : decode cX4_init 362 = .ok (.iastore, 1) := by decide +kernel
theorem dX4_init_363 : decode cX4_init 363 = .ok (.iinc 2 1, 3) := by decide +kernel
theorem dX4_init_366 : decode cX4_init 366 = .ok (.goto (-76), 3) := by decide +kernel
theorem dX4_init_369 : decode cX4_init 369 = .ok (.aload_n 0, 1) := by decide +kernel
theorem dX4_init_370 : decode cX4_init 370 = .ok (.invokevirtual 115, 3) := by decide +kernel
theorem dX4_init_373 : decode cX4_init 373 = .ok (.return_, 1) := by decide +kernel
theorem dX4_isStation_0 : decode cX4_isStation 0 = .ok (.iload_n 1, 1) := by decide +kernel
theorem dX4_isStation_1 : decode cX4_isStation 1 = .ok (.ifCond .lt 15, 3) := by decide +kernel
theorem dX4_isStation_4 : decode cX4_isStation 4 = .ok (.iload_n 1, 1) := by decide +kernel
theorem dX4_isStation_5 : decode cX4_isStation 5 = .ok (.aload_n 0, 1) := by decide +kernel
theorem dX4_isStation_6 : decode cX4_isStation 6 = .ok (.getfield 111, 3) := by decide +kernel
theorem dX4_isStation_9 : decode cX4_isStation 9 = .ok (.if_icmp .ge 7, 3) := by decide +kernel
theorem dX4_isStation_12 : decode cX4_isStation 12 = .ok (.iconst 1, 1) := by decide +kernel
theorem dX4_isStation_13 : decode cX4_isStation 13 = .ok (.goto 4, 3) := by decide +kernel
theorem dX4_isStation_16 : decode cX4_isStation 16 = .ok (.iconst 0, 1) := by decide +kernel
theorem dX4_isStation_17 : decode cX4_isStation 17 = .ok (.ireturn, 1) := by decide +kernel
theorem dX4_next_0 : decode cX4_next 0 = .ok (.iload_n 1, 1) := by decide +kernel
theorem dX4_next_1 : decode cX4_next 1 = .ok (.iconst 1, 1) := by decide +kernel
theorem dX4_next_2 : decode cX4_next 2 = .ok (.iadd, 1) := by decide +kernel
theorem dX4_next_3 : decode cX4_next 3 = .ok (.aload_n 0, 1) := by decide +kernel
theorem dX4_next_4 : decode cX4_next 4 = .ok (.getfield 111, 3) := by decide +kernel
theorem dX4_next_7 : decode cX4_next 7 = .ok (.irem, 1) := by decide +kernel
theorem dX4_next_8 : decode cX4_next 8 = .ok (.ireturn, 1) := by decide +kernel
theorem dX4_previous_0 : decode cX4_previous 0 = .ok (.iload_n 1, 1) := by decide +kernel
theorem dX4_previous_1 : decode cX4_previous 1 = .ok (.aload_n 0, 1) := by decide +kernel
theorem dX4_previous_2 : decode cX4_previous 2 = .ok (.getfield 111, 3) := by decide +kernel
theorem dX4_previous_5 : decode cX4_previous 5 = .ok (.iadd, 1) := by decide +kernel
theorem dX4_previous_6 : decode cX4_previous 6 = .ok (.iconst 1, 1) := by decide +kernel
theorem dX4_previous_7 : decode cX4_previous 7 = .ok (.isub, 1) := by decide +kernel
theorem dX4_previous_8 : decode cX4_previous 8 = .ok (.aload_n 0, 1) := by decide +kernel
theorem dX4_previous_9 : decode cX4_previous 9 = .ok (.getfield 111, 3) := by decide +kernel
theorem dX4_previous_12 : decode cX4_previous 12 = .ok (.irem, 1) := by decide +kernel
theorem dX4_previous_13 : decode cX4_previous 13 = .ok (.ireturn, 1) := by decide +kernel
theorem dX4_isJoined_0 : decode cX4_isJoined 0 = .ok (.aload_n 0, 1) := by decide +kernel
theorem dX4_isJoined_1 : decode cX4_isJoined 1 = .ok (.getfield 7, 3) := by decide +kernel
theorem dX4_isJoined_4 : decode cX4_isJoined 4 = .ok (.iload_n 1, 1) := by decide +kernel
theorem dX4_isJoined_5 : decode cX4_isJoined 5 = .ok (.baload, 1) := by decide +kernel
theorem dX4_isJoined_6 : decode cX4_isJoined 6 = .ok (.ifCond .eq 29, 3) := by decide +kernel
theorem dX4_isJoined_9 : decode cX4_isJoined 9 = .ok (.aload_n 0, 1) := by decide +kernel
theorem dX4_isJoined_10 : decode cX4_isJoined 10 = .ok (.getfield 13, 3) := by decide +kernel
theorem dX4_isJoined_13 : decode cX4_isJoined 13 = .ok (.iload_n 1, 1) := by decide +kernel
theorem dX4_isJoined_14 : decode cX4_isJoined 14 = .ok (.baload, 1) := by decide +kernel
theorem dX4_isJoined_15 : decode cX4_isJoined 15 = .ok (.ifCond .eq 20, 3) := by decide +kernel
theorem dX4_isJoined_18 : decode cX4_isJoined 18 = .ok (.aload_n 0, 1) := by decide +kernel
theorem dX4_isJoined_19 : decode cX4_isJoined 19 = .ok (.getfield 7, 3) := by decide +kernel
theorem dX4_isJoined_22 : decode cX4_isJoined 22 = .ok (.aload_n 0, 1) := by decide +kernel
theorem dX4_isJoined_23 : decode cX4_isJoined 23 = .ok (.iload_n 1, 1) := by decide +kernel
theorem dX4_isJoined_24 : decode cX4_isJoined 24 = .ok (.invokevirtual 118, 3) := by decide +kernel
theorem dX4_isJoined_27 : decode cX4_isJoined 27 = .ok (.baload, 1) := by decide +kernel
theorem dX4_isJoined_28 : decode cX4_isJoined 28 = .ok (.ifCond .eq 7, 3) := by decide +kernel
theorem dX4_isJoined_31 : decode cX4_isJoined 31 = .ok (.iconst 1, 1) := by decide +kernel
theorem dX4_isJoined_32 : decode cX4_isJoined 32 = .ok (.goto 4, 3) := by decide +kernel
theorem dX4_isJoined_35 : decode cX4_isJoined 35 = .ok (.iconst 0, 1) := by decide +kernel
theorem dX4_isJoined_36 : decode cX4_isJoined 36 = .ok (.ireturn, 1) := by decide +kernel
theorem dX4_follow_0 : decode cX4_follow 0 = .ok (.iconst 1, 1) := by decide +kernel
theorem dX4_follow_1 : decode cX4_follow 1 = .ok (.istore_n 2, 1) := by decide +kernel
theorem dX4_follow_2 : decode cX4_follow 2 = .ok (.aload_n 0, 1) := by decide +kernel
theorem dX4_follow_3 : decode cX4_follow 3 = .ok (.getfield 108, 3) := by decide +kernel
theorem dX4_follow_6 : decode cX4_follow 6 = .ok (.iconst 0, 1) := by decide +kernel
theorem dX4_follow_7 : decode cX4_follow 7 = .ok (.iload_n 1, 1) := by decide +kernel
theorem dX4_follow_8 : decode cX4_follow 8 = .ok (.iastore, 1) := by decide +kernel
theorem dX4_follow_9 : decode cX4_follow 9 = .ok (.iload_n 2, 1) := by decide +kernel
theorem dX4_follow_10 : decode cX4_follow 10 = .ok (.aload_n 0, 1) := by decide +kernel
theorem dX4_follow_11 : decode cX4_follow 11 = .ok (.getfield 111, 3) := by decide +kernel
theorem dX4_follow_14 : decode cX4_follow 14 = .ok (.if_icmp .ge 43, 3) := by decide +kernel
theorem dX4_follow_17 : decode cX4_follow 17 = .ok (.aload_n 0, 1) := by decide +kernel
theorem dX4_follow_18 : decode cX4_follow 18 = .ok (.aload_n 0, 1) := by decide +kernel
theorem dX4_follow_19 : decode cX4_follow 19 = .ok (.getfield 108, 3) := by decide +kernel
theorem dX4_follow_22 : decode cX4_follow 22 = .ok (.iload_n 2, 1) := by decide +kernel
theorem dX4_follow_23 : decode cX4_follow 23 = .ok (.iconst 1, 1) := by decide +kernel
theorem dX4_follow_24 : decode cX4_follow 24 = .ok (.isub, 1) := by decide +kernel
theorem dX4_follow_25 : decode cX4_follow 25 = .ok (.iaload, 1) := by decide +kernel
theorem dX4_follow_26 : decode cX4_follow 26 = .ok (.invokevirtual 122, 3) := by decide +kernel
theorem dX4_follow_29 : decode cX4_follow 29 = .ok (.ifCond .eq 28, 3) := by decide +kernel
theorem dX4_follow_32 : decode cX4_follow 32 = .ok (.aload_n 0, 1) := by decide +kernel
theorem dX4_follow_33 : decode cX4_follow 33 = .ok (.getfield 108, 3) := by decide +kernel
theorem dX4_follow_36 : decode cX4_follow 36 = .ok (.iload_n 2, 1) := by decide +kernel
theorem dX4_follow_37 : decode cX4_follow 37 = .ok (.aload_n 0, 1) := by decide +kernel
theorem dX4_follow_38 : decode cX4_follow 38 = .ok (.aload_n 0, 1) := by decide +kernel
theorem dX4_follow_39 : decode cX4_follow 39 = .ok (.getfield 108, 3) := by decide +kernel
theorem dX4_follow_42 : decode cX4_follow 42 = .ok (.iload_n 2, 1) := by decide +kernel
theorem dX4_follow_43 : decode cX4_follow 43 = .ok (.iconst 1, 1) := by decide +kernel
theorem dX4_follow_44 : decode cX4_follow 44 = .ok (.isub, 1) := by decide +kernel
theorem dX4_follow_45 : decode cX4_follow 45 = .ok (.iaload, 1) := by decide +kernel
theorem dX4_follow_46 : decode cX4_follow 46 = .ok (.invokevirtual 118, 3) := by decide +kernel
theorem dX4_follow_49 : decode cX4_follow 49 = .ok (.iastore, 1) := by decide +kernel
theorem dX4_follow_50 : decode cX4_follow 50 = .ok (.iload_n 2, 1) := by decide +kernel
theorem dX4_follow_51 : decode cX4_follow 51 = .ok (.iconst 1, 1) := by decide +kernel
theorem dX4_follow_52 : decode cX4_follow 52 = .ok (.iadd, 1) := by decide +kernel
theorem dX4_follow_53 : decode cX4_follow 53 = .ok (.istore_n 2, 1) := by decide +kernel
theorem dX4_follow_54 : decode cX4_follow 54 = .ok (.goto (-45), 3) := by decide +kernel
theorem dX4_follow_57 : decode cX4_follow 57 = .ok (.iload_n 2, 1) := by decide +kernel
theorem dX4_follow_58 : decode cX4_follow 58 = .ok (.ireturn, 1) := by decide +kernel
theorem dX4_isAsBefore_0 : decode cX4_isAsBefore 0 = .ok (.aload_n 0, 1) := by decide +kernel
theorem dX4_isAsBefore_1 : decode cX4_isAsBefore 1 = .ok (.getfield 78, 3) := by decide +kernel
theorem dX4_isAsBefore_4 : decode cX4_isAsBefore 4 = .ok (.iload_n 1, 1) := by decide +kernel
theorem dX4_isAsBefore_5 : decode cX4_isAsBefore 5 = .ok (.iaload, 1) := by decide +kernel
theorem dX4_isAsBefore_6 : decode cX4_isAsBefore 6 = .ok (.iload_n 2, 1) := by decide +kernel
theorem dX4_isAsBefore_7 : decode cX4_isAsBefore 7 = .ok (.if_icmp .ne 17, 3) := by decide +kernel
theorem dX4_isAsBefore_10 : decode cX4_isAsBefore 10 = .ok (.aload_n 0, 1) := by decide +kernel
theorem dX4_isAsBefore_11 : decode cX4_isAsBefore 11 = .ok (.getfield 84, 3) := by decide +kernel
theorem dX4_isAsBefore_14 : decode cX4_isAsBefore 14 = .ok (.iload_n 1, 1) := by decide +kernel
theorem dX4_isAsBefore_15 : decode cX4_isAsBefore 15 = .ok (.baload, 1) := by decide +kernel
theorem dX4_isAsBefore_16 : decode cX4_isAsBefore 16 = .ok (.iload_n 3, 1) := by decide +kernel
theorem dX4_isAsBefore_17 : decode cX4_isAsBefore 17 = .ok (.if_icmp .ne 7, 3) := by decide +kernel
theorem dX4_isAsBefore_20 : decode cX4_isAsBefore 20 = .ok (.iconst 1, 1) := by decide +kernel
theorem dX4_isAsBefore_21 : decode cX4_isAsBefore 21 = .ok (.goto 4, 3) := by decide +kernel
theorem dX4_isAsBefore_24 : decode cX4_isAsBefore 24 = .ok (.iconst 0, 1) := by decide +kernel
theorem dX4_isAsBefore_25 : decode cX4_isAsBefore 25 = .ok (.istore 4, 2) := by decide +kernel
theorem dX4_isAsBefore_27 : decode cX4_isAsBefore 27 = .ok (.iconst 0, 1) := by decide +kernel
theorem dX4_isAsBefore_28 : decode cX4_isAsBefore 28 = .ok (.istore 5, 2) := by decide +kernel
theorem dX4_isAsBefore_30 : decode cX4_isAsBefore 30 = .ok (.iload 5, 2) := by decide +kernel
theorem dX4_isAsBefore_32 : decode cX4_isAsBefore 32 = .ok (.iload_n 2, 1) := by decide +kernel
theorem dX4_isAsBefore_33 : decode cX4_isAsBefore 33 = .ok (.if_icmp .ge 43, 3) := by decide +kernel
theorem dX4_isAsBefore_36 : decode cX4_isAsBefore 36 = .ok (.iload 4, 2) := by decide +kernel
theorem dX4_isAsBefore_38 : decode cX4_isAsBefore 38 = .ok (.ifCond .eq 38, 3) := by decide +kernel
theorem dX4_isAsBefore_41 : decode cX4_isAsBefore 41 = .ok (.aload_n 0, 1) := by decide +kernel
theorem dX4_isAsBefore_42 : decode cX4_isAsBefore 42 = .ok (.getfield 81, 3) := by decide +kernel
theorem dX4_isAsBefore_45 : decode cX4_isAsBefore 45 = .ok (.bipush 6, 2) := by decide +kernel
theorem dX4_isAsBefore_47 : decode cX4_isAsBefore 47 = .ok (.iload_n 1, 1) := by decide +kernel
theorem dX4_isAsBefore_48 : decode cX4_isAsBefore 48 = .ok (.imul, 1) := by decide +kernel
theorem dX4_isAsBefore_49 : decode cX4_isAsBefore 49 = .ok (.iload 5, 2) := by decide +kernel
theorem dX4_isAsBefore_51 : decode cX4_isAsBefore 51 = .ok (.iadd, 1) := by decide +kernel
theorem dX4_isAsBefore_52 : decode cX4_isAsBefore 52 = .ok (.iaload, 1) := by decide +kernel
theorem dX4_isAsBefore_53 : decode cX4_isAsBefore 53 = .ok (.aload_n 0, 1) := by decide +kernel
theorem dX4_isAsBefore_54 : decode cX4_isAsBefore 54 = .ok (.getfield 108, 3) := by decide +kernel
theorem dX4_isAsBefore_57 : decode cX4_isAsBefore 57 = .ok (.iload 5, 2) := by decide +kernel
theorem dX4_isAsBefore_59 : decode cX4_isAsBefore 59 = .ok (.iaload, 1) := by decide +kernel
theorem dX4_isAsBefore_60 : decode cX4_isAsBefore 60 = .ok (.if_icmp .ne 7, 3) := by decide +kernel
theorem dX4_isAsBefore_63 : decode cX4_isAsBefore 63 = .ok (.iconst 1, 1) := by decide +kernel
theorem dX4_isAsBefore_64 : decode cX4_isAsBefore 64 = .ok (.goto 4, 3) := by decide +kernel
theorem dX4_isAsBefore_67 : decode cX4_isAsBefore 67 = .ok (.iconst 0, 1) := by decide +kernel
theorem dX4_isAsBefore_68 : decode cX4_isAsBefore 68 = .ok (.istore 4, 2) := by decide +kernel
theorem dX4_isAsBefore_70 : decode cX4_isAsBefore 70 = .ok (.iinc 5 1, 3) := by decide +kernel
theorem dX4_isAsBefore_73 : decode cX4_isAsBefore 73 = .ok (.goto (-43), 3) := by decide +kernel
theorem dX4_isAsBefore_76 : decode cX4_isAsBefore 76 = .ok (.iload 4, 2) := by decide +kernel
theorem dX4_isAsBefore_78 : decode cX4_isAsBefore 78 = .ok (.ireturn, 1) := by decide +kernel
theorem dX4_takeOut_0 : decode cX4_takeOut 0 = .ok (.aload_n 0, 1) := by decide +kernel
theorem dX4_takeOut_1 : decode cX4_takeOut 1 = .ok (.getfield 99, 3) := by decide +kernel
theorem dX4_takeOut_4 : decode cX4_takeOut 4 = .ok (.iload_n 1, 1) := by decide +kernel
theorem dX4_takeOut_5 : decode cX4_takeOut 5 = .ok (.iaload, 1) := by decide +kernel
theorem dX4_takeOut_6 : decode cX4_takeOut 6 = .ok (.istore_n 2, 1) := by decide +kernel
theorem dX4_takeOut_7 : decode cX4_takeOut 7 = .ok (.aload_n 0, 1) := by decide +kernel
theorem dX4_takeOut_8 : decode cX4_takeOut 8 = .ok (.getfield 66, 3) := by decide +kernel
theorem dX4_takeOut_11 : decode cX4_takeOut 11 = .ok (.iload_n 2, 1) := by decide +kernel
theorem dX4_takeOut_12 : decode cX4_takeOut 12 = .ok (.aload_n 0, 1) := by decide +kernel
theorem dX4_takeOut_13 : decode cX4_takeOut 13 = .ok (.getfield 66, 3) := by decide +kernel
theorem dX4_takeOut_16 : decode cX4_takeOut 16 = .ok (.iload_n 2, 1) := by decide +kernel
theorem dX4_takeOut_17 : decode cX4_takeOut 17 = .ok (.iaload, 1) := by decide +kernel
theorem dX4_takeOut_18 : decode cX4_takeOut 18 = .ok (.iconst 1, 1) := by decide +kernel
theorem dX4_takeOut_19 : decode cX4_takeOut 19 = .ok (.isub, 1) := by decide +kernel
theorem dX4_takeOut_20 : decode cX4_takeOut 20 = .ok (.iastore, 1) := by decide +kernel
theorem dX4_takeOut_21 : decode cX4_takeOut 21 = .ok (.iconst 5, 1) := by decide +kernel
theorem dX4_takeOut_22 : decode cX4_takeOut 22 = .ok (.iload_n 2, 1) := by decide +kernel
theorem dX4_takeOut_23 : decode cX4_takeOut 23 = .ok (.imul, 1) := by decide +kernel
theorem dX4_takeOut_24 : decode cX4_takeOut 24 = .ok (.istore_n 3, 1) := by decide +kernel
theorem dX4_takeOut_25 : decode cX4_takeOut 25 = .ok (.iload_n 3, 1) := by decide +kernel
theorem dX4_takeOut_26 : decode cX4_takeOut 26 = .ok (.iconst 5, 1) := by decide +kernel
theorem dX4_takeOut_27 : decode cX4_takeOut 27 = .ok (.iload_n 2, 1) := by decide +kernel
theorem dX4_takeOut_28 : decode cX4_takeOut 28 = .ok (.imul, 1) := by decide +kernel
theorem dX4_takeOut_29 : decode cX4_takeOut 29 = .ok (.aload_n 0, 1) := by decide +kernel
theorem dX4_takeOut_30 : decode cX4_takeOut 30 = .ok (.getfield 66, 3) := by decide +kernel
theorem dX4_takeOut_33 : decode cX4_takeOut 33 = .ok (.iload_n 2, 1) := by decide +kernel
theorem dX4_takeOut_34 : decode cX4_takeOut 34 = .ok (.iaload, 1) := by decide +kernel
theorem dX4_takeOut_35 : decode cX4_takeOut 35 = .ok (.iadd, 1) := by decide +kernel
theorem dX4_takeOut_36 : decode cX4_takeOut 36 = .ok (.if_icmp .ge 51, 3) := by decide +kernel
theorem dX4_takeOut_39 : decode cX4_takeOut 39 = .ok (.aload_n 0, 1) := by decide +kernel
theorem dX4_takeOut_40 : decode cX4_takeOut 40 = .ok (.getfield 69, 3) := by decide +kernel
theorem dX4_takeOut_43 : decode cX4_takeOut 43 = .ok (.iload_n 3, 1) := by decide +kernel
theorem dX4_takeOut_44 : decode cX4_takeOut 44 = .ok (.aload_n 0, 1) := by decide +kernel
theorem dX4_takeOut_45 : decode cX4_takeOut 45 = .ok (.getfield 69, 3) := by decide +kernel
theorem dX4_takeOut_48 : decode cX4_takeOut 48 = .ok (.iload_n 3, 1) := by decide +kernel
theorem dX4_takeOut_49 : decode cX4_takeOut 49 = .ok (.iconst 1, 1) := by decide +kernel
theorem dX4_takeOut_50 : decode cX4_takeOut 50 = .ok (.iadd, 1) := by decide +kernel
theorem dX4_takeOut_51 : decode cX4_takeOut 51 = .ok (.iaload, 1) := by decide +kernel
theorem dX4_takeOut_52 : decode cX4_takeOut 52 = .ok (.iastore, 1) := by decide +kernel
theorem dX4_takeOut_53 : decode cX4_takeOut 53 = .ok (.aload_n 0, 1) := by decide +kernel
theorem dX4_takeOut_54 : decode cX4_takeOut 54 = .ok (.getfield 72, 3) := by decide +kernel
theorem dX4_takeOut_57 : decode cX4_takeOut 57 = .ok (.iload_n 3, 1) := by decide +kernel
theorem dX4_takeOut_58 : decode cX4_takeOut 58 = .ok (.aload_n 0, 1) := by decide +kernel
theorem dX4_takeOut_59 : decode cX4_takeOut 59 = .ok (.getfield 72, 3) := by decide +kernel
theorem dX4_takeOut_62 : decode cX4_takeOut 62 = .ok (.iload_n 3, 1) := by decide +kernel
theorem dX4_takeOut_63 : decode cX4_takeOut 63 = .ok (.iconst 1, 1) := by decide +kernel
theorem dX4_takeOut_64 : decode cX4_takeOut 64 = .ok (.iadd, 1) := by decide +kernel
theorem dX4_takeOut_65 : decode cX4_takeOut 65 = .ok (.iaload, 1) := by decide +kernel
theorem dX4_takeOut_66 : decode cX4_takeOut 66 = .ok (.iastore, 1) := by decide +kernel
theorem dX4_takeOut_67 : decode cX4_takeOut 67 = .ok (.aload_n 0, 1) := by decide +kernel
theorem dX4_takeOut_68 : decode cX4_takeOut 68 = .ok (.getfield 75, 3) := by decide +kernel
theorem dX4_takeOut_71 : decode cX4_takeOut 71 = .ok (.iload_n 3, 1) := by decide +kernel
theorem dX4_takeOut_72 : decode cX4_takeOut 72 = .ok (.aload_n 0, 1) := by decide +kernel
theorem dX4_takeOut_73 : decode cX4_takeOut 73 = .ok (.getfield 75, 3) := by decide +kernel
theorem dX4_takeOut_76 : decode cX4_takeOut 76 = .ok (.iload_n 3, 1) := by decide +kernel
theorem dX4_takeOut_77 : decode cX4_takeOut 77 = .ok (.iconst 1, 1) := by decide +kernel
theorem dX4_takeOut_78 : decode cX4_takeOut 78 = .ok (.iadd, 1) := by decide +kernel
theorem dX4_takeOut_79 : decode cX4_takeOut 79 = .ok (.iaload, 1) := by decide +kernel
theorem dX4_takeOut_80 : decode cX4_takeOut 80 = .ok (.iastore, 1) := by decide +kernel
theorem dX4_takeOut_81 : decode cX4_takeOut 81 = .ok (.iinc 3 1, 3) := by decide +kernel
theorem dX4_takeOut_84 : decode cX4_takeOut 84 = .ok (.goto (-59), 3) := by decide +kernel
theorem dX4_takeOut_87 : decode cX4_takeOut 87 = .ok (.aload_n 0, 1) := by decide +kernel
theorem dX4_takeOut_88 : decode cX4_takeOut 88 = .ok (.getfield 99, 3) := by decide +kernel
theorem dX4_takeOut_91 : decode cX4_takeOut 91 = .ok (.iload_n 1, 1) := by decide +kernel
theorem dX4_takeOut_92 : decode cX4_takeOut 92 = .ok (.iconst (-1), 1) := by decide +kernel
theorem dX4_takeOut_93 : decode cX4_takeOut 93 = .ok (.iastore, 1) := by decide +kernel
theorem dX4_takeOut_94 : decode cX4_takeOut 94 = .ok (.return_, 1) := by decide +kernel
theorem dX4_claim_0 : decode cX4_claim 0 = .ok (.aload_n 0, 1) := by decide +kernel
theorem dX4_claim_1 : decode cX4_claim 1 = .ok (.getfield 99, 3) := by decide +kernel
theorem dX4_claim_4 : decode cX4_claim 4 = .ok (.iload_n 1, 1) := by decide +kernel
theorem dX4_claim_5 : decode cX4_claim 5 = .ok (.iaload, 1) := by decide +kernel
theorem dX4_claim_6 : decode cX4_claim 6 = .ok (.ifCond .lt 31, 3) := by decide +kernel
theorem dX4_claim_9 : decode cX4_claim 9 = .ok (.aload_n 0, 1) := by decide +kernel
theorem dX4_claim_10 : decode cX4_claim 10 = .ok (.getfield 99, 3) := by decide +kernel
theorem dX4_claim_13 : decode cX4_claim 13 = .ok (.iload_n 1, 1) := by decide +kernel
theorem dX4_claim_14 : decode cX4_claim 14 = .ok (.iaload, 1) := by decide +kernel
theorem dX4_claim_15 : decode cX4_claim 15 = .ok (.iconst 2, 1) := by decide +kernel
theorem dX4_claim_16 : decode cX4_claim 16 = .ok (.idiv, 1) := by decide +kernel
theorem dX4_claim_17 : decode cX4_claim 17 = .ok (.istore_n 2, 1) := by decide +kernel
theorem dX4_claim_18 : decode cX4_claim 18 = .ok (.aload_n 0, 1) := by decide +kernel
theorem dX4_claim_19 : decode cX4_claim 19 = .ok (.getfield 59, 3) := by decide +kernel
theorem dX4_claim_22 : decode cX4_claim 22 = .ok (.iload_n 2, 1) := by decide +kernel
theorem dX4_claim_23 : decode cX4_claim 23 = .ok (.aload_n 0, 1) := by decide +kernel
theorem dX4_claim_24 : decode cX4_claim 24 = .ok (.getfield 59, 3) := by decide +kernel
theorem dX4_claim_27 : decode cX4_claim 27 = .ok (.iload_n 2, 1) := by decide +kernel
theorem dX4_claim_28 : decode cX4_claim 28 = .ok (.iaload, 1) := by decide +kernel
theorem dX4_claim_29 : decode cX4_claim 29 = .ok (.iconst 1, 1) := by decide +kernel
theorem dX4_claim_30 : decode cX4_claim 30 = .ok (.iadd, 1) := by decide +kernel
theorem dX4_claim_31 : decode cX4_claim 31 = .ok (.iastore, 1) := by decide +kernel
theorem dX4_claim_32 : decode cX4_claim 32 = .ok (.aload_n 0, 1) := by decide +kernel
theorem dX4_claim_33 : decode cX4_claim 33 = .ok (.iload_n 1, 1) := by decide +kernel
theorem dX4_claim_34 : decode cX4_claim 34 = .ok (.invokevirtual 126, 3) := by decide +kernel
theorem dX4_claim_37 : decode cX4_claim 37 = .ok (.aload_n 0, 1) := by decide +kernel
theorem dX4_claim_38 : decode cX4_claim 38 = .ok (.getfield 87, 3) := by decide +kernel
theorem dX4_claim_41 : decode cX4_claim 41 = .ok (.iload_n 1, 1) := by decide +kernel
theorem dX4_claim_42 : decode cX4_claim 42 = .ok (.iconst 2, 1) := by decide +kernel
theorem dX4_claim_43 : decode cX4_claim 43 = .ok (.aload_n 0, 1) := by decide +kernel
theorem dX4_claim_44 : decode cX4_claim 44 = .ok (.getfield 78, 3) := by decide +kernel
theorem dX4_claim_47 : decode cX4_claim 47 = .ok (.iload_n 1, 1) := by decide +kernel
theorem dX4_claim_48 : decode cX4_claim 48 = .ok (.iaload, 1) := by decide +kernel
theorem dX4_claim_49 : decode cX4_claim 49 = .ok (.imul, 1) := by decide +kernel
theorem dX4_claim_50 : decode cX4_claim 50 = .ok (.iastore, 1) := by decide +kernel
theorem dX4_claim_51 : decode cX4_claim 51 = .ok (.aload_n 0, 1) := by decide +kernel
theorem dX4_claim_52 : decode cX4_claim 52 = .ok (.getfield 90, 3) := by decide +kernel
theorem dX4_claim_55 : decode cX4_claim 55 = .ok (.iload_n 1, 1) := by decide +kernel
theorem dX4_claim_56 : decode cX4_claim 56 = .ok (.iconst 0, 1) := by decide +kernel
theorem dX4_claim_57 : decode cX4_claim 57 = .ok (.iastore, 1) := by decide +kernel
theorem dX4_claim_58 : decode cX4_claim 58 = .ok (.aload_n 0, 1) := by decide +kernel
theorem dX4_claim_59 : decode cX4_claim 59 = .ok (.getfield 96, 3) := by decide +kernel
theorem dX4_claim_62 : decode cX4_claim 62 = .ok (.iload_n 1, 1) := by decide +kernel
theorem dX4_claim_63 : decode cX4_claim 63 = .ok (.iconst 0, 1) := by decide +kernel
theorem dX4_claim_64 : decode cX4_claim 64 = .ok (.iastore, 1) := by decide +kernel
theorem dX4_claim_65 : decode cX4_claim 65 = .ok (.return_, 1) := by decide +kernel
theorem dX4_arrange_0 : decode cX4_arrange 0 = .ok (.iconst 1, 1) := by decide +kernel
theorem dX4_arrange_1 : decode cX4_arrange 1 = .ok (.istore_n 1, 1) := by decide +kernel
theorem dX4_arrange_2 : decode cX4_arrange 2 = .ok (.iconst 0, 1) := by decide +kernel
theorem dX4_arrange_3 : decode cX4_arrange 3 = .ok (.istore_n 2, 1) := by decide +kernel
theorem dX4_arrange_4 : decode cX4_arrange 4 = .ok (.iload_n 2, 1) := by decide +kernel
theorem dX4_arrange_5 : decode cX4_arrange 5 = .ok (.aload_n 0, 1) := by decide +kernel
theorem dX4_arrange_6 : decode cX4_arrange 6 = .ok (.getfield 111, 3) := by decide +kernel
theorem dX4_arrange_9 : decode cX4_arrange 9 = .ok (.if_icmp .ge 27, 3) := by decide +kernel
theorem dX4_arrange_12 : decode cX4_arrange 12 = .ok (.iload_n 1, 1) := by decide +kernel
theorem dX4_arrange_13 : decode cX4_arrange 13 = .ok (.ifCond .eq 15, 3) := by decide +kernel
theorem dX4_arrange_16 : decode cX4_arrange 16 = .ok (.aload_n 0, 1) := by decide +kernel
theorem dX4_arrange_17 : decode cX4_arrange 17 = .ok (.iload_n 2, 1) := by decide +kernel
theorem dX4_arrange_18 : decode cX4_arrange 18 = .ok (.invokevirtual 122, 3) := by decide +kernel
theorem dX4_arrange_21 : decode cX4_arrange 21 = .ok (.ifCond .eq 7, 3) := by decide +kernel
theorem dX4_arrange_24 : decode cX4_arrange 24 = .ok (.iconst 1, 1) := by decide +kernel
theorem dX4_arrange_25 : decode cX4_arrange 25 = .ok (.goto 4, 3) := by decide +kernel
theorem dX4_arrange_28 : decode cX4_arrange 28 = .ok (.iconst 0, 1) := by decide +kernel
theorem dX4_arrange_29 : decode cX4_arrange 29 = .ok (.istore_n 1, 1) := by decide +kernel
theorem dX4_arrange_30 : decode cX4_arrange 30 = .ok (.iinc 2 1, 3) := by decide +kernel
theorem dX4_arrange_33 : decode cX4_arrange 33 = .ok (.goto (-29), 3) := by decide +kernel
theorem dX4_arrange_36 : decode cX4_arrange 36 = .ok (.iconst 0, 1) := by decide +kernel
theorem dX4_arrange_37 : decode cX4_arrange 37 = .ok (.istore_n 2, 1) := by decide +kernel
theorem dX4_arrange_38 : decode cX4_arrange 38 = .ok (.iload_n 2, 1) := by decide +kernel
theorem dX4_arrange_39 : decode cX4_arrange 39 = .ok (.aload_n 0, 1) := by decide +kernel
theorem dX4_arrange_40 : decode cX4_arrange 40 = .ok (.getfield 111, 3) := by decide +kernel
theorem dX4_arrange_43 : decode cX4_arrange 43 = .ok (.if_icmp .ge 16, 3) := by decide +kernel
theorem dX4_arrange_46 : decode cX4_arrange 46 = .ok (.aload_n 0, 1) := by decide +kernel
theorem dX4_arrange_47 : decode cX4_arrange 47 = .ok (.getfield 105, 3) := by decide +kernel
theorem dX4_arrange_50 : decode cX4_arrange 50 = .ok (.iload_n 2, 1) := by decide +kernel
theorem dX4_arrange_51 : decode cX4_arrange 51 = .ok (.iconst (-1), 1) := by decide +kernel
theorem dX4_arrange_52 : decode cX4_arrange 52 = .ok (.iastore, 1) := by decide +kernel
theorem dX4_arrange_53 : decode cX4_arrange 53 = .ok (.iinc 2 1, 3) := by decide +kernel
theorem dX4_arrange_56 : decode cX4_arrange 56 = .ok (.goto (-18), 3) := by decide +kernel
theorem dX4_arrange_59 : decode cX4_arrange 59 = .ok (.iconst 0, 1) := by decide +kernel
theorem dX4_arrange_60 : decode cX4_arrange 60 = .ok (.istore_n 2, 1) := by decide +kernel
theorem dX4_arrange_61 : decode cX4_arrange 61 = .ok (.iload_n 2, 1) := by decide +kernel
theorem dX4_arrange_62 : decode cX4_arrange 62 = .ok (.aload_n 0, 1) := by decide +kernel
theorem dX4_arrange_63 : decode cX4_arrange 63 = .ok (.getfield 111, 3) := by decide +kernel
theorem dX4_arrange_66 : decode cX4_arrange 66 = .ok (.if_icmp .ge 200, 3) := by decide +kernel
theorem dX4_arrange_69 : decode cX4_arrange 69 = .ok (.iload_n 1, 1) := by decide +kernel
theorem dX4_arrange_70 : decode cX4_arrange 70 = .ok (.ifCond .eq 15, 3) := by decide +kernel
theorem dX4_arrange_73 : decode cX4_arrange 73 = .ok (.iload_n 2, 1) := by decide +kernel
theorem dX4_arrange_74 : decode cX4_arrange 74 = .ok (.ifCond .ne 7, 3) := by decide +kernel
theorem dX4_arrange_77 : decode cX4_arrange 77 = .ok (.iconst 1, 1) := by decide +kernel
theorem dX4_arrange_78 : decode cX4_arrange 78 = .ok (.goto 33, 3) := by decide +kernel
theorem dX4_arrange_81 : decode cX4_arrange 81 = .ok (.iconst 0, 1) := by decide +kernel
theorem dX4_arrange_82 : decode cX4_arrange 82 = .ok (.goto 29, 3) := by decide +kernel
theorem dX4_arrange_85 : decode cX4_arrange 85 = .ok (.aload_n 0, 1) := by decide +kernel
theorem dX4_arrange_86 : decode cX4_arrange 86 = .ok (.getfield 7, 3) := by decide +kernel
theorem dX4_arrange_89 : decode cX4_arrange 89 = .ok (.iload_n 2, 1) := by decide +kernel
theorem dX4_arrange_90 : decode cX4_arrange 90 = .ok (.baload, 1) := by decide +kernel
theorem dX4_arrange_91 : decode cX4_arrange 91 = .ok (.ifCond .eq 19, 3) := by decide +kernel
theorem dX4_arrange_94 : decode cX4_arrange 94 = .ok (.aload_n 0, 1) := by decide +kernel
theorem dX4_arrange_95 : decode cX4_arrange 95 = .ok (.aload_n 0, 1) := by decide +kernel
theorem dX4_arrange_96 : decode cX4_arrange 96 = .ok (.iload_n 2, 1) := by decide +kernel
theorem dX4_arrange_97 : decode cX4_arrange 97 = .ok (.invokevirtual 130, 3) := by decide +kernel
theorem dX4_arrange_100 : decode cX4_arrange 100 = .ok (.invokevirtual 122, 3) := by decide +kernel
theorem dX4_arrange_103 : decode cX4_arrange 103 = .ok (.ifCond .ne 7, 3) := by decide +kernel
theorem dX4_arrange_106 : decode cX4_arrange 106 = .ok (.iconst 1, 1) := by decide +kernel
theorem dX4_arrange_107 : decode cX4_arrange 107 = .ok (.goto 4, 3) := by decide +kernel
theorem dX4_arrange_110 : decode cX4_arrange 110 = .ok (.iconst 0, 1) := by decide +kernel
theorem dX4_arrange_111 : decode cX4_arrange 111 = .ok (.istore_n 3, 1) := by decide +kernel
theorem dX4_arrange_112 : decode cX4_arrange 112 = .ok (.iload_n 3, 1) := by decide +kernel
theorem dX4_arrange_113 : decode cX4_arrange 113 = .ok (.ifCond .eq 11, 3) := by decide +kernel
theorem dX4_arrange_116 : decode cX4_arrange 116 = .ok (.aload_n 0, 1) := by decide +kernel
theorem dX4_arrange_117 : decode cX4_arrange 117 = .ok (.iload_n 2, 1) := by decide +kernel
theorem dX4_arrange_118 : decode cX4_arrange 118 = .ok (.invokevirtual 133, 3) := by decide +kernel
theorem dX4_arrange_121 : decode cX4_arrange 121 = .ok (.goto 4, 3) := by decide +kernel
theorem dX4_arrange_124 : decode cX4_arrange 124 = .ok (.iconst 0, 1) := by decide +kernel
theorem dX4_arrange_125 : decode cX4_arrange 125 = .ok (.istore 4, 2) := by decide +kernel
theorem dX4_arrange_127 : decode cX4_arrange 127 = .ok (.aload_n 0, 1) := by decide +kernel
theorem dX4_arrange_128 : decode cX4_arrange 128 = .ok (.iload_n 2, 1) := by decide +kernel
theorem dX4_arrange_129 : decode cX4_arrange 129 = .ok (.iload 4, 2) := by decide +kernel
theorem dX4_arrange_131 : decode cX4_arrange 131 = .ok (.iload_n 1, 1) := by decide +kernel
theorem dX4_arrange_132 : decode cX4_arrange 132 = .ok (.ifCond .eq 11, 3) := by decide +kernel
theorem dX4_arrange_135 : decode cX4_arrange 135 = .ok (.iload_n 3, 1) := by decide +kernel
theorem dX4_arrange_136 : decode cX4_arrange 136 = .ok (.ifCond .eq 7, 3) := by decide +kernel
theorem dX4_arrange_139 : decode cX4_arrange 139 = .ok (.iconst 1, 1) := by decide +kernel
theorem dX4_arrange_140 : decode cX4_arrange 140 = .ok (.goto 4, 3) := by decide +kernel
theorem dX4_arrange_143 : decode cX4_arrange 143 = .ok (.iconst 0, 1) := by decide +kernel
theorem dX4_arrange_144 : decode cX4_arrange 144 = .ok (.invokevirtual 136, 3) := by decide +kernel
theorem dX4_arrange_147 : decode cX4_arrange 147 = .ok (.istore 5, 2) := by decide +kernel
theorem dX4_arrange_149 : decode cX4_arrange 149 = .ok (.iload 5, 2) := by decide +kernel
theorem dX4_arrange_151 : decode cX4_arrange 151 = .ok (.ifCond .ne 80, 3) := by decide +kernel
theorem dX4_arrange_154 : decode cX4_arrange 154 = .ok (.aload_n 0, 1) := by decide +kernel
theorem dX4_arrange_155 : decode cX4_arrange 155 = .ok (.iload_n 2, 1) := by decide +kernel
theorem dX4_arrange_156 : decode cX4_arrange 156 = .ok (.invokevirtual 140, 3) := by decide +kernel
theorem dX4_arrange_159 : decode cX4_arrange 159 = .ok (.aload_n 0, 1) := by decide +kernel
theorem dX4_arrange_160 : decode cX4_arrange 160 = .ok (.getfield 78, 3) := by decide +kernel
theorem dX4_arrange_163 : decode cX4_arrange 163 = .ok (.iload_n 2, 1) := by decide +kernel
theorem dX4_arrange_164 : decode cX4_arrange 164 = .ok (.iload 4, 2) := by decide +kernel
theorem dX4_arrange_166 : decode cX4_arrange 166 = .ok (.iastore, 1) := by decide +kernel
theorem dX4_arrange_167 : decode cX4_arrange 167 = .ok (.aload_n 0, 1) := by decide +kernel
theorem dX4_arrange_168 : decode cX4_arrange 168 = .ok (.getfield 84, 3) := by decide +kernel
theorem dX4_arrange_171 : decode cX4_arrange 171 = .ok (.iload_n 2, 1) := by decide +kernel
theorem dX4_arrange_172 : decode cX4_arrange 172 = .ok (.iload_n 1, 1) := by decide +kernel
theorem dX4_arrange_173 : decode cX4_arrange 173 = .ok (.ifCond .eq 11, 3) := by decide +kernel
theorem dX4_arrange_176 : decode cX4_arrange 176 = .ok (.iload_n 3, 1) := by decide +kernel
theorem dX4_arrange_177 : decode cX4_arrange 177 = .ok (.ifCond .eq 7, 3) := by decide +kernel
theorem dX4_arrange_180 : decode cX4_arrange 180 = .ok (.iconst 1, 1) := by decide +kernel
theorem dX4_arrange_181 : decode cX4_arrange 181 = .ok (.goto 4, 3) := by decide +kernel
theorem dX4_arrange_184 : decode cX4_arrange 184 = .ok (.iconst 0, 1) := by decide +kernel
theorem dX4_arrange_185 : decode cX4_arrange 185 = .ok (.bastore, 1) := by decide +kernel
theorem dX4_arrange_186 : decode cX4_arrange 186 = .ok (.iconst 0, 1) := by decide +kernel
theorem dX4_arrange_187 : decode cX4_arrange 187 = .ok (.istore 6, 2) := by decide +kernel
theorem dX4_arrange_189 : decode cX4_arrange 189 = .ok (.iload 6, 2) := by decide +kernel
theorem dX4_arrange_191 : decode cX4_arrange 191 = .ok (.iload 4, 2) := by decide +kernel
theorem dX4_arrange_193 : decode cX4_arrange 193 = .ok (.if_icmp .ge 28, 3) := by decide +kernel
theorem dX4_arrange_196 : decode cX4_arrange 196 = .ok (.aload_n 0, 1) := by decide +kernel
theorem dX4_arrange_197 : decode cX4_arrange 197 = .ok (.getfield 81, 3) := by decide +kernel
theorem dX4_arrange_200 : decode cX4_arrange 200 = .ok (.bipush 6, 2) := by decide +kernel
theorem dX4_arrange_202 : decode cX4_arrange 202 = .ok (.iload_n 2, 1) := by decide +kernel
theorem dX4_arrange_203 : decode cX4_arrange 203 = .ok (.imul, 1) := by decide +kernel
theorem dX4_arrange_204 : decode cX4_arrange 204 = .ok (.iload 6, 2) := by decide +kernel
theorem dX4_arrange_206 : decode cX4_arrange 206 = .ok (.iadd, 1) := by decide +kernel
theorem dX4_arrange_207 : decode cX4_arrange 207 = .ok (.aload_n 0, 1) := by decide +kernel
theorem dX4_arrange_208 : decode cX4_arrange 208 = .ok (.getfield 108, 3) := by decide +kernel
theorem dX4_arrange_211 : decode cX4_arrange 211 = .ok (.iload 6, 2) := by decide +kernel
theorem dX4_arrange_213 : decode cX4_arrange 213 = .ok (.iaload, 1) := by decide +kernel
theorem dX4_arrange_214 : decode cX4_arrange 214 = .ok (.iastore, 1) := by decide +kernel
theorem dX4_arrange_215 : decode cX4_arrange 215 = .ok (.iinc 6 1, 3) := by decide +kernel
theorem dX4_arrange_218 : decode cX4_arrange 218 = .ok (.goto (-29), 3) := by decide +kernel
theorem dX4_arrange_221 : decode cX4_arrange 221 = .ok (.aload_n 0, 1) := by decide +kernel
theorem dX4_arrange_222 : decode cX4_arrange 222 = .ok (.getfield 87, 3) := by decide +kernel
theorem dX4_arrange_225 : decode cX4_arrange 225 = .ok (.iload_n 2, 1) := by decide +kernel
theorem dX4_arrange_226 : decode cX4_arrange 226 = .ok (.iconst 2, 1) := by decide +kernel
theorem dX4_arrange_227 : decode cX4_arrange 227 = .ok (.iload 4, 2) := by decide +kernel
theorem dX4_arrange_229 : decode cX4_arrange 229 = .ok (.imul, 1) := by decide +kernel
theorem dX4_arrange_230 : decode cX4_arrange 230 = .ok (.iastore, 1) := by decide +kernel
theorem dX4_arrange_231 : decode cX4_arrange 231 = .ok (.iconst 0, 1) := by decide +kernel
theorem dX4_arrange_232 : decode cX4_arrange 232 = .ok (.istore 6, 2) := by decide +kernel
theorem dX4_arrange_234 : decode cX4_arrange 234 = .ok (.iload 6, 2) := by decide +kernel
theorem dX4_arrange_236 : decode cX4_arrange 236 = .ok (.iload 4, 2) := by decide +kernel
theorem dX4_arrange_238 : decode cX4_arrange 238 = .ok (.if_icmp .ge 22, 3) := by decide +kernel
theorem dX4_arrange_241 : decode cX4_arrange 241 = .ok (.aload_n 0, 1) := by decide +kernel
theorem dX4_arrange_242 : decode cX4_arrange 242 = .ok (.getfield 105, 3) := by decide +kernel
theorem dX4_arrange_245 : decode cX4_arrange 245 = .ok (.aload_n 0, 1) := by decide +kernel
theorem dX4_arrange_246 : decode cX4_arrange 246 = .ok (.getfield 108, 3) := by decide +kernel
theorem dX4_arrange_249 : decode cX4_arrange 249 = .ok (.iload 6, 2) := by decide +kernel
theorem dX4_arrange_251 : decode cX4_arrange 251 = .ok (.iaload, 1) := by decide +kernel
theorem dX4_arrange_252 : decode cX4_arrange 252 = .ok (.iload_n 2, 1) := by decide +kernel
theorem dX4_arrange_253 : decode cX4_arrange 253 = .ok (.iastore, 1) := by decide +kernel
theorem dX4_arrange_254 : decode cX4_arrange 254 = .ok (.iinc 6 1, 3) := by decide +kernel
theorem dX4_arrange_257 : decode cX4_arrange 257 = .ok (.goto (-23), 3) := by decide +kernel
theorem dX4_arrange_260 : decode cX4_arrange 260 = .ok (.iinc 2 1, 3) := by decide +kernel
theorem dX4_arrange_263 : decode cX4_arrange 263 = .ok (.goto (-202), 3) := by decide +kernel
theorem dX4_arrange_266 : decode cX4_arrange 266 = .ok (.return_, 1) := by decide +kernel
theorem dX4_holder_0 : decode cX4_holder 0 = .ok (.aload_n 0, 1) := by decide +kernel
theorem dX4_holder_1 : decode cX4_holder 1 = .ok (.getfield 81, 3) := by decide +kernel
theorem dX4_holder_4 : decode cX4_holder 4 = .ok (.bipush 6, 2) := by decide +kernel
theorem dX4_holder_6 : decode cX4_holder 6 = .ok (.iload_n 1, 1) := by decide +kernel
theorem dX4_holder_7 : decode cX4_holder 7 = .ok (.imul, 1) := by decide +kernel
theorem dX4_holder_8 : decode cX4_holder 8 = .ok (.aload_n 0, 1) := by decide +kernel
theorem dX4_holder_9 : decode cX4_holder 9 = .ok (.getfield 93, 3) := by decide +kernel
theorem dX4_holder_12 : decode cX4_holder 12 = .ok (.iload_n 1, 1) := by decide +kernel
theorem dX4_holder_13 : decode cX4_holder 13 = .ok (.iaload, 1) := by decide +kernel
theorem dX4_holder_14 : decode cX4_holder 14 = .ok (.iadd, 1) := by decide +kernel
theorem dX4_holder_15 : decode cX4_holder 15 = .ok (.iaload, 1) := by decide +kernel
theorem dX4_holder_16 : decode cX4_holder 16 = .ok (.ireturn, 1) := by decide +kernel
theorem dX4_leave_0 : decode cX4_leave 0 = .ok (.aload_n 0, 1) := by decide +kernel
theorem dX4_leave_1 : decode cX4_leave 1 = .ok (.getfield 96, 3) := by decide +kernel
theorem dX4_leave_4 : decode cX4_leave 4 = .ok (.iload_n 1, 1) := by decide +kernel
theorem dX4_leave_5 : decode cX4_leave 5 = .ok (.aload_n 0, 1) := by decide +kernel
theorem dX4_leave_6 : decode cX4_leave 6 = .ok (.getfield 93, 3) := by decide +kernel
theorem dX4_leave_9 : decode cX4_leave 9 = .ok (.iload_n 1, 1) := by decide +kernel
theorem dX4_leave_10 : decode cX4_leave 10 = .ok (.iaload, 1) := by decide +kernel
theorem dX4_leave_11 : decode cX4_leave 11 = .ok (.aload_n 0, 1) := by decide +kernel
theorem dX4_leave_12 : decode cX4_leave 12 = .ok (.getfield 78, 3) := by decide +kernel
theorem dX4_leave_15 : decode cX4_leave 15 = .ok (.iload_n 1, 1) := by decide +kernel
theorem dX4_leave_16 : decode cX4_leave 16 = .ok (.iaload, 1) := by decide +kernel
theorem dX4_leave_17 : decode cX4_leave 17 = .ok (.iconst 1, 1) := by decide +kernel
theorem dX4_leave_18 : decode cX4_leave 18 = .ok (.isub, 1) := by decide +kernel
theorem dX4_leave_19 : decode cX4_leave 19 = .ok (.if_icmp .lt 12, 3) := by decide +kernel
theorem dX4_leave_22 : decode cX4_leave 22 = .ok (.aload_n 0, 1) := by decide +kernel
theorem dX4_leave_23 : decode cX4_leave 23 = .ok (.getfield 84, 3) := by decide +kernel
theorem dX4_leave_26 : decode cX4_leave 26 = .ok (.iload_n 1, 1) := by decide +kernel
theorem dX4_leave_27 : decode cX4_leave 27 = .ok (.baload, 1) := by decide +kernel
theorem dX4_leave_28 : decode cX4_leave 28 = .ok (.ifCond .eq 7, 3) := by decide +kernel
theorem dX4_leave_31 : decode cX4_leave 31 = .ok (.iconst 1, 1) := by decide +kernel
theorem dX4_leave_32 : decode cX4_leave 32 = .ok (.goto 9, 3) := by decide +kernel
theorem dX4_leave_35 : decode cX4_leave 35 = .ok (.aload_n 0, 1) := by decide +kernel
theorem dX4_leave_36 : decode cX4_leave 36 = .ok (.getfield 78, 3) := by decide +kernel
theorem dX4_leave_39 : decode cX4_leave 39 = .ok (.iload_n 1, 1) := by decide +kernel
theorem dX4_leave_40 : decode cX4_leave 40 = .ok (.iaload, 1) := by decide +kernel
theorem dX4_leave_41 : decode cX4_leave 41 = .ok (.iastore, 1) := by decide +kernel
theorem dX4_leave_42 : decode cX4_leave 42 = .ok (.return_, 1) := by decide +kernel
theorem dX4_operate_0 : decode cX4_operate 0 = .ok (.iconst (-1), 1) := by decide +kernel
theorem dX4_operate_1 : decode cX4_operate 1 = .ok (.istore_n 2, 1) := by decide +kernel
theorem dX4_operate_2 : decode cX4_operate 2 = .ok (.iconst 0, 1) := by decide +kernel
theorem dX4_operate_3 : decode cX4_operate 3 = .ok (.istore_n 3, 1) := by decide +kernel
theorem dX4_operate_4 : decode cX4_operate 4 = .ok (.iload_n 3, 1) := by decide +kernel
theorem dX4_operate_5 : decode cX4_operate 5 = .ok (.aload_n 0, 1) := by decide +kernel
theorem dX4_operate_6 : decode cX4_operate 6 = .ok (.getfield 78, 3) := by decide +kernel
theorem dX4_operate_9 : decode cX4_operate 9 = .ok (.iload_n 1, 1) := by decide +kernel
theorem dX4_operate_10 : decode cX4_operate 10 = .ok (.iaload, 1) := by decide +kernel
theorem dX4_operate_11 : decode cX4_operate 11 = .ok (.if_icmp .ge 160, 3) := by decide +kernel
theorem dX4_operate_14 : decode cX4_operate 14 = .ok (.aload_n 0, 1) := by decide +kernel
theorem dX4_operate_15 : decode cX4_operate 15 = .ok (.getfield 81, 3) := by decide +kernel
theorem dX4_operate_18 : decode cX4_operate 18 = .ok (.bipush 6, 2) := by decide +kernel
theorem dX4_operate_20 : decode cX4_operate 20 = .ok (.iload_n 1, 1) := by decide +kernel
theorem dX4_operate_21 : decode cX4_operate 21 = .ok (.imul, 1) := by decide +kernel
theorem dX4_operate_22 : decode cX4_operate 22 = .ok (.iload_n 3, 1) := by decide +kernel
theorem dX4_operate_23 : decode cX4_operate 23 = .ok (.iadd, 1) := by decide +kernel
theorem dX4_operate_24 : decode cX4_operate 24 = .ok (.iaload, 1) := by decide +kernel
theorem dX4_operate_25 : decode cX4_operate 25 = .ok (.istore 4, 2) := by decide +kernel
theorem dX4_operate_27 : decode cX4_operate 27 = .ok (.aload_n 0, 1) := by decide +kernel
theorem dX4_operate_28 : decode cX4_operate 28 = .ok (.getfield 23, 3) := by decide +kernel
theorem dX4_operate_31 : decode cX4_operate 31 = .ok (.iload 4, 2) := by decide +kernel
theorem dX4_operate_33 : decode cX4_operate 33 = .ok (.iconst 0, 1) := by decide +kernel
theorem dX4_operate_34 : decode cX4_operate 34 = .ok (.iastore, 1) := by decide +kernel
theorem dX4_operate_35 : decode cX4_operate 35 = .ok (.aload_n 0, 1) := by decide +kernel
theorem dX4_operate_36 : decode cX4_operate 36 = .ok (.getfield 26, 3) := by decide +kernel
theorem dX4_operate_39 : decode cX4_operate 39 = .ok (.iload 4, 2) := by decide +kernel
theorem dX4_operate_41 : decode cX4_operate 41 = .ok (.iconst 0, 1) := by decide +kernel
theorem dX4_operate_42 : decode cX4_operate 42 = .ok (.iastore, 1) := by decide +kernel
theorem dX4_operate_43 : decode cX4_operate 43 = .ok (.aload_n 0, 1) := by decide +kernel
theorem dX4_operate_44 : decode cX4_operate 44 = .ok (.getfield 29, 3) := by decide +kernel
theorem dX4_operate_47 : decode cX4_operate 47 = .ok (.iload 4, 2) := by decide +kernel
theorem dX4_operate_49 : decode cX4_operate 49 = .ok (.iconst 0, 1) := by decide +kernel
theorem dX4_operate_50 : decode cX4_operate 50 = .ok (.iastore, 1) := by decide +kernel
theorem dX4_operate_51 : decode cX4_operate 51 = .ok (.aload_n 0, 1) := by decide +kernel
theorem dX4_operate_52 : decode cX4_operate 52 = .ok (.getfield 32, 3) := by decide +kernel
theorem dX4_operate_55 : decode cX4_operate 55 = .ok (.iload 4, 2) := by decide +kernel
theorem dX4_operate_57 : decode cX4_operate 57 = .ok (.iconst 0, 1) := by decide +kernel
theorem dX4_operate_58 : decode cX4_operate 58 = .ok (.iastore, 1) := by decide +kernel
theorem dX4_operate_59 : decode cX4_operate 59 = .ok (.aload_n 0, 1) := by decide +kernel
theorem dX4_operate_60 : decode cX4_operate 60 = .ok (.getfield 35, 3) := by decide +kernel
theorem dX4_operate_63 : decode cX4_operate 63 = .ok (.iload 4, 2) := by decide +kernel
theorem dX4_operate_65 : decode cX4_operate 65 = .ok (.iconst 0, 1) := by decide +kernel
theorem dX4_operate_66 : decode cX4_operate 66 = .ok (.iastore, 1) := by decide +kernel
theorem dX4_operate_67 : decode cX4_operate 67 = .ok (.aload_n 0, 1) := by decide +kernel
theorem dX4_operate_68 : decode cX4_operate 68 = .ok (.getfield 38, 3) := by decide +kernel
theorem dX4_operate_71 : decode cX4_operate 71 = .ok (.iload 4, 2) := by decide +kernel
theorem dX4_operate_73 : decode cX4_operate 73 = .ok (.iconst 0, 1) := by decide +kernel
theorem dX4_operate_74 : decode cX4_operate 74 = .ok (.bastore, 1) := by decide +kernel
theorem dX4_operate_75 : decode cX4_operate 75 = .ok (.aload_n 0, 1) := by decide +kernel
theorem dX4_operate_76 : decode cX4_operate 76 = .ok (.getfield 41, 3) := by decide +kernel
theorem dX4_operate_79 : decode cX4_operate 79 = .ok (.iload 4, 2) := by decide +kernel
theorem dX4_operate_81 : decode cX4_operate 81 = .ok (.iconst 0, 1) := by decide +kernel
theorem dX4_operate_82 : decode cX4_operate 82 = .ok (.bastore, 1) := by decide +kernel
theorem dX4_operate_83 : decode cX4_operate 83 = .ok (.iload_n 2, 1) := by decide +kernel
theorem dX4_operate_84 : decode cX4_operate 84 = .ok (.ifCond .lt 41, 3) := by decide +kernel
theorem dX4_operate_87 : decode cX4_operate 87 = .ok (.aload_n 0, 1) := by decide +kernel
theorem dX4_operate_88 : decode cX4_operate 88 = .ok (.getfield 16, 3) := by decide +kernel
theorem dX4_operate_91 : decode cX4_operate 91 = .ok (.iload 4, 2) := by decide +kernel
theorem dX4_operate_93 : decode cX4_operate 93 = .ok (.iaload, 1) := by decide +kernel
theorem dX4_operate_94 : decode cX4_operate 94 = .ok (.aload_n 0, 1) := by decide +kernel
theorem dX4_operate_95 : decode cX4_operate 95 = .ok (.getfield 16, 3) := by decide +kernel
theorem dX4_operate_98 : decode cX4_operate 98 = .ok (.iload_n 2, 1) := by decide +kernel
theorem dX4_operate_99 : decode cX4_operate 99 = .ok (.iaload, 1) := by decide +kernel
theorem dX4_operate_100 : decode cX4_operate 100 = .ok (.if_icmp .lt 25, 3) := by decide +kernel
theorem dX4_operate_103 : decode cX4_operate 103 = .ok (.aload_n 0, 1) := by decide +kernel
theorem dX4_operate_104 : decode cX4_operate 104 = .ok (.getfield 16, 3) := by decide +kernel
theorem dX4_operate_107 : decode cX4_operate 107 = .ok (.iload 4, 2) := by decide +kernel
theorem dX4_operate_109 : decode cX4_operate 109 = .ok (.iaload, 1) := by decide +kernel
theorem dX4_operate_110 : decode cX4_operate 110 = .ok (.aload_n 0, 1) := by decide +kernel
theorem dX4_operate_111 : decode cX4_operate 111 = .ok (.getfield 16, 3) := by decide +kernel
theorem dX4_operate_114 : decode cX4_operate 114 = .ok (.iload_n 2, 1) := by decide +kernel
theorem dX4_operate_115 : decode cX4_operate 115 = .ok (.iaload, 1) := by decide +kernel
theorem dX4_operate_116 : decode cX4_operate 116 = .ok (.if_icmp .ne 13, 3) := by decide +kernel
theorem dX4_operate_119 : decode cX4_operate 119 = .ok (.iload 4, 2) := by decide +kernel
theorem dX4_operate_121 : decode cX4_operate 121 = .ok (.iload_n 2, 1) := by decide +kernel
theorem dX4_operate_122 : decode cX4_operate 122 = .ok (.if_icmp .le 7, 3) := by decide +kernel
theorem dX4_operate_125 : decode cX4_operate 125 = .ok (.iconst 1, 1) := by decide +kernel
theorem dX4_operate_126 : decode cX4_operate 126 = .ok (.goto 4, 3) := by decide +kernel
theorem dX4_operate_129 : decode cX4_operate 129 = .ok (.iconst 0, 1) := by decide +kernel
theorem dX4_operate_130 : decode cX4_operate 130 = .ok (.istore 5, 2) := by decide +kernel
theorem dX4_operate_132 : decode cX4_operate 132 = .ok (.aload_n 0, 1) := by decide +kernel
theorem dX4_operate_133 : decode cX4_operate 133 = .ok (.getfield 93, 3) := by decide +kernel
theorem dX4_operate_136 : decode cX4_operate 136 = .ok (.iload_n 1, 1) := by decide +kernel
theorem dX4_operate_137 : decode cX4_operate 137 = .ok (.iload 5, 2) := by decide +kernel
theorem dX4_operate_139 : decode cX4_operate 139 = .ok (.ifCond .eq 7, 3) := by decide +kernel
theorem dX4_operate_142 : decode cX4_operate 142 = .ok (.iload_n 3, 1) := by decide +kernel
theorem dX4_operate_143 : decode cX4_operate 143 = .ok (.goto 9, 3) := by decide +kernel
theorem dX4_operate_146 : decode cX4_operate 146 = .ok (.aload_n 0, 1) := by decide +kernel
theorem dX4_operate_147 : decode cX4_operate 147 = .ok (.getfield 93, 3) := by decide +kernel
theorem dX4_operate_150 : decode cX4_operate 150 = .ok (.iload_n 1, 1) := by decide +kernel
theorem dX4_operate_151 : decode cX4_operate 151 = .ok (.iaload, 1) := by decide +kernel
theorem dX4_operate_152 : decode cX4_operate 152 = .ok (.iastore, 1) := by decide +kernel
theorem dX4_operate_153 : decode cX4_operate 153 = .ok (.iload 5, 2) := by decide +kernel
theorem dX4_operate_155 : decode cX4_operate 155 = .ok (.ifCond .eq 8, 3) := by decide +kernel
theorem dX4_operate_158 : decode cX4_operate 158 = .ok (.iload 4, 2) := by decide +kernel
theorem dX4_operate_160 : decode cX4_operate 160 = .ok (.goto 4, 3) := by decide +kernel
theorem dX4_operate_163 : decode cX4_operate 163 = .ok (.iload_n 2, 1) := by decide +kernel
theorem dX4_operate_164 : decode cX4_operate 164 = .ok (.istore_n 2, 1) := by decide +kernel
theorem dX4_operate_165 : decode cX4_operate 165 = .ok (.iinc 3 1, 3) := by decide +kernel
theorem dX4_operate_168 : decode cX4_operate 168 = .ok (.goto (-164), 3) := by decide +kernel
theorem dX4_operate_171 : decode cX4_operate 171 = .ok (.aload_n 0, 1) := by decide +kernel
theorem dX4_operate_172 : decode cX4_operate 172 = .ok (.getfield 90, 3) := by decide +kernel
theorem dX4_operate_175 : decode cX4_operate 175 = .ok (.iload_n 1, 1) := by decide +kernel
theorem dX4_operate_176 : decode cX4_operate 176 = .ok (.aload_n 0, 1) := by decide +kernel
theorem dX4_operate_177 : decode cX4_operate 177 = .ok (.getfield 16, 3) := by decide +kernel
theorem dX4_operate_180 : decode cX4_operate 180 = .ok (.iload_n 2, 1) := by decide +kernel
theorem dX4_operate_181 : decode cX4_operate 181 = .ok (.iaload, 1) := by decide +kernel
theorem dX4_operate_182 : decode cX4_operate 182 = .ok (.iastore, 1) := by decide +kernel
theorem dX4_operate_183 : decode cX4_operate 183 = .ok (.aload_n 0, 1) := by decide +kernel
theorem dX4_operate_184 : decode cX4_operate 184 = .ok (.iload_n 1, 1) := by decide +kernel
theorem dX4_operate_185 : decode cX4_operate 185 = .ok (.invokevirtual 143, 3) := by decide +kernel
theorem dX4_operate_188 : decode cX4_operate 188 = .ok (.return_, 1) := by decide +kernel
theorem dX4_age_0 : decode cX4_age 0 = .ok (.iconst 0, 1) := by decide +kernel
theorem dX4_age_1 : decode cX4_age 1 = .ok (.istore_n 2, 1) := by decide +kernel
theorem dX4_age_2 : decode cX4_age 2 = .ok (.iload_n 2, 1) := by decide +kernel
theorem dX4_age_3 : decode cX4_age 3 = .ok (.aload_n 0, 1) := by decide +kernel
theorem dX4_age_4 : decode cX4_age 4 = .ok (.getfield 78, 3) := by decide +kernel
theorem dX4_age_7 : decode cX4_age 7 = .ok (.iload_n 1, 1) := by decide +kernel
theorem dX4_age_8 : decode cX4_age 8 = .ok (.iaload, 1) := by decide +kernel
theorem dX4_age_9 : decode cX4_age 9 = .ok (.if_icmp .ge 97, 3) := by decide +kernel
theorem dX4_age_12 : decode cX4_age 12 = .ok (.aload_n 0, 1) := by decide +kernel
theorem dX4_age_13 : decode cX4_age 13 = .ok (.getfield 81, 3) := by decide +kernel
theorem dX4_age_16 : decode cX4_age 16 = .ok (.bipush 6, 2) := by decide +kernel
theorem dX4_age_18 : decode cX4_age 18 = .ok (.iload_n 1, 1) := by decide +kernel
theorem dX4_age_19 : decode cX4_age 19 = .ok (.imul, 1) := by decide +kernel
theorem dX4_age_20 : decode cX4_age 20 = .ok (.iload_n 2, 1) := by decide +kernel
theorem dX4_age_21 : decode cX4_age 21 = .ok (.iadd, 1) := by decide +kernel
theorem dX4_age_22 : decode cX4_age 22 = .ok (.iaload, 1) := by decide +kernel
theorem dX4_age_23 : decode cX4_age 23 = .ok (.istore_n 3, 1) := by decide +kernel
theorem dX4_age_24 : decode cX4_age 24 = .ok (.aload_n 0, 1) := by decide +kernel
theorem dX4_age_25 : decode cX4_age 25 = .ok (.getfield 35, 3) := by decide +kernel
theorem dX4_age_28 : decode cX4_age 28 = .ok (.iload_n 3, 1) := by decide +kernel
theorem dX4_age_29 : decode cX4_age 29 = .ok (.aload_n 0, 1) := by decide +kernel
theorem dX4_age_30 : decode cX4_age 30 = .ok (.getfield 35, 3) := by decide +kernel
theorem dX4_age_33 : decode cX4_age 33 = .ok (.iload_n 3, 1) := by decide +kernel
theorem dX4_age_34 : decode cX4_age 34 = .ok (.iaload, 1) := by decide +kernel
theorem dX4_age_35 : decode cX4_age 35 = .ok (.iconst 1, 1) := by decide +kernel
theorem dX4_age_36 : decode cX4_age 36 = .ok (.iadd, 1) := by decide +kernel
theorem dX4_age_37 : decode cX4_age 37 = .ok (.iastore, 1) := by decide +kernel
theorem dX4_age_38 : decode cX4_age 38 = .ok (.aload_n 0, 1) := by decide +kernel
theorem dX4_age_39 : decode cX4_age 39 = .ok (.getfield 23, 3) := by decide +kernel
theorem dX4_age_42 : decode cX4_age 42 = .ok (.iload_n 3, 1) := by decide +kernel
theorem dX4_age_43 : decode cX4_age 43 = .ok (.aload_n 0, 1) := by decide +kernel
theorem dX4_age_44 : decode cX4_age 44 = .ok (.getfield 23, 3) := by decide +kernel
theorem dX4_age_47 : decode cX4_age 47 = .ok (.iload_n 3, 1) := by decide +kernel
theorem dX4_age_48 : decode cX4_age 48 = .ok (.iaload, 1) := by decide +kernel
theorem dX4_age_49 : decode cX4_age 49 = .ok (.iconst 1, 1) := by decide +kernel
theorem dX4_age_50 : decode cX4_age 50 = .ok (.iadd, 1) := by decide +kernel
theorem dX4_age_51 : decode cX4_age 51 = .ok (.iastore, 1) := by decide +kernel
theorem dX4_age_52 : decode cX4_age 52 = .ok (.aload_n 0, 1) := by decide +kernel
theorem dX4_age_53 : decode cX4_age 53 = .ok (.getfield 23, 3) := by decide +kernel
theorem dX4_age_56 : decode cX4_age 56 = .ok (.iload_n 3, 1) := by decide +kernel
theorem dX4_age_57 : decode cX4_age 57 = .ok (.iaload, 1) := by decide +kernel
theorem dX4_age_58 : decode cX4_age 58 = .ok (.aload_n 0, 1) := by decide +kernel
theorem dX4_age_59 : decode cX4_age 59 = .ok (.getfield 90, 3) := by decide +kernel
theorem dX4_age_62 : decode cX4_age 62 = .ok (.iload_n 1, 1) := by decide +kernel
theorem dX4_age_63 : decode cX4_age 63 = .ok (.iaload, 1) := by decide +kernel
theorem dX4_age_64 : decode cX4_age 64 = .ok (.if_icmp .ne 36, 3) := by decide +kernel
theorem dX4_age_67 : decode cX4_age 67 = .ok (.aload_n 0, 1) := by decide +kernel
theorem dX4_age_68 : decode cX4_age 68 = .ok (.getfield 23, 3) := by decide +kernel
theorem dX4_age_71 : decode cX4_age 71 = .ok (.iload_n 3, 1) := by decide +kernel
theorem dX4_age_72 : decode cX4_age 72 = .ok (.iconst 0, 1) := by decide +kernel
theorem dX4_age_73 : decode cX4_age 73 = .ok (.iastore, 1) := by decide +kernel
theorem dX4_age_74 : decode cX4_age 74 = .ok (.aload_n 0, 1) := by decide +kernel
theorem dX4_age_75 : decode cX4_age 75 = .ok (.getfield 26, 3) := by decide +kernel
theorem dX4_age_78 : decode cX4_age 78 = .ok (.iload_n 3, 1) := by decide +kernel
theorem dX4_age_79 : decode cX4_age 79 = .ok (.aload_n 0, 1) := by decide +kernel
theorem dX4_age_80 : decode cX4_age 80 = .ok (.getfield 26, 3) := by decide +kernel
theorem dX4_age_83 : decode cX4_age 83 = .ok (.iload_n 3, 1) := by decide +kernel
theorem dX4_age_84 : decode cX4_age 84 = .ok (.iaload, 1) := by decide +kernel
theorem dX4_age_85 : decode cX4_age 85 = .ok (.iconst 1, 1) := by decide +kernel
theorem dX4_age_86 : decode cX4_age 86 = .ok (.iadd, 1) := by decide +kernel
theorem dX4_age_87 : decode cX4_age 87 = .ok (.iastore, 1) := by decide +kernel
theorem dX4_age_88 : decode cX4_age 88 = .ok (.aload_n 0, 1) := by decide +kernel
theorem dX4_age_89 : decode cX4_age 89 = .ok (.getfield 26, 3) := by decide +kernel
theorem dX4_age_92 : decode cX4_age 92 = .ok (.iload_n 3, 1) := by decide +kernel
theorem dX4_age_93 : decode cX4_age 93 = .ok (.iaload, 1) := by decide +kernel
theorem dX4_age_94 : decode cX4_age 94 = .ok (.iconst 2, 1) := by decide +kernel
theorem dX4_age_95 : decode cX4_age 95 = .ok (.if_icmp .ne 5, 3) := by decide +kernel
theorem dX4_age_98 : decode cX4_age 98 = .ok (.iconst 1, 1) := by decide +kernel
theorem dX4_age_99 : decode cX4_age 99 = .ok (.ireturn, 1) := by decide +kernel
theorem dX4_age_100 : decode cX4_age 100 = .ok (.iinc 2 1, 3) := by decide +kernel
theorem dX4_age_103 : decode cX4_age 103 = .ok (.goto (-101), 3) := by decide +kernel
theorem dX4_age_106 : decode cX4_age 106 = .ok (.iconst 0, 1) := by decide +kernel
theorem dX4_age_107 : decode cX4_age 107 = .ok (.ireturn, 1) := by decide +kernel
theorem dX4_arrive_0 : decode cX4_arrive 0 = .ok (.aload_n 0, 1) := by decide +kernel
theorem dX4_arrive_1 : decode cX4_arrive 1 = .ok (.iload_n 1, 1) := by decide +kernel
theorem dX4_arrive_2 : decode cX4_arrive 2 = .ok (.invokevirtual 146, 3) := by decide +kernel
theorem dX4_arrive_5 : decode cX4_arrive 5 = .ok (.istore_n 2, 1) := by decide +kernel
theorem dX4_arrive_6 : decode cX4_arrive 6 = .ok (.aload_n 0, 1) := by decide +kernel
theorem dX4_arrive_7 : decode cX4_arrive 7 = .ok (.getfield 93, 3) := by decide +kernel
theorem dX4_arrive_10 : decode cX4_arrive 10 = .ok (.iload_n 1, 1) := by decide +kernel
theorem dX4_arrive_11 : decode cX4_arrive 11 = .ok (.aload_n 0, 1) := by decide +kernel
theorem dX4_arrive_12 : decode cX4_arrive 12 = .ok (.getfield 93, 3) := by decide +kernel
theorem dX4_arrive_15 : decode cX4_arrive 15 = .ok (.iload_n 1, 1) := by decide +kernel
theorem dX4_arrive_16 : decode cX4_arrive 16 = .ok (.iaload, 1) := by decide +kernel
theorem dX4_arrive_17 : decode cX4_arrive 17 = .ok (.iconst 1, 1) := by decide +kernel
theorem dX4_arrive_18 : decode cX4_arrive 18 = .ok (.iadd, 1) := by decide +kernel
theorem dX4_arrive_19 : decode cX4_arrive 19 = .ok (.aload_n 0, 1) := by decide +kernel
theorem dX4_arrive_20 : decode cX4_arrive 20 = .ok (.getfield 78, 3) := by decide +kernel
theorem dX4_arrive_23 : decode cX4_arrive 23 = .ok (.iload_n 1, 1) := by decide +kernel
theorem dX4_arrive_24 : decode cX4_arrive 24 = .ok (.iaload, 1) := by decide +kernel
theorem dX4_arrive_25 : decode cX4_arrive 25 = .ok (.irem, 1) := by decide +kernel
theorem dX4_arrive_26 : decode cX4_arrive 26 = .ok (.iastore, 1) := by decide +kernel
theorem dX4_arrive_27 : decode cX4_arrive 27 = .ok (.aload_n 0, 1) := by decide +kernel
theorem dX4_arrive_28 : decode cX4_arrive 28 = .ok (.iload_n 1, 1) := by decide +kernel
theorem dX4_arrive_29 : decode cX4_arrive 29 = .ok (.invokevirtual 146, 3) := by decide +kernel
theorem dX4_arrive_32 : decode cX4_arrive 32 = .ok (.istore_n 3, 1) := by decide +kernel
theorem dX4_arrive_33 : decode cX4_arrive 33 = .ok (.aload_n 0, 1) := by decide +kernel
theorem dX4_arrive_34 : decode cX4_arrive 34 = .ok (.getfield 44, 3) := by decide +kernel
theorem dX4_arrive_37 : decode cX4_arrive 37 = .ok (.iload_n 3, 1) := by decide +kernel
theorem dX4_arrive_38 : decode cX4_arrive 38 = .ok (.iload_n 2, 1) := by decide +kernel
theorem dX4_arrive_39 : decode cX4_arrive 39 = .ok (.iastore, 1) := by decide +kernel
theorem dX4_arrive_40 : decode cX4_arrive 40 = .ok (.aload_n 0, 1) := by decide +kernel
theorem dX4_arrive_41 : decode cX4_arrive 41 = .ok (.getfield 62, 3) := by decide +kernel
theorem dX4_arrive_44 : decode cX4_arrive 44 = .ok (.iload_n 3, 1) := by decide +kernel
theorem dX4_arrive_45 : decode cX4_arrive 45 = .ok (.aload_n 0, 1) := by decide +kernel
theorem dX4_arrive_46 : decode cX4_arrive 46 = .ok (.getfield 62, 3) := by decide +kernel
theorem dX4_arrive_49 : decode cX4_arrive 49 = .ok (.iload_n 3, 1) := by decide +kernel
theorem dX4_arrive_50 : decode cX4_arrive 50 = .ok (.faload, 1) := by decide +kernel
theorem dX4_arrive_51 : decode cX4_arrive 51 = .ok (.aload_n 0, 1) := by decide +kernel
theorem dX4_arrive_52 : decode cX4_arrive 52 = .ok (.getfield 35, 3) := by decide +kernel
theorem dX4_arrive_55 : decode cX4_arrive 55 = .ok (.iload_n 3, 1) := by decide +kernel
theorem dX4_arrive_56 : decode cX4_arrive 56 = .ok (.iaload, 1) := by decide +kernel
theorem dX4_arrive_57 : decode cX4_arrive 57 = .ok (.i2f, 1) := by decide +kernel
theorem dX4_arrive_58 : decode cX4_arrive 58 = .ok (.aload_n 0, 1) := by decide +kernel
theorem dX4_arrive_59 : decode cX4_arrive 59 = .ok (.getfield 62, 3) := by decide +kernel
theorem dX4_arrive_62 : decode cX4_arrive 62 = .ok (.iload_n 3, 1) := by decide +kernel
theorem dX4_arrive_63 : decode cX4_arrive 63 = .ok (.faload, 1) := by decide +kernel
theorem dX4_arrive_64 : decode cX4_arrive 64 = .ok (.fsub, 1) := by decide +kernel
theorem dX4_arrive_65 : decode cX4_arrive 65 = .ok (.ldc 149, 2) := by decide +kernel
theorem dX4_arrive_67 : decode cX4_arrive 67 = .ok (.fmul, 1) := by decide +kernel
theorem dX4_arrive_68 : decode cX4_arrive 68 = .ok (.fadd, 1) := by decide +kernel
theorem dX4_arrive_69 : decode cX4_arrive 69 = .ok (.fastore, 1) := by decide +kernel
theorem dX4_arrive_70 : decode cX4_arrive 70 = .ok (.aload_n 0, 1) := by decide +kernel
theorem dX4_arrive_71 : decode cX4_arrive 71 = .ok (.aload_n 0, 1) := by decide +kernel
theorem dX4_arrive_72 : decode cX4_arrive 72 = .ok (.getfield 41, 3) := by decide +kernel
theorem dX4_arrive_75 : decode cX4_arrive 75 = .ok (.iload_n 3, 1) := by decide +kernel
theorem dX4_arrive_76 : decode cX4_arrive 76 = .ok (.baload, 1) := by decide +kernel
theorem dX4_arrive_77 : decode cX4_arrive 77 = .ok (.ifCond .eq 25, 3) := by decide +kernel
theorem dX4_arrive_80 : decode cX4_arrive 80 = .ok (.aload_n 0, 1) := by decide +kernel
theorem dX4_arrive_81 : decode cX4_arrive 81 = .ok (.getfield 35, 3) := by decide +kernel
theorem dX4_arrive_84 : decode cX4_arrive 84 = .ok (.iload_n 3, 1) := by decide +kernel
theorem dX4_arrive_85 : decode cX4_arrive 85 = .ok (.iaload, 1) := by decide +kernel
theorem dX4_arrive_86 : decode cX4_arrive 86 = .ok (.aload_n 0, 1) := by decide +kernel
theorem dX4_arrive_87 : decode cX4_arrive 87 = .ok (.getfield 150, 3) := by decide +kernel
theorem dX4_arrive_90 : decode cX4_arrive 90 = .ok (.if_icmp .le 12, 3) := by decide +kernel
theorem dX4_arrive_93 : decode cX4_arrive 93 = .ok (.aload_n 0, 1) := by decide +kernel
theorem dX4_arrive_94 : decode cX4_arrive 94 = .ok (.getfield 35, 3) := by decide +kernel
theorem dX4_arrive_97 : decode cX4_arrive 97 = .ok (.iload_n 3, 1) := by decide +kernel
theorem dX4_arrive_98 : decode cX4_arrive 98 = .ok (.iaload, 1) := by decide +kernel
theorem dX4_arrive_99 : decode cX4_arrive 99 = .ok (.goto 7, 3) := by decide +kernel
theorem dX4_arrive_102 : decode cX4_arrive 102 = .ok (.aload_n 0, 1) := by decide +kernel
theorem dX4_arrive_103 : decode cX4_arrive 103 = .ok (.getfield 150, 3) := by decide +kernel
theorem dX4_arrive_106 : decode cX4_arrive 106 = .ok (.putfield 150, 3) := by decide +kernel
theorem dX4_arrive_109 : decode cX4_arrive 109 = .ok (.aload_n 0, 1) := by decide +kernel
theorem dX4_arrive_110 : decode cX4_arrive 110 = .ok (.getfield 41, 3) := by decide +kernel
theorem dX4_arrive_113 : decode cX4_arrive 113 = .ok (.iload_n 3, 1) := by decide +kernel
theorem dX4_arrive_114 : decode cX4_arrive 114 = .ok (.iconst 1, 1) := by decide +kernel
theorem dX4_arrive_115 : decode cX4_arrive 115 = .ok (.bastore, 1) := by decide +kernel
theorem dX4_arrive_116 : decode cX4_arrive 116 = .ok (.aload_n 0, 1) := by decide +kernel
theorem dX4_arrive_117 : decode cX4_arrive 117 = .ok (.getfield 35, 3) := by decide +kernel
theorem dX4_arrive_120 : decode cX4_arrive 120 = .ok (.iload_n 3, 1) := by decide +kernel
theorem dX4_arrive_121 : decode cX4_arrive 121 = .ok (.iconst 0, 1) := by decide +kernel
theorem dX4_arrive_122 : decode cX4_arrive 122 = .ok (.iastore, 1) := by decide +kernel
theorem dX4_arrive_123 : decode cX4_arrive 123 = .ok (.aload_n 0, 1) := by decide +kernel
theorem dX4_arrive_124 : decode cX4_arrive 124 = .ok (.getfield 29, 3) := by decide +kernel
theorem dX4_arrive_127 : decode cX4_arrive 127 = .ok (.iload_n 3, 1) := by decide +kernel
theorem dX4_arrive_128 : decode cX4_arrive 128 = .ok (.aload_n 0, 1) := by decide +kernel
theorem dX4_arrive_129 : decode cX4_arrive 129 = .ok (.getfield 26, 3) := by decide +kernel
theorem dX4_arrive_132 : decode cX4_arrive 132 = .ok (.iload_n 3, 1) := by decide +kernel
theorem dX4_arrive_133 : decode cX4_arrive 133 = .ok (.iaload, 1) := by decide +kernel
theorem dX4_arrive_134 : decode cX4_arrive 134 = .ok (.ifCond .ne 19, 3) := by decide +kernel
theorem dX4_arrive_137 : decode cX4_arrive 137 = .ok (.aload_n 0, 1) := by decide +kernel
theorem dX4_arrive_138 : decode cX4_arrive 138 = .ok (.getfield 90, 3) := by decide +kernel
theorem dX4_arrive_141 : decode cX4_arrive 141 = .ok (.iload_n 1, 1) := by decide +kernel
theorem dX4_arrive_142 : decode cX4_arrive 142 = .ok (.iaload, 1) := by decide +kernel
theorem dX4_arrive_143 : decode cX4_arrive 143 = .ok (.aload_n 0, 1) := by decide +kernel
theorem dX4_arrive_144 : decode cX4_arrive 144 = .ok (.getfield 23, 3) := by decide +kernel
theorem dX4_arrive_147 : decode cX4_arrive 147 = .ok (.iload_n 3, 1) := by decide +kernel
theorem dX4_arrive_148 : decode cX4_arrive 148 = .ok (.iaload, 1) := by decide +kernel
theorem dX4_arrive_149 : decode cX4_arrive 149 = .ok (.isub, 1) := by decide +kernel
theorem dX4_arrive_150 : decode cX4_arrive 150 = .ok (.goto 4, 3) := by decide +kernel
theorem dX4_arrive_153 : decode cX4_arrive 153 = .ok (.iconst 0, 1) := by decide +kernel
theorem dX4_arrive_154 : decode cX4_arrive 154 = .ok (.iastore, 1) := by decide +kernel
theorem dX4_arrive_155 : decode cX4_arrive 155 = .ok (.aload_n 0, 1) := by decide +kernel
theorem dX4_arrive_156 : decode cX4_arrive 156 = .ok (.getfield 23, 3) := by decide +kernel
theorem dX4_arrive_159 : decode cX4_arrive 159 = .ok (.iload_n 3, 1) := by decide +kernel
theorem dX4_arrive_160 : decode cX4_arrive 160 = .ok (.aload_n 0, 1) := by decide +kernel
theorem dX4_arrive_161 : decode cX4_arrive 161 = .ok (.getfield 26, 3) := by decide +kernel
theorem dX4_arrive_164 : decode cX4_arrive 164 = .ok (.iload_n 3, 1) := by decide +kernel
theorem dX4_arrive_165 : decode cX4_arrive 165 = .ok (.iaload, 1) := by decide +kernel
theorem dX4_arrive_166 : decode cX4_arrive 166 = .ok (.ifCond .ne 7, 3) := by decide +kernel
theorem dX4_arrive_169 : decode cX4_arrive 169 = .ok (.iconst 0, 1) := by decide +kernel
theorem dX4_arrive_170 : decode cX4_arrive 170 = .ok (.goto 9, 3) := by decide +kernel
theorem dX4_arrive_173 : decode cX4_arrive 173 = .ok (.aload_n 0, 1) := by decide +kernel
theorem dX4_arrive_174 : decode cX4_arrive 174 = .ok (.getfield 23, 3) := by decide +kernel
theorem dX4_arrive_177 : decode cX4_arrive 177 = .ok (.iload_n 3, 1) := by decide +kernel
theorem dX4_arrive_178 : decode cX4_arrive 178 = .ok (.iaload, 1) := by decide +kernel
theorem dX4_arrive_179 : decode cX4_arrive 179 = .ok (.iastore, 1) := by decide +kernel
theorem dX4_arrive_180 : decode cX4_arrive 180 = .ok (.aload_n 0, 1) := by decide +kernel
theorem dX4_arrive_181 : decode cX4_arrive 181 = .ok (.getfield 26, 3) := by decide +kernel
theorem dX4_arrive_184 : decode cX4_arrive 184 = .ok (.iload_n 3, 1) := by decide +kernel
theorem dX4_arrive_185 : decode cX4_arrive 185 = .ok (.iconst 0, 1) := by decide +kernel
theorem dX4_arrive_186 : decode cX4_arrive 186 = .ok (.iastore, 1) := by decide +kernel
theorem dX4_arrive_187 : decode cX4_arrive 187 = .ok (.aload_n 0, 1) := by decide +kernel
theorem dX4_arrive_188 : decode cX4_arrive 188 = .ok (.getfield 32, 3) := by decide +kernel
theorem dX4_arrive_191 : decode cX4_arrive 191 = .ok (.iload_n 3, 1) := by decide +kernel
theorem dX4_arrive_192 : decode cX4_arrive 192 = .ok (.aload_n 0, 1) := by decide +kernel
theorem dX4_arrive_193 : decode cX4_arrive 193 = .ok (.getfield 20, 3) := by decide +kernel
theorem dX4_arrive_196 : decode cX4_arrive 196 = .ok (.iload_n 3, 1) := by decide +kernel
theorem dX4_arrive_197 : decode cX4_arrive 197 = .ok (.iaload, 1) := by decide +kernel
theorem dX4_arrive_198 : decode cX4_arrive 198 = .ok (.iastore, 1) := by decide +kernel
theorem dX4_arrive_199 : decode cX4_arrive 199 = .ok (.aload_n 0, 1) := by decide +kernel
theorem dX4_arrive_200 : decode cX4_arrive 200 = .ok (.getfield 38, 3) := by decide +kernel
theorem dX4_arrive_203 : decode cX4_arrive 203 = .ok (.iload_n 3, 1) := by decide +kernel
theorem dX4_arrive_204 : decode cX4_arrive 204 = .ok (.iconst 0, 1) := by decide +kernel
theorem dX4_arrive_205 : decode cX4_arrive 205 = .ok (.bastore, 1) := by decide +kernel
theorem dX4_arrive_206 : decode cX4_arrive 206 = .ok (.return_, 1) := by decide +kernel
theorem dX4_finish_0 : decode cX4_finish 0 = .ok (.aload_n 0, 1) := by decide +kernel
theorem dX4_finish_1 : decode cX4_finish 1 = .ok (.iload_n 1, 1) := by decide +kernel
theorem dX4_finish_2 : decode cX4_finish 2 = .ok (.invokevirtual 146, 3) := by decide +kernel
theorem dX4_finish_5 : decode cX4_finish 5 = .ok (.istore_n 2, 1) := by decide +kernel
theorem dX4_finish_6 : decode cX4_finish 6 = .ok (.iconst 5, 1) := by decide +kernel
theorem dX4_finish_7 : decode cX4_finish 7 = .ok (.aload_n 0, 1) := by decide +kernel
theorem dX4_finish_8 : decode cX4_finish 8 = .ok (.getfield 99, 3) := by decide +kernel
theorem dX4_finish_11 : decode cX4_finish 11 = .ok (.iload_n 1, 1) := by decide +kernel
theorem dX4_finish_12 : decode cX4_finish 12 = .ok (.iaload, 1) := by decide +kernel
theorem dX4_finish_13 : decode cX4_finish 13 = .ok (.imul, 1) := by decide +kernel
theorem dX4_finish_14 : decode cX4_finish 14 = .ok (.istore_n 3, 1) := by decide +kernel
theorem dX4_finish_15 : decode cX4_finish 15 = .ok (.aload_n 0, 1) := by decide +kernel
theorem dX4_finish_16 : decode cX4_finish 16 = .ok (.getfield 69, 3) := by decide +kernel
theorem dX4_finish_19 : decode cX4_finish 19 = .ok (.iload_n 3, 1) := by decide +kernel
theorem dX4_finish_20 : decode cX4_finish 20 = .ok (.iaload, 1) := by decide +kernel
theorem dX4_finish_21 : decode cX4_finish 21 = .ok (.istore 4, 2) := by decide +kernel
theorem dX4_finish_23 : decode cX4_finish 23 = .ok (.aload_n 0, 1) := by decide +kernel
theorem dX4_finish_24 : decode cX4_finish 24 = .ok (.getfield 72, 3) := by decide +kernel
theorem dX4_finish_27 : decode cX4_finish 27 = .ok (.iload_n 3, 1) := by decide +kernel
theorem dX4_finish_28 : decode cX4_finish 28 = .ok (.iaload, 1) := by decide +kernel
theorem dX4_finish_29 : decode cX4_finish 29 = .ok (.istore 5, 2) := by decide +kernel
theorem dX4_finish_31 : decode cX4_finish 31 = .ok (.aload_n 0, 1) := by decide +kernel
theorem dX4_finish_32 : decode cX4_finish 32 = .ok (.iload_n 1, 1) := by decide +kernel
theorem dX4_finish_33 : decode cX4_finish 33 = .ok (.invokevirtual 126, 3) := by decide +kernel
theorem dX4_finish_36 : decode cX4_finish 36 = .ok (.aload_n 0, 1) := by decide +kernel
theorem dX4_finish_37 : decode cX4_finish 37 = .ok (.getfield 56, 3) := by decide +kernel
theorem dX4_finish_40 : decode cX4_finish 40 = .ok (.iload_n 2, 1) := by decide +kernel
theorem dX4_finish_41 : decode cX4_finish 41 = .ok (.aload_n 0, 1) := by decide +kernel
theorem dX4_finish_42 : decode cX4_finish 42 = .ok (.getfield 56, 3) := by decide +kernel
theorem dX4_finish_45 : decode cX4_finish 45 = .ok (.iload_n 2, 1) := by decide +kernel
theorem dX4_finish_46 : decode cX4_finish 46 = .ok (.iaload, 1) := by decide +kernel
theorem dX4_finish_47 : decode cX4_finish 47 = .ok (.iload 5, 2) := by decide +kernel
theorem dX4_finish_49 : decode cX4_finish 49 = .ok (.iadd, 1) := by decide +kernel
theorem dX4_finish_50 : decode cX4_finish 50 = .ok (.iastore, 1) := by decide +kernel
theorem dX4_finish_51 : decode cX4_finish 51 = .ok (.aload_n 0, 1) := by decide +kernel
theorem dX4_finish_52 : decode cX4_finish 52 = .ok (.getfield 105, 3) := by decide +kernel
theorem dX4_finish_55 : decode cX4_finish 55 = .ok (.iload 4, 2) := by decide +kernel
theorem dX4_finish_57 : decode cX4_finish 57 = .ok (.iaload, 1) := by decide +kernel
theorem dX4_finish_58 : decode cX4_finish 58 = .ok (.iload_n 1, 1) := by decide +kernel
theorem dX4_finish_59 : decode cX4_finish 59 = .ok (.if_icmp .ne 47, 3) := by decide +kernel
theorem dX4_finish_62 : decode cX4_finish 62 = .ok (.aload_n 0, 1) := by decide +kernel
theorem dX4_finish_63 : decode cX4_finish 63 = .ok (.getfield 47, 3) := by decide +kernel
theorem dX4_finish_66 : decode cX4_finish 66 = .ok (.iload 4, 2) := by decide +kernel
theorem dX4_finish_68 : decode cX4_finish 68 = .ok (.aload_n 0, 1) := by decide +kernel
theorem dX4_finish_69 : decode cX4_finish 69 = .ok (.getfield 47, 3) := by decide +kernel
theorem dX4_finish_72 : decode cX4_finish 72 = .ok (.iload 4, 2) := by decide +kernel
theorem dX4_finish_74 : decode cX4_finish 74 = .ok (.iaload, 1) := by decide +kernel
theorem dX4_finish_75 : decode cX4_finish 75 = .ok (.iconst 1, 1) := by decide +kernel
theorem dX4_finish_76 : decode cX4_finish 76 = .ok (.iadd, 1) := by decide +kernel
theorem dX4_finish_77 : decode cX4_finish 77 = .ok (.iastore, 1) := by decide +kernel
theorem dX4_finish_78 : decode cX4_finish 78 = .ok (.aload_n 0, 1) := by decide +kernel
theorem dX4_finish_79 : decode cX4_finish 79 = .ok (.getfield 50, 3) := by decide +kernel
theorem dX4_finish_82 : decode cX4_finish 82 = .ok (.iload 4, 2) := by decide +kernel
theorem dX4_finish_84 : decode cX4_finish 84 = .ok (.aload_n 0, 1) := by decide +kernel
theorem dX4_finish_85 : decode cX4_finish 85 = .ok (.getfield 50, 3) := by decide +kernel
theorem dX4_finish_88 : decode cX4_finish 88 = .ok (.iload 4, 2) := by decide +kernel
theorem dX4_finish_90 : decode cX4_finish 90 = .ok (.iaload, 1) := by decide +kernel
theorem dX4_finish_91 : decode cX4_finish 91 = .ok (.iload 5, 2) := by decide +kernel
theorem dX4_finish_93 : decode cX4_finish 93 = .ok (.iadd, 1) := by decide +kernel
theorem dX4_finish_94 : decode cX4_finish 94 = .ok (.iastore, 1) := by decide +kernel
theorem dX4_finish_95 : decode cX4_finish 95 = .ok (.aload_n 0, 1) := by decide +kernel
theorem dX4_finish_96 : decode cX4_finish 96 = .ok (.getfield 53, 3) := by decide +kernel
theorem dX4_finish_99 : decode cX4_finish 99 = .ok (.iload 4, 2) := by decide +kernel
theorem dX4_finish_101 : decode cX4_finish 101 = .ok (.iload_n 2, 1) := by decide +kernel
theorem dX4_finish_102 : decode cX4_finish 102 = .ok (.iastore, 1) := by decide +kernel
theorem dX4_finish_103 : decode cX4_finish 103 = .ok (.goto 17, 3) := by decide +kernel
theorem dX4_finish_106 : decode cX4_finish 106 = .ok (.aload_n 0, 1) := by decide +kernel
theorem dX4_finish_107 : decode cX4_finish 107 = .ok (.getfield 59, 3) := by decide +kernel
theorem dX4_finish_110 : decode cX4_finish 110 = .ok (.iload_n 2, 1) := by decide +kernel
theorem dX4_finish_111 : decode cX4_finish 111 = .ok (.aload_n 0, 1) := by decide +kernel
theorem dX4_finish_112 : decode cX4_finish 112 = .ok (.getfield 59, 3) := by decide +kernel
theorem dX4_finish_115 : decode cX4_finish 115 = .ok (.iload_n 2, 1) := by decide +kernel
theorem dX4_finish_116 : decode cX4_finish 116 = .ok (.iaload, 1) := by decide +kernel
theorem dX4_finish_117 : decode cX4_finish 117 = .ok (.iconst 1, 1) := by decide +kernel
theorem dX4_finish_118 : decode cX4_finish 118 = .ok (.iadd, 1) := by decide +kernel
theorem dX4_finish_119 : decode cX4_finish 119 = .ok (.iastore, 1) := by decide +kernel
theorem dX4_finish_120 : decode cX4_finish 120 = .ok (.return_, 1) := by decide +kernel
theorem dX4_begin_0 : decode cX4_begin 0 = .ok (.aload_n 0, 1) := by decide +kernel
theorem dX4_begin_1 : decode cX4_begin 1 = .ok (.iload_n 1, 1) := by decide +kernel
theorem dX4_begin_2 : decode cX4_begin 2 = .ok (.invokevirtual 146, 3) := by decide +kernel
theorem dX4_begin_5 : decode cX4_begin 5 = .ok (.istore_n 2, 1) := by decide +kernel
theorem dX4_begin_6 : decode cX4_begin 6 = .ok (.iconst 2, 1) := by decide +kernel
theorem dX4_begin_7 : decode cX4_begin 7 = .ok (.iload_n 2, 1) := by decide +kernel
theorem dX4_begin_8 : decode cX4_begin 8 = .ok (.imul, 1) := by decide +kernel
theorem dX4_begin_9 : decode cX4_begin 9 = .ok (.istore_n 3, 1) := by decide +kernel
theorem dX4_begin_10 : decode cX4_begin 10 = .ok (.iconst 2, 1) := by decide +kernel
theorem dX4_begin_11 : decode cX4_begin 11 = .ok (.iload_n 2, 1) := by decide +kernel
theorem dX4_begin_12 : decode cX4_begin 12 = .ok (.imul, 1) := by decide +kernel
theorem dX4_begin_13 : decode cX4_begin 13 = .ok (.iconst 1, 1) := by decide +kernel
theorem dX4_begin_14 : decode cX4_begin 14 = .ok (.iadd, 1) := by decide +kernel
theorem dX4_begin_15 : decode cX4_begin 15 = .ok (.istore 4, 2) := by decide +kernel
theorem dX4_begin_17 : decode cX4_begin 17 = .ok (.aload_n 0, 1) := by decide +kernel
theorem dX4_begin_18 : decode cX4_begin 18 = .ok (.getfield 38, 3) := by decide +kernel
theorem dX4_begin_21 : decode cX4_begin 21 = .ok (.iload_n 2, 1) := by decide +kernel
theorem dX4_begin_22 : decode cX4_begin 22 = .ok (.baload, 1) := by decide +kernel
theorem dX4_begin_23 : decode cX4_begin 23 = .ok (.ifCond .ne 74, 3) := by decide +kernel
theorem dX4_begin_26 : decode cX4_begin 26 = .ok (.aload_n 0, 1) := by decide +kernel
theorem dX4_begin_27 : decode cX4_begin 27 = .ok (.getfield 66, 3) := by decide +kernel
theorem dX4_begin_30 : decode cX4_begin 30 = .ok (.iload_n 3, 1) := by decide +kernel
theorem dX4_begin_31 : decode cX4_begin 31 = .ok (.iaload, 1) := by decide +kernel
theorem dX4_begin_32 : decode cX4_begin 32 = .ok (.ifCond .le 65, 3) := by decide +kernel
theorem dX4_begin_35 : decode cX4_begin 35 = .ok (.aload_n 0, 1) := by decide +kernel
theorem dX4_begin_36 : decode cX4_begin 36 = .ok (.getfield 72, 3) := by decide +kernel
theorem dX4_begin_39 : decode cX4_begin 39 = .ok (.iconst 5, 1) := by decide +kernel
theorem dX4_begin_40 : decode cX4_begin 40 = .ok (.iload_n 3, 1) := by decide +kernel
theorem dX4_begin_41 : decode cX4_begin 41 = .ok (.imul, 1) := by decide +kernel
theorem dX4_begin_42 : decode cX4_begin 42 = .ok (.iaload, 1) := by decide +kernel
theorem dX4_begin_43 : decode cX4_begin 43 = .ok (.aload_n 0, 1) := by decide +kernel
theorem dX4_begin_44 : decode cX4_begin 44 = .ok (.getfield 32, 3) := by decide +kernel
theorem dX4_begin_47 : decode cX4_begin 47 = .ok (.iload_n 2, 1) := by decide +kernel
theorem dX4_begin_48 : decode cX4_begin 48 = .ok (.iaload, 1) := by decide +kernel
theorem dX4_begin_49 : decode cX4_begin 49 = .ok (.if_icmp .gt 48, 3) := by decide +kernel
theorem dX4_begin_52 : decode cX4_begin 52 = .ok (.aload_n 0, 1) := by decide +kernel
theorem dX4_begin_53 : decode cX4_begin 53 = .ok (.getfield 32, 3) := by decide +kernel
theorem dX4_begin_56 : decode cX4_begin 56 = .ok (.iload_n 2, 1) := by decide +kernel
theorem dX4_begin_57 : decode cX4_begin 57 = .ok (.aload_n 0, 1) := by decide +kernel
theorem dX4_begin_58 : decode cX4_begin 58 = .ok (.getfield 32, 3) := by decide +kernel
theorem dX4_begin_61 : decode cX4_begin 61 = .ok (.iload_n 2, 1) := by decide +kernel
theorem dX4_begin_62 : decode cX4_begin 62 = .ok (.iaload, 1) := by decide +kernel
theorem dX4_begin_63 : decode cX4_begin 63 = .ok (.aload_n 0, 1) := by decide +kernel
theorem dX4_begin_64 : decode cX4_begin 64 = .ok (.getfield 72, 3) := by decide +kernel
theorem dX4_begin_67 : decode cX4_begin 67 = .ok (.iconst 5, 1) := by decide +kernel
theorem dX4_begin_68 : decode cX4_begin 68 = .ok (.iload_n 3, 1) := by decide +kernel
theorem dX4_begin_69 : decode cX4_begin 69 = .ok (.imul, 1) := by decide +kernel
theorem dX4_begin_70 : decode cX4_begin 70 = .ok (.iaload, 1) := by decide +kernel
theorem dX4_begin_71 : decode cX4_begin 71 = .ok (.isub, 1) := by decide +kernel
theorem dX4_begin_72 : decode cX4_begin 72 = .ok (.iastore, 1) := by decide +kernel
theorem dX4_begin_73 : decode cX4_begin 73 = .ok (.aload_n 0, 1) := by decide +kernel
theorem dX4_begin_74 : decode cX4_begin 74 = .ok (.getfield 99, 3) := by decide +kernel
theorem dX4_begin_77 : decode cX4_begin 77 = .ok (.iload_n 1, 1) := by decide +kernel
theorem dX4_begin_78 : decode cX4_begin 78 = .ok (.iload_n 3, 1) := by decide +kernel
theorem dX4_begin_79 : decode cX4_begin 79 = .ok (.iastore, 1) := by decide +kernel
theorem dX4_begin_80 : decode cX4_begin 80 = .ok (.aload_n 0, 1) := by decide +kernel
theorem dX4_begin_81 : decode cX4_begin 81 = .ok (.getfield 102, 3) := by decide +kernel
theorem dX4_begin_84 : decode cX4_begin 84 = .ok (.iload_n 1, 1) := by decide +kernel
theorem dX4_begin_85 : decode cX4_begin 85 = .ok (.aload_n 0, 1) := by decide +kernel
theorem dX4_begin_86 : decode cX4_begin 86 = .ok (.getfield 72, 3) := by decide +kernel
theorem dX4_begin_89 : decode cX4_begin 89 = .ok (.iconst 5, 1) := by decide +kernel
theorem dX4_begin_90 : decode cX4_begin 90 = .ok (.iload_n 3, 1) := by decide +kernel
theorem dX4_begin_91 : decode cX4_begin 91 = .ok (.imul, 1) := by decide +kernel
theorem dX4_begin_92 : decode cX4_begin 92 = .ok (.iaload, 1) := by decide +kernel
theorem dX4_begin_93 : decode cX4_begin 93 = .ok (.iastore, 1) := by decide +kernel
theorem dX4_begin_94 : decode cX4_begin 94 = .ok (.goto 89, 3) := by decide +kernel
theorem dX4_begin_97 : decode cX4_begin 97 = .ok (.aload_n 0, 1) := by decide +kernel
theorem dX4_begin_98 : decode cX4_begin 98 = .ok (.getfield 66, 3) := by decide +kernel
theorem dX4_begin_101 : decode cX4_begin 101 = .ok (.iload 4, 2) := by decide +kernel
theorem dX4_begin_103 : decode cX4_begin 103 = .ok (.iaload, 1) := by decide +kernel
theorem dX4_begin_104 : decode cX4_begin 104 = .ok (.ifCond .le 74, 3) := by decide +kernel
theorem dX4_begin_107 : decode cX4_begin 107 = .ok (.aload_n 0, 1) := by decide +kernel
theorem dX4_begin_108 : decode cX4_begin 108 = .ok (.getfield 29, 3) := by decide +kernel
theorem dX4_begin_111 : decode cX4_begin 111 = .ok (.iload_n 2, 1) := by decide +kernel
theorem dX4_begin_112 : decode cX4_begin 112 = .ok (.iaload, 1) := by decide +kernel
theorem dX4_begin_113 : decode cX4_begin 113 = .ok (.ifCond .le 65, 3) := by decide +kernel
theorem dX4_begin_116 : decode cX4_begin 116 = .ok (.aload_n 0, 1) := by decide +kernel
theorem dX4_begin_117 : decode cX4_begin 117 = .ok (.getfield 29, 3) := by decide +kernel
theorem dX4_begin_120 : decode cX4_begin 120 = .ok (.iload_n 2, 1) := by decide +kernel
theorem dX4_begin_121 : decode cX4_begin 121 = .ok (.iaload, 1) := by decide +kernel
theorem dX4_begin_122 : decode cX4_begin 122 = .ok (.iconst 3, 1) := by decide +kernel
theorem dX4_begin_123 : decode cX4_begin 123 = .ok (.aload_n 0, 1) := by decide +kernel
theorem dX4_begin_124 : decode cX4_begin 124 = .ok (.getfield 75, 3) := by decide +kernel
theorem dX4_begin_127 : decode cX4_begin 127 = .ok (.iconst 5, 1) := by decide +kernel
theorem dX4_begin_128 : decode cX4_begin 128 = .ok (.iload 4, 2) := by decide +kernel
theorem dX4_begin_130 : decode cX4_begin 130 = .ok (.imul, 1) := by decide +kernel
theorem dX4_begin_131 : decode cX4_begin 131 = .ok (.iaload, 1) := by decide +kernel
theorem dX4_begin_132 : decode cX4_begin 132 = .ok (.isub, 1) := by decide +kernel
theorem dX4_begin_133 : decode cX4_begin 133 = .ok (.aload_n 0, 1) := by decide +kernel
theorem dX4_begin_134 : decode cX4_begin 134 = .ok (.getfield 90, 3) := by decide +kernel
theorem dX4_begin_137 : decode cX4_begin 137 = .ok (.iload_n 1, 1) := by decide +kernel
theorem dX4_begin_138 : decode cX4_begin 138 = .ok (.iaload, 1) := by decide +kernel
theorem dX4_begin_139 : decode cX4_begin 139 = .ok (.imul, 1) := by decide +kernel
theorem dX4_begin_140 : decode cX4_begin 140 = .ok (.iconst 4, 1) := by decide +kernel
theorem dX4_begin_141 : decode cX4_begin 141 = .ok (.idiv, 1) := by decide +kernel
theorem dX4_begin_142 : decode cX4_begin 142 = .ok (.if_icmp .lt 36, 3) := by decide +kernel
theorem dX4_begin_145 : decode cX4_begin 145 = .ok (.aload_n 0, 1) := by decide +kernel
theorem dX4_begin_146 : decode cX4_begin 146 = .ok (.getfield 38, 3) := by decide +kernel
theorem dX4_begin_149 : decode cX4_begin 149 = .ok (.iload_n 2, 1) := by decide +kernel
theorem dX4_begin_150 : decode cX4_begin 150 = .ok (.iconst 1, 1) := by decide +kernel
theorem dX4_begin_151 : decode cX4_begin 151 = .ok (.bastore, 1) := by decide +kernel
theorem dX4_begin_152 : decode cX4_begin 152 = .ok (.aload_n 0, 1) := by decide +kernel
theorem dX4_begin_153 : decode cX4_begin 153 = .ok (.getfield 99, 3) := by decide +kernel
theorem dX4_begin_156 : decode cX4_begin 156 = .ok (.iload_n 1, 1) := by decide +kernel
theorem dX4_begin_157 : decode cX4_begin 157 = .ok (.iload 4, 2) := by decide +kernel
theorem dX4_begin_159 : decode cX4_begin 159 = .ok (.iastore, 1) := by decide +kernel
theorem dX4_begin_160 : decode cX4_begin 160 = .ok (.aload_n 0, 1) := by decide +kernel
theorem dX4_begin_161 : decode cX4_begin 161 = .ok (.getfield 102, 3) := by decide +kernel
theorem dX4_begin_164 : decode cX4_begin 164 = .ok (.iload_n 1, 1) := by decide +kernel
theorem dX4_begin_165 : decode cX4_begin 165 = .ok (.aload_n 0, 1) := by decide +kernel
theorem dX4_begin_166 : decode cX4_begin 166 = .ok (.getfield 72, 3) := by decide +kernel
theorem dX4_begin_169 : decode cX4_begin 169 = .ok (.iconst 5, 1) := by decide +kernel
theorem dX4_begin_170 : decode cX4_begin 170 = .ok (.iload 4, 2) := by decide +kernel
theorem dX4_begin_172 : decode cX4_begin 172 = .ok (.imul, 1) := by decide +kernel
theorem dX4_begin_173 : decode cX4_begin 173 = .ok (.iaload, 1) := by decide +kernel
theorem dX4_begin_174 : decode cX4_begin 174 = .ok (.iastore, 1) := by decide +kernel
theorem dX4_begin_175 : decode cX4_begin 175 = .ok (.goto 8, 3) := by decide +kernel
theorem dX4_begin_178 : decode cX4_begin 178 = .ok (.aload_n 0, 1) := by decide +kernel
theorem dX4_begin_179 : decode cX4_begin 179 = .ok (.iload_n 1, 1) := by decide +kernel
theorem dX4_begin_180 : decode cX4_begin 180 = .ok (.invokevirtual 143, 3) := by decide +kernel
theorem dX4_begin_183 : decode cX4_begin 183 = .ok (.return_, 1) := by decide +kernel
theorem dX4_tickRing_0 : decode cX4_tickRing 0 = .ok (.aload_n 0, 1) := by decide +kernel
theorem dX4_tickRing_1 : decode cX4_tickRing 1 = .ok (.getfield 87, 3) := by decide +kernel
theorem dX4_tickRing_4 : decode cX4_tickRing 4 = .ok (.iload_n 1, 1) := by decide +kernel
theorem dX4_tickRing_5 : decode cX4_tickRing 5 = .ok (.iaload, 1) := by decide +kernel
theorem dX4_tickRing_6 : decode cX4_tickRing 6 = .ok (.ifCond .le 34, 3) := by decide +kernel
theorem dX4_tickRing_9 : decode cX4_tickRing 9 = .ok (.aload_n 0, 1) := by decide +kernel
theorem dX4_tickRing_10 : decode cX4_tickRing 10 = .ok (.getfield 87, 3) := by decide +kernel
theorem dX4_tickRing_13 : decode cX4_tickRing 13 = .ok (.iload_n 1, 1) := by decide +kernel
theorem dX4_tickRing_14 : decode cX4_tickRing 14 = .ok (.aload_n 0, 1) := by decide +kernel
theorem dX4_tickRing_15 : decode cX4_tickRing 15 = .ok (.getfield 87, 3) := by decide +kernel
theorem dX4_tickRing_18 : decode cX4_tickRing 18 = .ok (.iload_n 1, 1) := by decide +kernel
theorem dX4_tickRing_19 : decode cX4_tickRing 19 = .ok (.iaload, 1) := by decide +kernel
theorem dX4_tickRing_20 : decode cX4_tickRing 20 = .ok (.iconst 1, 1) := by decide +kernel
theorem dX4_tickRing_21 : decode cX4_tickRing 21 = .ok (.isub, 1) := by decide +kernel
theorem dX4_tickRing_22 : decode cX4_tickRing 22 = .ok (.iastore, 1) := by decide +kernel
theorem dX4_tickRing_23 : decode cX4_tickRing 23 = .ok (.aload_n 0, 1) := by decide +kernel
theorem dX4_tickRing_24 : decode cX4_tickRing 24 = .ok (.getfield 87, 3) := by decide +kernel
theorem dX4_tickRing_27 : decode cX4_tickRing 27 = .ok (.iload_n 1, 1) := by decide +kernel
theorem dX4_tickRing_28 : decode cX4_tickRing 28 = .ok (.iaload, 1) := by decide +kernel
theorem dX4_tickRing_29 : decode cX4_tickRing 29 = .ok (.ifCond .ne 159, 3) := by decide +kernel
theorem dX4_tickRing_32 : decode cX4_tickRing 32 = .ok (.aload_n 0, 1) := by decide +kernel
theorem dX4_tickRing_33 : decode cX4_tickRing 33 = .ok (.iload_n 1, 1) := by decide +kernel
theorem dX4_tickRing_34 : decode cX4_tickRing 34 = .ok (.invokevirtual 153, 3) := by decide +kernel
theorem dX4_tickRing_37 : decode cX4_tickRing 37 = .ok (.goto 151, 3) := by decide +kernel
theorem dX4_tickRing_40 : decode cX4_tickRing 40 = .ok (.aload_n 0, 1) := by decide +kernel
theorem dX4_tickRing_41 : decode cX4_tickRing 41 = .ok (.iload_n 1, 1) := by decide +kernel
theorem dX4_tickRing_42 : decode cX4_tickRing 42 = .ok (.invokevirtual 156, 3) := by decide +kernel
theorem dX4_tickRing_45 : decode cX4_tickRing 45 = .ok (.ifCond .eq 11, 3) := by decide +kernel
theorem dX4_tickRing_48 : decode cX4_tickRing 48 = .ok (.aload_n 0, 1) := by decide +kernel
theorem dX4_tickRing_49 : decode cX4_tickRing 49 = .ok (.iload_n 1, 1) := by decide +kernel
theorem dX4_tickRing_50 : decode cX4_tickRing 50 = .ok (.invokevirtual 140, 3) := by decide +kernel
theorem dX4_tickRing_53 : decode cX4_tickRing 53 = .ok (.goto 135, 3) := by decide +kernel
theorem dX4_tickRing_56 : decode cX4_tickRing 56 = .ok (.aload_n 0, 1) := by decide +kernel
theorem dX4_tickRing_57 : decode cX4_tickRing 57 = .ok (.getfield 96, 3) := by decide +kernel
theorem dX4_tickRing_60 : decode cX4_tickRing 60 = .ok (.iload_n 1, 1) := by decide +kernel
theorem dX4_tickRing_61 : decode cX4_tickRing 61 = .ok (.iaload, 1) := by decide +kernel
theorem dX4_tickRing_62 : decode cX4_tickRing 62 = .ok (.ifCond .le 34, 3) := by decide +kernel
theorem dX4_tickRing_65 : decode cX4_tickRing 65 = .ok (.aload_n 0, 1) := by decide +kernel
theorem dX4_tickRing_66 : decode cX4_tickRing 66 = .ok (.getfield 96, 3) := by decide +kernel
theorem dX4_tickRing_69 : decode cX4_tickRing 69 = .ok (.iload_n 1, 1) := by decide +kernel
theorem dX4_tickRing_70 : decode cX4_tickRing 70 = .ok (.aload_n 0, 1) := by decide +kernel
theorem dX4_tickRing_71 : decode cX4_tickRing 71 = .ok (.getfield 96, 3) := by decide +kernel
theorem dX4_tickRing_74 : decode cX4_tickRing 74 = .ok (.iload_n 1, 1) := by decide +kernel
theorem dX4_tickRing_75 : decode cX4_tickRing 75 = .ok (.iaload, 1) := by decide +kernel
theorem dX4_tickRing_76 : decode cX4_tickRing 76 = .ok (.iconst 1, 1) := by decide +kernel
theorem dX4_tickRing_77 : decode cX4_tickRing 77 = .ok (.isub, 1) := by decide +kernel
theorem dX4_tickRing_78 : decode cX4_tickRing 78 = .ok (.iastore, 1) := by decide +kernel
theorem dX4_tickRing_79 : decode cX4_tickRing 79 = .ok (.aload_n 0, 1) := by decide +kernel
theorem dX4_tickRing_80 : decode cX4_tickRing 80 = .ok (.getfield 96, 3) := by decide +kernel
theorem dX4_tickRing_83 : decode cX4_tickRing 83 = .ok (.iload_n 1, 1) := by decide +kernel
theorem dX4_tickRing_84 : decode cX4_tickRing 84 = .ok (.iaload, 1) := by decide +kernel
theorem dX4_tickRing_85 : decode cX4_tickRing 85 = .ok (.ifCond .ne 103, 3) := by decide +kernel
theorem dX4_tickRing_88 : decode cX4_tickRing 88 = .ok (.aload_n 0, 1) := by decide +kernel
theorem dX4_tickRing_89 : decode cX4_tickRing 89 = .ok (.iload_n 1, 1) := by decide +kernel
theorem dX4_tickRing_90 : decode cX4_tickRing 90 = .ok (.invokevirtual 159, 3) := by decide +kernel
theorem dX4_tickRing_93 : decode cX4_tickRing 93 = .ok (.goto 95, 3) := by decide +kernel
theorem dX4_tickRing_96 : decode cX4_tickRing 96 = .ok (.aload_n 0, 1) := by decide +kernel
theorem dX4_tickRing_97 : decode cX4_tickRing 97 = .ok (.iload_n 1, 1) := by decide +kernel
theorem dX4_tickRing_98 : decode cX4_tickRing 98 = .ok (.invokevirtual 146, 3) := by decide +kernel
theorem dX4_tickRing_101 : decode cX4_tickRing 101 = .ok (.istore_n 2, 1) := by decide +kernel
theorem dX4_tickRing_102 : decode cX4_tickRing 102 = .ok (.aload_n 0, 1) := by decide +kernel
theorem dX4_tickRing_103 : decode cX4_tickRing 103 = .ok (.getfield 99, 3) := by decide +kernel
theorem dX4_tickRing_106 : decode cX4_tickRing 106 = .ok (.iload_n 1, 1) := by decide +kernel
theorem dX4_tickRing_107 : decode cX4_tickRing 107 = .ok (.iaload, 1) := by decide +kernel
theorem dX4_tickRing_108 : decode cX4_tickRing 108 = .ok (.ifCond .lt 66, 3) := by decide +kernel
theorem dX4_tickRing_111 : decode cX4_tickRing 111 = .ok (.aload_n 0, 1) := by decide +kernel
theorem dX4_tickRing_112 : decode cX4_tickRing 112 = .ok (.getfield 102, 3) := by decide +kernel
theorem dX4_tickRing_115 : decode cX4_tickRing 115 = .ok (.iload_n 1, 1) := by decide +kernel
theorem dX4_tickRing_116 : decode cX4_tickRing 116 = .ok (.aload_n 0, 1) := by decide +kernel
theorem dX4_tickRing_117 : decode cX4_tickRing 117 = .ok (.getfield 102, 3) := by decide +kernel
theorem dX4_tickRing_120 : decode cX4_tickRing 120 = .ok (.iload_n 1, 1) := by decide +kernel
theorem dX4_tickRing_121 : decode cX4_tickRing 121 = .ok (.iaload, 1) := by decide +kernel
theorem dX4_tickRing_122 : decode cX4_tickRing 122 = .ok (.iconst 1, 1) := by decide +kernel
theorem dX4_tickRing_123 : decode cX4_tickRing 123 = .ok (.isub, 1) := by decide +kernel
theorem dX4_tickRing_124 : decode cX4_tickRing 124 = .ok (.iastore, 1) := by decide +kernel
theorem dX4_tickRing_125 : decode cX4_tickRing 125 = .ok (.aload_n 0, 1) := by decide +kernel
theorem dX4_tickRing_126 : decode cX4_tickRing 126 = .ok (.getfield 99, 3) := by decide +kernel
theorem dX4_tickRing_129 : decode cX4_tickRing 129 = .ok (.iload_n 1, 1) := by decide +kernel
theorem dX4_tickRing_130 : decode cX4_tickRing 130 = .ok (.iaload, 1) := by decide +kernel
theorem dX4_tickRing_131 : decode cX4_tickRing 131 = .ok (.iconst 2, 1) := by decide +kernel
theorem dX4_tickRing_132 : decode cX4_tickRing 132 = .ok (.irem, 1) := by decide +kernel
theorem dX4_tickRing_133 : decode cX4_tickRing 133 = .ok (.iconst 1, 1) := by decide +kernel
theorem dX4_tickRing_134 : decode cX4_tickRing 134 = .ok (.if_icmp .ne 26, 3) := by decide +kernel
theorem dX4_tickRing_137 : decode cX4_tickRing 137 = .ok (.aload_n 0, 1) := by decide +kernel
theorem dX4_tickRing_138 : decode cX4_tickRing 138 = .ok (.getfield 29, 3) := by decide +kernel
theorem dX4_tickRing_141 : decode cX4_tickRing 141 = .ok (.iload_n 2, 1) := by decide +kernel
theorem dX4_tickRing_142 : decode cX4_tickRing 142 = .ok (.iaload, 1) := by decide +kernel
theorem dX4_tickRing_143 : decode cX4_tickRing 143 = .ok (.ifCond .le 17, 3) := by decide +kernel
theorem dX4_tickRing_146 : decode cX4_tickRing 146 = .ok (.aload_n 0, 1) := by decide +kernel
theorem dX4_tickRing_147 : decode cX4_tickRing 147 = .ok (.getfield 29, 3) := by decide +kernel
theorem dX4_tickRing_150 : decode cX4_tickRing 150 = .ok (.iload_n 2, 1) := by decide +kernel
theorem dX4_tickRing_151 : decode cX4_tickRing 151 = .ok (.aload_n 0, 1) := by decide +kernel
theorem dX4_tickRing_152 : decode cX4_tickRing 152 = .ok (.getfield 29, 3) := by decide +kernel
theorem dX4_tickRing_155 : decode cX4_tickRing 155 = .ok (.iload_n 2, 1) := by decide +kernel
theorem dX4_tickRing_156 : decode cX4_tickRing 156 = .ok (.iaload, 1) := by decide +kernel
theorem dX4_tickRing_157 : decode cX4_tickRing 157 = .ok (.iconst 1, 1) := by decide +kernel
theorem dX4_tickRing_158 : decode cX4_tickRing 158 = .ok (.isub, 1) := by decide +kernel
theorem dX4_tickRing_159 : decode cX4_tickRing 159 = .ok (.iastore, 1) := by decide +kernel
theorem dX4_tickRing_160 : decode cX4_tickRing 160 = .ok (.aload_n 0, 1) := by decide +kernel
theorem dX4_tickRing_161 : decode cX4_tickRing 161 = .ok (.getfield 102, 3) := by decide +kernel
theorem dX4_tickRing_164 : decode cX4_tickRing 164 = .ok (.iload_n 1, 1) := by decide +kernel
theorem dX4_tickRing_165 : decode cX4_tickRing 165 = .ok (.iaload, 1) := by decide +kernel
theorem dX4_tickRing_166 : decode cX4_tickRing 166 = .ok (.ifCond .ne 8, 3) := by decide +kernel
theorem dX4_tickRing_169 : decode cX4_tickRing 169 = .ok (.aload_n 0, 1) := by decide +kernel
theorem dX4_tickRing_170 : decode cX4_tickRing 170 = .ok (.iload_n 1, 1) := by decide +kernel
theorem dX4_tickRing_171 : decode cX4_tickRing 171 = .ok (.invokevirtual 162, 3) := by decide +kernel
theorem dX4_tickRing_174 : decode cX4_tickRing 174 = .ok (.aload_n 0, 1) := by decide +kernel
theorem dX4_tickRing_175 : decode cX4_tickRing 175 = .ok (.getfield 99, 3) := by decide +kernel
theorem dX4_tickRing_178 : decode cX4_tickRing 178 = .ok (.iload_n 1, 1) := by decide +kernel
theorem dX4_tickRing_179 : decode cX4_tickRing 179 = .ok (.iaload, 1) := by decide +kernel
theorem dX4_tickRing_180 : decode cX4_tickRing 180 = .ok (.ifCond .ge 8, 3) := by decide +kernel
theorem dX4_tickRing_183 : decode cX4_tickRing 183 = .ok (.aload_n 0, 1) := by decide +kernel
theorem dX4_tickRing_184 : decode cX4_tickRing 184 = .ok (.iload_n 1, 1) := by decide +kernel
theorem dX4_tickRing_185 : decode cX4_tickRing 185 = .ok (.invokevirtual 165, 3) := by decide +kernel
theorem dX4_tickRing_188 : decode cX4_tickRing 188 = .ok (.return_, 1) := by decide +kernel
theorem dX4_bid_0 : decode cX4_bid 0 = .ok (.aload_n 0, 1) := by decide +kernel
theorem dX4_bid_1 : decode cX4_bid 1 = .ok (.iload_n 1, 1) := by decide +kernel
theorem dX4_bid_2 : decode cX4_bid 2 = .ok (.invokevirtual 168, 3) := by decide +kernel
theorem dX4_bid_5 : decode cX4_bid 5 = .ok (.ifCond .eq 14, 3) := by decide +kernel
theorem dX4_bid_8 : decode cX4_bid 8 = .ok (.iload_n 2, 1) := by decide +kernel
theorem dX4_bid_9 : decode cX4_bid 9 = .ok (.iconst 4, 1) := by decide +kernel
theorem dX4_bid_10 : decode cX4_bid 10 = .ok (.if_icmp .lt 9, 3) := by decide +kernel
theorem dX4_bid_13 : decode cX4_bid 13 = .ok (.iload_n 2, 1) := by decide +kernel
theorem dX4_bid_14 : decode cX4_bid 14 = .ok (.bipush 60, 2) := by decide +kernel
theorem dX4_bid_16 : decode cX4_bid 16 = .ok (.if_icmp .le 5, 3) := by decide +kernel
theorem dX4_bid_19 : decode cX4_bid 19 = .ok (.iconst 0, 1) := by decide +kernel
theorem dX4_bid_20 : decode cX4_bid 20 = .ok (.ireturn, 1) := by decide +kernel
theorem dX4_bid_21 : decode cX4_bid 21 = .ok (.aload_n 0, 1) := by decide +kernel
theorem dX4_bid_22 : decode cX4_bid 22 = .ok (.getfield 16, 3) := by decide +kernel
theorem dX4_bid_25 : decode cX4_bid 25 = .ok (.iload_n 1, 1) := by decide +kernel
theorem dX4_bid_26 : decode cX4_bid 26 = .ok (.iload_n 2, 1) := by decide +kernel
theorem dX4_bid_27 : decode cX4_bid 27 = .ok (.iastore, 1) := by decide +kernel
theorem dX4_bid_28 : decode cX4_bid 28 = .ok (.iconst 1, 1) := by decide +kernel
theorem dX4_bid_29 : decode cX4_bid 29 = .ok (.ireturn, 1) := by decide +kernel
theorem dX4_allot_0 : decode cX4_allot 0 = .ok (.aload_n 0, 1) := by decide +kernel
theorem dX4_allot_1 : decode cX4_allot 1 = .ok (.iload_n 1, 1) := by decide +kernel
theorem dX4_allot_2 : decode cX4_allot 2 = .ok (.invokevirtual 168, 3) := by decide +kernel
theorem dX4_allot_5 : decode cX4_allot 5 = .ok (.ifCond .eq 13, 3) := by decide +kernel
theorem dX4_allot_8 : decode cX4_allot 8 = .ok (.iload_n 2, 1) := by decide +kernel
theorem dX4_allot_9 : decode cX4_allot 9 = .ok (.ifCond .lt 9, 3) := by decide +kernel
theorem dX4_allot_12 : decode cX4_allot 12 = .ok (.iload_n 2, 1) := by decide +kernel
theorem dX4_allot_13 : decode cX4_allot 13 = .ok (.bipush 20, 2) := by decide +kernel
theorem dX4_allot_15 : decode cX4_allot 15 = .ok (.if_icmp .le 5, 3) := by decide +kernel
theorem dX4_allot_18 : decode cX4_allot 18 = .ok (.iconst 0, 1) := by decide +kernel
theorem dX4_allot_19 : decode cX4_allot 19 = .ok (.ireturn, 1) := by decide +kernel
theorem dX4_allot_20 : decode cX4_allot 20 = .ok (.aload_n 0, 1) := by decide +kernel
theorem dX4_allot_21 : decode cX4_allot 21 = .ok (.getfield 20, 3) := by decide +kernel
theorem dX4_allot_24 : decode cX4_allot 24 = .ok (.iload_n 1, 1) := by decide +kernel
theorem dX4_allot_25 : decode cX4_allot 25 = .ok (.iload_n 2, 1) := by decide +kernel
theorem dX4_allot_26 : decode cX4_allot 26 = .ok (.iastore, 1) := by decide +kernel
theorem dX4_allot_27 : decode cX4_allot 27 = .ok (.iconst 1, 1) := by decide +kernel
theorem dX4_allot_28 : decode cX4_allot 28 = .ok (.ireturn, 1) := by decide +kernel
theorem dX4_send_0 : decode cX4_send 0 = .ok (.aload_n 0, 1) := by decide +kernel
theorem dX4_send_1 : decode cX4_send 1 = .ok (.iload_n 1, 1) := by decide +kernel
theorem dX4_send_2 : decode cX4_send 2 = .ok (.invokevirtual 168, 3) := by decide +kernel
theorem dX4_send_5 : decode cX4_send 5 = .ok (.ifCond .eq 38, 3) := by decide +kernel
theorem dX4_send_8 : decode cX4_send 8 = .ok (.aload_n 0, 1) := by decide +kernel
theorem dX4_send_9 : decode cX4_send 9 = .ok (.iload_n 2, 1) := by decide +kernel
theorem dX4_send_10 : decode cX4_send 10 = .ok (.invokevirtual 168, 3) := by decide +kernel
theorem dX4_send_13 : decode cX4_send 13 = .ok (.ifCond .eq 30, 3) := by decide +kernel
theorem dX4_send_16 : decode cX4_send 16 = .ok (.iload_n 1, 1) := by decide +kernel
theorem dX4_send_17 : decode cX4_send 17 = .ok (.iload_n 2, 1) := by decide +kernel
theorem dX4_send_18 : decode cX4_send 18 = .ok (.if_icmp .eq 25, 3) := by decide +kernel
theorem dX4_send_21 : decode cX4_send 21 = .ok (.iload_n 3, 1) := by decide +kernel
theorem dX4_send_22 : decode cX4_send 22 = .ok (.iconst 1, 1) := by decide +kernel
theorem dX4_send_23 : decode cX4_send 23 = .ok (.if_icmp .lt 20, 3) := by decide +kernel
theorem dX4_send_26 : decode cX4_send 26 = .ok (.iload_n 3, 1) := by decide +kernel
theorem dX4_send_27 : decode cX4_send 27 = .ok (.bipush 10, 2) := by decide +kernel
theorem dX4_send_29 : decode cX4_send 29 = .ok (.if_icmp .gt 14, 3) := by decide +kernel
theorem dX4_send_32 : decode cX4_send 32 = .ok (.iload 4, 2) := by decide +kernel
theorem dX4_send_34 : decode cX4_send 34 = .ok (.ifCond .lt 9, 3) := by decide +kernel
theorem dX4_send_37 : decode cX4_send 37 = .ok (.iload 4, 2) := by decide +kernel
theorem dX4_send_39 : decode cX4_send 39 = .ok (.iconst 3, 1) := by decide +kernel
theorem dX4_send_40 : decode cX4_send 40 = .ok (.if_icmp .le 5, 3) := by decide +kernel
theorem dX4_send_43 : decode cX4_send 43 = .ok (.iconst 0, 1) := by decide +kernel
theorem dX4_send_44 : decode cX4_send 44 = .ok (.ireturn, 1) := by decide +kernel
theorem dX4_send_45 : decode cX4_send 45 = .ok (.iload 4, 2) := by decide +kernel
theorem dX4_send_47 : decode cX4_send 47 = .ok (.iconst 3, 1) := by decide +kernel
theorem dX4_send_48 : decode cX4_send 48 = .ok (.if_icmp .ne 9, 3) := by decide +kernel
theorem dX4_send_51 : decode cX4_send 51 = .ok (.iconst 2, 1) := by decide +kernel
theorem dX4_send_52 : decode cX4_send 52 = .ok (.iload_n 1, 1) := by decide +kernel
theorem dX4_send_53 : decode cX4_send 53 = .ok (.imul, 1) := by decide +kernel
theorem dX4_send_54 : decode cX4_send 54 = .ok (.goto 8, 3) := by decide +kernel
theorem dX4_send_57 : decode cX4_send 57 = .ok (.iconst 2, 1) := by decide +kernel
theorem dX4_send_58 : decode cX4_send 58 = .ok (.iload_n 1, 1) := by decide +kernel
theorem dX4_send_59 : decode cX4_send 59 = .ok (.imul, 1) := by decide +kernel
theorem dX4_send_60 : decode cX4_send 60 = .ok (.iconst 1, 1) := by decide +kernel
theorem dX4_send_61 : decode cX4_send 61 = .ok (.iadd, 1) := by decide +kernel
theorem dX4_send_62 : decode cX4_send 62 = .ok (.istore 5, 2) := by decide +kernel
theorem dX4_send_64 : decode cX4_send 64 = .ok (.aload_n 0, 1) := by decide +kernel
theorem dX4_send_65 : decode cX4_send 65 = .ok (.getfield 66, 3) := by decide +kernel
theorem dX4_send_68 : decode cX4_send 68 = .ok (.iload 5, 2) := by decide +kernel
theorem dX4_send_70 : decode cX4_send 70 = .ok (.iaload, 1) := by decide +kernel
theorem dX4_send_71 : decode cX4_send 71 = .ok (.iconst 5, 1) := by decide +kernel
theorem dX4_send_72 : decode cX4_send 72 = .ok (.if_icmp .lt 5, 3) := by decide +kernel
theorem dX4_send_75 : decode cX4_send 75 = .ok (.iconst 0, 1) := by decide +kernel
theorem dX4_send_76 : decode cX4_send 76 = .ok (.ireturn, 1) := by decide +kernel
theorem dX4_send_77 : decode cX4_send 77 = .ok (.iconst 5, 1) := by decide +kernel
theorem dX4_send_78 : decode cX4_send 78 = .ok (.iload 5, 2) := by decide +kernel
theorem dX4_send_80 : decode cX4_send 80 = .ok (.imul, 1) := by decide +kernel
theorem dX4_send_81 : decode cX4_send 81 = .ok (.aload_n 0, 1) := by decide +kernel
theorem dX4_send_82 : decode cX4_send 82 = .ok (.getfield 66, 3) := by decide +kernel
theorem dX4_send_85 : decode cX4_send 85 = .ok (.iload 5, 2) := by decide +kernel
theorem dX4_send_87 : decode cX4_send 87 = .ok (.iaload, 1) := by decide +kernel
theorem dX4_send_88 : decode cX4_send 88 = .ok (.iadd, 1) := by decide +kernel
theorem dX4_send_89 : decode cX4_send 89 = .ok (.istore 6, 2) := by decide +kernel
theorem dX4_send_91 : decode cX4_send 91 = .ok (.aload_n 0, 1) := by decide +kernel
theorem dX4_send_92 : decode cX4_send 92 = .ok (.getfield 69, 3) := by decide +kernel
theorem dX4_send_95 : decode cX4_send 95 = .ok (.iload 6, 2) := by decide +kernel
theorem dX4_send_97 : decode cX4_send 97 = .ok (.iload_n 2, 1) := by decide +kernel
theorem dX4_send_98 : decode cX4_send 98 = .ok (.iastore, 1) := by decide +kernel
theorem dX4_send_99 : decode cX4_send 99 = .ok (.aload_n 0, 1) := by decide +kernel
theorem dX4_send_100 : decode cX4_send 100 = .ok (.getfield 72, 3) := by decide +kernel
theorem dX4_send_103 : decode cX4_send 103 = .ok (.iload 6, 2) := by decide +kernel
theorem dX4_send_105 : decode cX4_send 105 = .ok (.iload_n 3, 1) := by decide +kernel
theorem dX4_send_106 : decode cX4_send 106 = .ok (.iastore, 1) := by decide +kernel
theorem dX4_send_107 : decode cX4_send 107 = .ok (.aload_n 0, 1) := by decide +kernel
theorem dX4_send_108 : decode cX4_send 108 = .ok (.getfield 75, 3) := by decide +kernel
theorem dX4_send_111 : decode cX4_send 111 = .ok (.iload 6, 2) := by decide +kernel
theorem dX4_send_113 : decode cX4_send 113 = .ok (.iload 4, 2) := by decide +kernel
theorem dX4_send_115 : decode cX4_send 115 = .ok (.iastore, 1) := by decide +kernel
theorem dX4_send_116 : decode cX4_send 116 = .ok (.aload_n 0, 1) := by decide +kernel
theorem dX4_send_117 : decode cX4_send 117 = .ok (.getfield 66, 3) := by decide +kernel
theorem dX4_send_120 : decode cX4_send 120 = .ok (.iload 5, 2) := by decide +kernel
theorem dX4_send_122 : decode cX4_send 122 = .ok (.aload_n 0, 1) := by decide +kernel
theorem dX4_send_123 : decode cX4_send 123 = .ok (.getfield 66, 3) := by decide +kernel
theorem dX4_send_126 : decode cX4_send 126 = .ok (.iload 5, 2) := by decide +kernel
theorem dX4_send_128 : decode cX4_send 128 = .ok (.iaload, 1) := by decide +kernel
theorem dX4_send_129 : decode cX4_send 129 = .ok (.iconst 1, 1) := by decide +kernel
theorem dX4_send_130 : decode cX4_send 130 = .ok (.iadd, 1) := by decide +kernel
theorem dX4_send_131 : decode cX4_send 131 = .ok (.iastore, 1) := by decide +kernel
theorem dX4_send_132 : decode cX4_send 132 = .ok (.iconst 1, 1) := by decide +kernel
theorem dX4_send_133 : decode cX4_send 133 = .ok (.ireturn, 1) := by decide +kernel
theorem dX4_cable_0 : decode cX4_cable 0 = .ok (.aload_n 0, 1) := by decide +kernel
theorem dX4_cable_1 : decode cX4_cable 1 = .ok (.iload_n 1, 1) := by decide +kernel
theorem dX4_cable_2 : decode cX4_cable 2 = .ok (.invokevirtual 168, 3) := by decide +kernel
theorem dX4_cable_5 : decode cX4_cable 5 = .ok (.ifCond .eq 13, 3) := by decide +kernel
theorem dX4_cable_8 : decode cX4_cable 8 = .ok (.aload_n 0, 1) := by decide +kernel
theorem dX4_cable_9 : decode cX4_cable 9 = .ok (.getfield 13, 3) := by decide +kernel
theorem dX4_cable_12 : decode cX4_cable 12 = .ok (.iload_n 1, 1) := by decide +kernel
theorem dX4_cable_13 : decode cX4_cable 13 = .ok (.baload, 1) := by decide +kernel
theorem dX4_cable_14 : decode cX4_cable 14 = .ok (.iload_n 2, 1) := by decide +kernel
theorem dX4_cable_15 : decode cX4_cable 15 = .ok (.if_icmp .ne 5, 3) := by decide +kernel
theorem dX4_cable_18 : decode cX4_cable 18 = .ok (.iconst 0, 1) := by decide +kernel
theorem dX4_cable_19 : decode cX4_cable 19 = .ok (.ireturn, 1) := by decide +kernel
theorem dX4_cable_20 : decode cX4_cable 20 = .ok (.aload_n 0, 1) := by decide +kernel
theorem dX4_cable_21 : decode cX4_cable 21 = .ok (.getfield 13, 3) := by decide +kernel
theorem dX4_cable_24 : decode cX4_cable 24 = .ok (.iload_n 1, 1) := by decide +kernel
theorem dX4_cable_25 : decode cX4_cable 25 = .ok (.iload_n 2, 1) := by decide +kernel
theorem dX4_cable_26 : decode cX4_cable 26 = .ok (.bastore, 1) := by decide +kernel
theorem dX4_cable_27 : decode cX4_cable 27 = .ok (.aload_n 0, 1) := by decide +kernel
theorem dX4_cable_28 : decode cX4_cable 28 = .ok (.invokevirtual 115, 3) := by decide +kernel
theorem dX4_cable_31 : decode cX4_cable 31 = .ok (.iconst 1, 1) := by decide +kernel
theorem dX4_cable_32 : decode cX4_cable 32 = .ok (.ireturn, 1) := by decide +kernel
theorem dX4_power_0 : decode cX4_power 0 = .ok (.aload_n 0, 1) := by decide +kernel
theorem dX4_power_1 : decode cX4_power 1 = .ok (.iload_n 1, 1) := by decide +kernel
theorem dX4_power_2 : decode cX4_power 2 = .ok (.invokevirtual 168, 3) := by decide +kernel
theorem dX4_power_5 : decode cX4_power 5 = .ok (.ifCond .eq 13, 3) := by decide +kernel
theorem dX4_power_8 : decode cX4_power 8 = .ok (.aload_n 0, 1) := by decide +kernel
theorem dX4_power_9 : decode cX4_power 9 = .ok (.getfield 7, 3) := by decide +kernel
theorem dX4_power_12 : decode cX4_power 12 = .ok (.iload_n 1, 1) := by decide +kernel
theorem dX4_power_13 : decode cX4_power 13 = .ok (.baload, 1) := by decide +kernel
theorem dX4_power_14 : decode cX4_power 14 = .ok (.iload_n 2, 1) := by decide +kernel
theorem dX4_power_15 : decode cX4_power 15 = .ok (.if_icmp .ne 5, 3) := by decide +kernel
theorem dX4_power_18 : decode cX4_power 18 = .ok (.iconst 0, 1) := by decide +kernel
theorem dX4_power_19 : decode cX4_power 19 = .ok (.ireturn, 1) := by decide +kernel
theorem dX4_power_20 : decode cX4_power 20 = .ok (.aload_n 0, 1) := by decide +kernel
theorem dX4_power_21 : decode cX4_power 21 = .ok (.getfield 7, 3) := by decide +kernel
theorem dX4_power_24 : decode cX4_power 24 = .ok (.iload_n 1, 1) := by decide +kernel
theorem dX4_power_25 : decode cX4_power 25 = .ok (.iload_n 2, 1) := by decide +kernel
theorem dX4_power_26 : decode cX4_power 26 = .ok (.bastore, 1) := by decide +kernel
theorem dX4_power_27 : decode cX4_power 27 = .ok (.aload_n 0, 1) := by decide +kernel
theorem dX4_power_28 : decode cX4_power 28 = .ok (.invokevirtual 115, 3) := by decide +kernel
theorem dX4_power_31 : decode cX4_power 31 = .ok (.aload_n 0, 1) := by decide +kernel
theorem dX4_power_32 : decode cX4_power 32 = .ok (.getfield 66, 3) := by decide +kernel
theorem dX4_power_35 : decode cX4_power 35 = .ok (.iconst 2, 1) := by decide +kernel
theorem dX4_power_36 : decode cX4_power 36 = .ok (.iload_n 1, 1) := by decide +kernel
theorem dX4_power_37 : decode cX4_power 37 = .ok (.imul, 1) := by decide +kernel
theorem dX4_power_38 : decode cX4_power 38 = .ok (.iload_n 2, 1) := by decide +kernel
theorem dX4_power_39 : decode cX4_power 39 = .ok (.ifCond .eq 14, 3) := by decide +kernel
theorem dX4_power_42 : decode cX4_power 42 = .ok (.aload_n 0, 1) := by decide +kernel
theorem dX4_power_43 : decode cX4_power 43 = .ok (.getfield 66, 3) := by decide +kernel
theorem dX4_power_46 : decode cX4_power 46 = .ok (.iconst 2, 1) := by decide +kernel
theorem dX4_power_47 : decode cX4_power 47 = .ok (.iload_n 1, 1) := by decide +kernel
theorem dX4_power_48 : decode cX4_power 48 = .ok (.imul, 1) := by decide +kernel
theorem dX4_power_49 : decode cX4_power 49 = .ok (.iaload, 1) := by decide +kernel
theorem dX4_power_50 : decode cX4_power 50 = .ok (.goto 4, 3) := by decide +kernel
theorem dX4_power_53 : decode cX4_power 53 = .ok (.iconst 0, 1) := by decide +kernel
theorem dX4_power_54 : decode cX4_power 54 = .ok (.iastore, 1) := by decide +kernel
theorem dX4_power_55 : decode cX4_power 55 = .ok (.aload_n 0, 1) := by decide +kernel
theorem dX4_power_56 : decode cX4_power 56 = .ok (.getfield 66, 3) := by decide +kernel
theorem dX4_power_59 : decode cX4_power 59 = .ok (.iconst 2, 1) := by decide +kernel
theorem dX4_power_60 : decode cX4_power 60 = .ok (.iload_n 1, 1) := by decide +kernel
theorem dX4_power_61 : decode cX4_power 61 = .ok (.imul, 1) := by decide +kernel
theorem dX4_power_62 : decode cX4_power 62 = .ok (.iconst 1, 1) := by decide +kernel
theorem dX4_power_63 : decode cX4_power 63 = .ok (.iadd, 1) := by decide +kernel
theorem dX4_power_64 : decode cX4_power 64 = .ok (.iload_n 2, 1) := by decide +kernel
theorem dX4_power_65 : decode cX4_power 65 = .ok (.ifCond .eq 16, 3) := by decide +kernel
theorem dX4_power_68 : decode cX4_power 68 = .ok (.aload_n 0, 1) := by decide +kernel
theorem dX4_power_69 : decode cX4_power 69 = .ok (.getfield 66, 3) := by decide +kernel
theorem dX4_power_72 : decode cX4_power 72 = .ok (.iconst 2, 1) := by decide +kernel
theorem dX4_power_73 : decode cX4_power 73 = .ok (.iload_n 1, 1) := by decide +kernel
theorem dX4_power_74 : decode cX4_power 74 = .ok (.imul, 1) := by decide +kernel
theorem dX4_power_75 : decode cX4_power 75 = .ok (.iconst 1, 1) := by decide +kernel
theorem dX4_power_76 : decode cX4_power 76 = .ok (.iadd, 1) := by decide +kernel
theorem dX4_power_77 : decode cX4_power 77 = .ok (.iaload, 1) := by decide +kernel
theorem dX4_power_78 : decode cX4_power 78 = .ok (.goto 4, 3) := by decide +kernel
theorem dX4_power_81 : decode cX4_power 81 = .ok (.iconst 0, 1) := by decide +kernel
theorem dX4_power_82 : decode cX4_power 82 = .ok (.iastore, 1) := by decide +kernel
theorem dX4_power_83 : decode cX4_power 83 = .ok (.iconst 1, 1) := by decide +kernel
theorem dX4_power_84 : decode cX4_power 84 = .ok (.ireturn, 1) := by decide +kernel
theorem dX4_tick_0 : decode cX4_tick 0 = .ok (.iload_n 1, 1) := by decide +kernel
theorem dX4_tick_1 : decode cX4_tick 1 = .ok (.iconst 1, 1) := by decide +kernel
theorem dX4_tick_2 : decode cX4_tick 2 = .ok (.if_icmp .lt 9, 3) := by decide +kernel
theorem dX4_tick_5 : decode cX4_tick 5 = .ok (.iload_n 1, 1) := by decide +kernel
theorem dX4_tick_6 : decode cX4_tick 6 = .ok (.bipush 100, 2) := by decide +kernel
theorem dX4_tick_8 : decode cX4_tick 8 = .ok (.if_icmp .le 5, 3) := by decide +kernel
theorem dX4_tick_11 : decode cX4_tick 11 = .ok (.iconst 0, 1) := by decide +kernel
theorem dX4_tick_12 : decode cX4_tick 12 = .ok (.ireturn, 1) := by decide +kernel
theorem dX4_tick_13 : decode cX4_tick 13 = .ok (.iconst 0, 1) := by decide +kernel
theorem dX4_tick_14 : decode cX4_tick 14 = .ok (.istore_n 2, 1) := by decide +kernel
theorem dX4_tick_15 : decode cX4_tick 15 = .ok (.iload_n 2, 1) := by decide +kernel
theorem dX4_tick_16 : decode cX4_tick 16 = .ok (.iload_n 1, 1) := by decide +kernel
theorem dX4_tick_17 : decode cX4_tick 17 = .ok (.if_icmp .ge 49, 3) := by decide +kernel
theorem dX4_tick_20 : decode cX4_tick 20 = .ok (.aload_n 0, 1) := by decide +kernel
theorem dX4_tick_21 : decode cX4_tick 21 = .ok (.aload_n 0, 1) := by decide +kernel
theorem dX4_tick_22 : decode cX4_tick 22 = .ok (.getfield 171, 3) := by decide +kernel
theorem dX4_tick_25 : decode cX4_tick 25 = .ok (.iconst 1, 1) := by decide +kernel
theorem dX4_tick_26 : decode cX4_tick 26 = .ok (.iadd, 1) := by decide +kernel
theorem dX4_tick_27 : decode cX4_tick 27 = .ok (.putfield 171, 3) := by decide +kernel
theorem dX4_tick_30 : decode cX4_tick 30 = .ok (.iconst 0, 1) := by decide +kernel
theorem dX4_tick_31 : decode cX4_tick 31 = .ok (.istore_n 3, 1) := by decide +kernel
theorem dX4_tick_32 : decode cX4_tick 32 = .ok (.iload_n 3, 1) := by decide +kernel
theorem dX4_tick_33 : decode cX4_tick 33 = .ok (.aload_n 0, 1) := by decide +kernel
theorem dX4_tick_34 : decode cX4_tick 34 = .ok (.getfield 111, 3) := by decide +kernel
theorem dX4_tick_37 : decode cX4_tick 37 = .ok (.if_icmp .ge 23, 3) := by decide +kernel
theorem dX4_tick_40 : decode cX4_tick 40 = .ok (.aload_n 0, 1) := by decide +kernel
theorem dX4_tick_41 : decode cX4_tick 41 = .ok (.getfield 78, 3) := by decide +kernel
theorem dX4_tick_44 : decode cX4_tick 44 = .ok (.iload_n 3, 1) := by decide +kernel
theorem dX4_tick_45 : decode cX4_tick 45 = .ok (.iaload, 1) := by decide +kernel
theorem dX4_tick_46 : decode cX4_tick 46 = .ok (.ifCond .le 8, 3) := by decide +kernel
theorem dX4_tick_49 : decode cX4_tick 49 = .ok (.aload_n 0, 1) := by decide +kernel
theorem dX4_tick_50 : decode cX4_tick 50 = .ok (.iload_n 3, 1) := by decide +kernel
theorem dX4_tick_51 : decode cX4_tick 51 = .ok (.invokevirtual 174, 3) := by decide +kernel
theorem dX4_tick_54 : decode cX4_tick 54 = .ok (.iinc 3 1, 3) := by decide +kernel
theorem dX4_tick_57 : decode cX4_tick 57 = .ok (.goto (-25), 3) := by decide +kernel
theorem dX4_tick_60 : decode cX4_tick 60 = .ok (.iinc 2 1, 3) := by decide +kernel
theorem dX4_tick_63 : decode cX4_tick 63 = .ok (.goto (-48), 3) := by decide +kernel
theorem dX4_tick_66 : decode cX4_tick 66 = .ok (.iconst 1, 1) := by decide +kernel
theorem dX4_tick_67 : decode cX4_tick 67 = .ok (.ireturn, 1) := by decide +kernel
theorem dX4_ring_0 : decode cX4_ring 0 = .ok (.aload_n 0, 1) := by decide +kernel
theorem dX4_ring_1 : decode cX4_ring 1 = .ok (.iload_n 1, 1) := by decide +kernel
theorem dX4_ring_2 : decode cX4_ring 2 = .ok (.invokevirtual 168, 3) := by decide +kernel
theorem dX4_ring_5 : decode cX4_ring 5 = .ok (.ifCond .eq 12, 3) := by decide +kernel
theorem dX4_ring_8 : decode cX4_ring 8 = .ok (.aload_n 0, 1) := by decide +kernel
theorem dX4_ring_9 : decode cX4_ring 9 = .ok (.getfield 105, 3) := by decide +kernel
theorem dX4_ring_12 : decode cX4_ring 12 = .ok (.iload_n 1, 1) := by decide +kernel
theorem dX4_ring_13 : decode cX4_ring 13 = .ok (.iaload, 1) := by decide +kernel
theorem dX4_ring_14 : decode cX4_ring 14 = .ok (.goto 4, 3) := by decide +kernel
theorem dX4_ring_17 : decode cX4_ring 17 = .ok (.iconst (-1), 1) := by decide +kernel
theorem dX4_ring_18 : decode cX4_ring 18 = .ok (.ireturn, 1) := by decide +kernel
theorem dX4_state_0 : decode cX4_state 0 = .ok (.aload_n 0, 1) := by decide +kernel
theorem dX4_state_1 : decode cX4_state 1 = .ok (.iload_n 1, 1) := by decide +kernel
theorem dX4_state_2 : decode cX4_state 2 = .ok (.invokevirtual 177, 3) := by decide +kernel
theorem dX4_state_5 : decode cX4_state 5 = .ok (.ifCond .ge 5, 3) := by decide +kernel
theorem dX4_state_8 : decode cX4_state 8 = .ok (.iconst 0, 1) := by decide +kernel
theorem dX4_state_9 : decode cX4_state 9 = .ok (.ireturn, 1) := by decide +kernel
theorem dX4_state_10 : decode cX4_state 10 = .ok (.aload_n 0, 1) := by decide +kernel
theorem dX4_state_11 : decode cX4_state 11 = .ok (.getfield 105, 3) := by decide +kernel
theorem dX4_state_14 : decode cX4_state 14 = .ok (.iload_n 1, 1) := by decide +kernel
theorem dX4_state_15 : decode cX4_state 15 = .ok (.iaload, 1) := by decide +kernel
theorem dX4_state_16 : decode cX4_state 16 = .ok (.istore_n 2, 1) := by decide +kernel
theorem dX4_state_17 : decode cX4_state 17 = .ok (.aload_n 0, 1) := by decide +kernel
theorem dX4_state_18 : decode cX4_state 18 = .ok (.getfield 87, 3) := by decide +kernel
theorem dX4_state_21 : decode cX4_state 21 = .ok (.iload_n 2, 1) := by decide +kernel
theorem dX4_state_22 : decode cX4_state 22 = .ok (.iaload, 1) := by decide +kernel
theorem dX4_state_23 : decode cX4_state 23 = .ok (.ifCond .le 5, 3) := by decide +kernel
theorem dX4_state_26 : decode cX4_state 26 = .ok (.iconst 1, 1) := by decide +kernel
theorem dX4_state_27 : decode cX4_state 27 = .ok (.ireturn, 1) := by decide +kernel
theorem dX4_state_28 : decode cX4_state 28 = .ok (.aload_n 0, 1) := by decide +kernel
theorem dX4_state_29 : decode cX4_state 29 = .ok (.iload_n 2, 1) := by decide +kernel
theorem dX4_state_30 : decode cX4_state 30 = .ok (.invokevirtual 146, 3) := by decide +kernel
theorem dX4_state_33 : decode cX4_state 33 = .ok (.iload_n 1, 1) := by decide +kernel
theorem dX4_state_34 : decode cX4_state 34 = .ok (.if_icmp .ne 12, 3) := by decide +kernel
theorem dX4_state_37 : decode cX4_state 37 = .ok (.aload_n 0, 1) := by decide +kernel
theorem dX4_state_38 : decode cX4_state 38 = .ok (.getfield 96, 3) := by decide +kernel
theorem dX4_state_41 : decode cX4_state 41 = .ok (.iload_n 2, 1) := by decide +kernel
theorem dX4_state_42 : decode cX4_state 42 = .ok (.iaload, 1) := by decide +kernel
theorem dX4_state_43 : decode cX4_state 43 = .ok (.ifCond .le 7, 3) := by decide +kernel
theorem dX4_state_46 : decode cX4_state 46 = .ok (.iconst 2, 1) := by decide +kernel
theorem dX4_state_47 : decode cX4_state 47 = .ok (.goto 17, 3) := by decide +kernel
theorem dX4_state_50 : decode cX4_state 50 = .ok (.aload_n 0, 1) := by decide +kernel
theorem dX4_state_51 : decode cX4_state 51 = .ok (.getfield 99, 3) := by decide +kernel
theorem dX4_state_54 : decode cX4_state 54 = .ok (.iload_n 2, 1) := by decide +kernel
theorem dX4_state_55 : decode cX4_state 55 = .ok (.iaload, 1) := by decide +kernel
theorem dX4_state_56 : decode cX4_state 56 = .ok (.ifCond .ge 7, 3) := by decide +kernel
theorem dX4_state_59 : decode cX4_state 59 = .ok (.iconst 3, 1) := by decide +kernel
theorem dX4_state_60 : decode cX4_state 60 = .ok (.goto 4, 3) := by decide +kernel
theorem dX4_state_63 : decode cX4_state 63 = .ok (.iconst 4, 1) := by decide +kernel
theorem dX4_state_64 : decode cX4_state 64 = .ok (.ireturn, 1) := by decide +kernel
theorem dX4_operating_0 : decode cX4_operating 0 = .ok (.aload_n 0, 1) := by decide +kernel
theorem dX4_operating_1 : decode cX4_operating 1 = .ok (.iload_n 1, 1) := by decide +kernel
theorem dX4_operating_2 : decode cX4_operating 2 = .ok (.invokevirtual 177, 3) := by decide +kernel
theorem dX4_operating_5 : decode cX4_operating 5 = .ok (.ifCond .ge 7, 3) := by decide +kernel
theorem dX4_operating_8 : decode cX4_operating 8 = .ok (.iconst 0, 1) := by decide +kernel
theorem dX4_operating_9 : decode cX4_operating 9 = .ok (.goto 14, 3) := by decide +kernel
theorem dX4_operating_12 : decode cX4_operating 12 = .ok (.aload_n 0, 1) := by decide +kernel
theorem dX4_operating_13 : decode cX4_operating 13 = .ok (.getfield 90, 3) := by decide +kernel
theorem dX4_operating_16 : decode cX4_operating 16 = .ok (.aload_n 0, 1) := by decide +kernel
theorem dX4_operating_17 : decode cX4_operating 17 = .ok (.getfield 105, 3) := by decide +kernel
theorem dX4_operating_20 : decode cX4_operating 20 = .ok (.iload_n 1, 1) := by decide +kernel
theorem dX4_operating_21 : decode cX4_operating 21 = .ok (.iaload, 1) := by decide +kernel
theorem dX4_operating_22 : decode cX4_operating 22 = .ok (.iaload, 1) := by decide +kernel
theorem dX4_operating_23 : decode cX4_operating 23 = .ok (.ireturn, 1) := by decide +kernel
theorem dX4_station_0 : decode cX4_station 0 = .ok (.aload_n 0, 1) := by decide +kernel
theorem dX4_station_1 : decode cX4_station 1 = .ok (.iload_n 1, 1) := by decide +kernel
theorem dX4_station_2 : decode cX4_station 2 = .ok (.invokevirtual 168, 3) := by decide +kernel
theorem dX4_station_5 : decode cX4_station 5 = .ok (.ifCond .ne 5, 3) := by decide +kernel
theorem dX4_station_8 : decode cX4_station 8 = .ok (.iconst (-1), 1) := by decide +kernel
theorem dX4_station_9 : decode cX4_station 9 = .ok (.ireturn, 1) := by decide +kernel
theorem dX4_station_10 : decode cX4_station 10 = .ok (.iload_n 2, 1) := by decide +kernel
theorem dX4_station_11 : decode cX4_station 11 = .ok (.iconst 4, 1) := by decide +kernel
theorem dX4_station_12 : decode cX4_station 12 = .ok (.if_icmp .ge 60, 3) := by decide +kernel
theorem dX4_station_15 : decode cX4_station 15 = .ok (.iload_n 2, 1) := by decide +kernel
theorem dX4_station_16 : decode cX4_station 16 = .ok (.ifCond .ne 12, 3) := by decide +kernel
theorem dX4_station_19 : decode cX4_station 19 = .ok (.aload_n 0, 1) := by decide +kernel
theorem dX4_station_20 : decode cX4_station 20 = .ok (.getfield 23, 3) := by decide +kernel
theorem dX4_station_23 : decode cX4_station 23 = .ok (.iload_n 1, 1) := by decide +kernel
theorem dX4_station_24 : decode cX4_station 24 = .ok (.iaload, 1) := by decide +kernel
theorem dX4_station_25 : decode cX4_station 25 = .ok (.goto 46, 3) := by decide +kernel
theorem dX4_station_28 : decode cX4_station 28 = .ok (.iload_n 2, 1) := by decide +kernel
theorem dX4_station_29 : decode cX4_station 29 = .ok (.iconst 1, 1) := by decide +kernel
theorem dX4_station_30 : decode cX4_station 30 = .ok (.if_icmp .ne 12, 3) := by decide +kernel
theorem dX4_station_33 : decode cX4_station 33 = .ok (.aload_n 0, 1) := by decide +kernel
theorem dX4_station_34 : decode cX4_station 34 = .ok (.getfield 26, 3) := by decide +kernel
theorem dX4_station_37 : decode cX4_station 37 = .ok (.iload_n 1, 1) := by decide +kernel
theorem dX4_station_38 : decode cX4_station 38 = .ok (.iaload, 1) := by decide +kernel
theorem dX4_station_39 : decode cX4_station 39 = .ok (.goto 32, 3) := by decide +kernel
theorem dX4_station_42 : decode cX4_station 42 = .ok (.iload_n 2, 1) := by decide +kernel
theorem dX4_station_43 : decode cX4_station 43 = .ok (.iconst 2, 1) := by decide +kernel
theorem dX4_station_44 : decode cX4_station 44 = .ok (.if_icmp .ne 12, 3) := by decide +kernel
theorem dX4_station_47 : decode cX4_station 47 = .ok (.aload_n 0, 1) := by decide +kernel
theorem dX4_station_48 : decode cX4_station 48 = .ok (.getfield 29, 3) := by decide +kernel
theorem dX4_station_51 : decode cX4_station 51 = .ok (.iload_n 1, 1) := by decide +kernel
theorem dX4_station_52 : decode cX4_station 52 = .ok (.iaload, 1) := by decide +kernel
theorem dX4_station_53 : decode cX4_station 53 = .ok (.goto 18, 3) := by decide +kernel
theorem dX4_station_56 : decode cX4_station 56 = .ok (.iload_n 2, 1) := by decide +kernel
theorem dX4_station_57 : decode cX4_station 57 = .ok (.iconst 3, 1) := by decide +kernel
theorem dX4_station_58 : decode cX4_station 58 = .ok (.if_icmp .ne 12, 3) := by decide +kernel
theorem dX4_station_61 : decode cX4_station 61 = .ok (.aload_n 0, 1) := by decide +kernel
theorem dX4_station_62 : decode cX4_station 62 = .ok (.getfield 32, 3) := by decide +kernel
theorem dX4_station_65 : decode cX4_station 65 = .ok (.iload_n 1, 1) := by decide +kernel
theorem dX4_station_66 : decode cX4_station 66 = .ok (.iaload, 1) := by decide +kernel
theorem dX4_station_67 : decode cX4_station 67 = .ok (.goto 4, 3) := by decide +kernel
theorem dX4_station_70 : decode cX4_station 70 = .ok (.iconst (-1), 1) := by decide +kernel
theorem dX4_station_71 : decode cX4_station 71 = .ok (.ireturn, 1) := by decide +kernel
theorem dX4_station_72 : decode cX4_station 72 = .ok (.iload_n 2, 1) := by decide +kernel
theorem dX4_station_73 : decode cX4_station 73 = .ok (.bipush 8, 2) := by decide +kernel
theorem dX4_station_75 : decode cX4_station 75 = .ok (.if_icmp .ge 59, 3) := by decide +kernel
theorem dX4_station_78 : decode cX4_station 78 = .ok (.iload_n 2, 1) := by decide +kernel
theorem dX4_station_79 : decode cX4_station 79 = .ok (.iconst 4, 1) := by decide +kernel
theorem dX4_station_80 : decode cX4_station 80 = .ok (.if_icmp .ne 14, 3) := by decide +kernel
theorem dX4_station_83 : decode cX4_station 83 = .ok (.aload_n 0, 1) := by decide +kernel
theorem dX4_station_84 : decode cX4_station 84 = .ok (.getfield 66, 3) := by decide +kernel
theorem dX4_station_87 : decode cX4_station 87 = .ok (.iconst 2, 1) := by decide +kernel
theorem dX4_station_88 : decode cX4_station 88 = .ok (.iload_n 1, 1) := by decide +kernel
theorem dX4_station_89 : decode cX4_station 89 = .ok (.imul, 1) := by decide +kernel
theorem dX4_station_90 : decode cX4_station 90 = .ok (.iaload, 1) := by decide +kernel
theorem dX4_station_91 : decode cX4_station 91 = .ok (.goto 42, 3) := by decide +kernel
theorem dX4_station_94 : decode cX4_station 94 = .ok (.iload_n 2, 1) := by decide +kernel
theorem dX4_station_95 : decode cX4_station 95 = .ok (.iconst 5, 1) := by decide +kernel
theorem dX4_station_96 : decode cX4_station 96 = .ok (.if_icmp .ne 16, 3) := by decide +kernel
theorem dX4_station_99 : decode cX4_station 99 = .ok (.aload_n 0, 1) := by decide +kernel
theorem dX4_station_100 : decode cX4_station 100 = .ok (.getfield 66, 3) := by decide +kernel
theorem dX4_station_103 : decode cX4_station 103 = .ok (.iconst 2, 1) := by decide +kernel
theorem dX4_station_104 : decode cX4_station 104 = .ok (.iload_n 1, 1) := by decide +kernel
theorem dX4_station_105 : decode cX4_station 105 = .ok (.imul, 1) := by decide +kernel
theorem dX4_station_106 : decode cX4_station 106 = .ok (.iconst 1, 1) := by decide +kernel
theorem dX4_station_107 : decode cX4_station 107 = .ok (.iadd, 1) := by decide +kernel
theorem dX4_station_108 : decode cX4_station 108 = .ok (.iaload, 1) := by decide +kernel
theorem dX4_station_109 : decode cX4_station 109 = .ok (.goto 24, 3) := by decide +kernel
theorem dX4_station_112 : decode cX4_station 112 = .ok (.iload_n 2, 1) := by decide +kernel
theorem dX4_station_113 : decode cX4_station 113 = .ok (.bipush 6, 2) := by decide +kernel
theorem dX4_station_115 : decode cX4_station 115 = .ok (.if_icmp .ne 12, 3) := by decide +kernel
theorem dX4_station_118 : decode cX4_station 118 = .ok (.aload_n 0, 1) := by decide +kernel
theorem dX4_station_119 : decode cX4_station 119 = .ok (.getfield 44, 3) := by decide +kernel
theorem dX4_station_122 : decode cX4_station 122 = .ok (.iload_n 1, 1) := by decide +kernel
theorem dX4_station_123 : decode cX4_station 123 = .ok (.iaload, 1) := by decide +kernel
theorem dX4_station_124 : decode cX4_station 124 = .ok (.goto 9, 3) := by decide +kernel
theorem dX4_station_127 : decode cX4_station 127 = .ok (.aload_n 0, 1) := by decide +kernel
theorem dX4_station_128 : decode cX4_station 128 = .ok (.getfield 47, 3) := by decide +kernel
theorem dX4_station_131 : decode cX4_station 131 = .ok (.iload_n 1, 1) := by decide +kernel
theorem dX4_station_132 : decode cX4_station 132 = .ok (.iaload, 1) := by decide +kernel
theorem dX4_station_133 : decode cX4_station 133 = .ok (.ireturn, 1) := by decide +kernel
theorem dX4_station_134 : decode cX4_station 134 = .ok (.iload_n 2, 1) := by decide +kernel
theorem dX4_station_135 : decode cX4_station 135 = .ok (.bipush 8, 2) := by decide +kernel
theorem dX4_station_137 : decode cX4_station 137 = .ok (.if_icmp .ne 12, 3) := by decide +kernel
theorem dX4_station_140 : decode cX4_station 140 = .ok (.aload_n 0, 1) := by decide +kernel
theorem dX4_station_141 : decode cX4_station 141 = .ok (.getfield 50, 3) := by decide +kernel
theorem dX4_station_144 : decode cX4_station 144 = .ok (.iload_n 1, 1) := by decide +kernel
theorem dX4_station_145 : decode cX4_station 145 = .ok (.iaload, 1) := by decide +kernel
theorem dX4_station_146 : decode cX4_station 146 = .ok (.goto 49, 3) := by decide +kernel
theorem dX4_station_149 : decode cX4_station 149 = .ok (.iload_n 2, 1) := by decide +kernel
theorem dX4_station_150 : decode cX4_station 150 = .ok (.bipush 9, 2) := by decide +kernel
theorem dX4_station_152 : decode cX4_station 152 = .ok (.if_icmp .ne 12, 3) := by decide +kernel
theorem dX4_station_155 : decode cX4_station 155 = .ok (.aload_n 0, 1) := by decide +kernel
theorem dX4_station_156 : decode cX4_station 156 = .ok (.getfield 53, 3) := by decide +kernel
theorem dX4_station_159 : decode cX4_station 159 = .ok (.iload_n 1, 1) := by decide +kernel
theorem dX4_station_160 : decode cX4_station 160 = .ok (.iaload, 1) := by decide +kernel
theorem dX4_station_161 : decode cX4_station 161 = .ok (.goto 34, 3) := by decide +kernel
theorem dX4_station_164 : decode cX4_station 164 = .ok (.iload_n 2, 1) := by decide +kernel
theorem dX4_station_165 : decode cX4_station 165 = .ok (.bipush 10, 2) := by decide +kernel
theorem dX4_station_167 : decode cX4_station 167 = .ok (.if_icmp .ne 12, 3) := by decide +kernel
theorem dX4_station_170 : decode cX4_station 170 = .ok (.aload_n 0, 1) := by decide +kernel
theorem dX4_station_171 : decode cX4_station 171 = .ok (.getfield 56, 3) := by decide +kernel
theorem dX4_station_174 : decode cX4_station 174 = .ok (.iload_n 1, 1) := by decide +kernel
theorem dX4_station_175 : decode cX4_station 175 = .ok (.iaload, 1) := by decide +kernel
theorem dX4_station_176 : decode cX4_station 176 = .ok (.goto 19, 3) := by decide +kernel
theorem dX4_station_179 : decode cX4_station 179 = .ok (.iload_n 2, 1) := by decide +kernel
theorem dX4_station_180 : decode cX4_station 180 = .ok (.bipush 11, 2) := by decide +kernel
theorem dX4_station_182 : decode cX4_station 182 = .ok (.if_icmp .ne 12, 3) := by decide +kernel
theorem dX4_station_185 : decode cX4_station 185 = .ok (.aload_n 0, 1) := by decide +kernel
theorem dX4_station_186 : decode cX4_station 186 = .ok (.getfield 59, 3) := by decide +kernel
theorem dX4_station_189 : decode cX4_station 189 = .ok (.iload_n 1, 1) := by decide +kernel
theorem dX4_station_190 : decode cX4_station 190 = .ok (.iaload, 1) := by decide +kernel
theorem dX4_station_191 : decode cX4_station 191 = .ok (.goto 4, 3) := by decide +kernel
theorem dX4_station_194 : decode cX4_station 194 = .ok (.iconst (-1), 1) := by decide +kernel
theorem dX4_station_195 : decode cX4_station 195 = .ok (.ireturn, 1) := by decide +kernel
theorem dX4_rotation_0 : decode cX4_rotation 0 = .ok (.aload_n 0, 1) := by decide +kernel
theorem dX4_rotation_1 : decode cX4_rotation 1 = .ok (.iload_n 1, 1) := by decide +kernel
theorem dX4_rotation_2 : decode cX4_rotation 2 = .ok (.invokevirtual 168, 3) := by decide +kernel
theorem dX4_rotation_5 : decode cX4_rotation 5 = .ok (.ifCond .eq 12, 3) := by decide +kernel
theorem dX4_rotation_8 : decode cX4_rotation 8 = .ok (.aload_n 0, 1) := by decide +kernel
theorem dX4_rotation_9 : decode cX4_rotation 9 = .ok (.getfield 62, 3) := by decide +kernel
theorem dX4_rotation_12 : decode cX4_rotation 12 = .ok (.iload_n 1, 1) := by decide +kernel
theorem dX4_rotation_13 : decode cX4_rotation 13 = .ok (.faload, 1) := by decide +kernel
theorem dX4_rotation_14 : decode cX4_rotation 14 = .ok (.goto 4, 3) := by decide +kernel
theorem dX4_rotation_17 : decode cX4_rotation 17 = .ok (.fconst 0, 1) := by decide +kernel
theorem dX4_rotation_18 : decode cX4_rotation 18 = .ok (.freturn, 1) := by decide +kernel
theorem dX4_share_0 : decode cX4_share 0 = .ok (.aload_n 0, 1) := by decide +kernel
theorem dX4_share_1 : decode cX4_share 1 = .ok (.iload_n 1, 1) := by decide +kernel
theorem dX4_share_2 : decode cX4_share 2 = .ok (.invokevirtual 168, 3) := by decide +kernel
theorem dX4_share_5 : decode cX4_share 5 = .ok (.ifCond .eq 26, 3) := by decide +kernel
theorem dX4_share_8 : decode cX4_share 8 = .ok (.aload_n 0, 1) := by decide +kernel
theorem dX4_share_9 : decode cX4_share 9 = .ok (.getfield 171, 3) := by decide +kernel
theorem dX4_share_12 : decode cX4_share 12 = .ok (.ifCond .le 19, 3) := by decide +kernel
theorem dX4_share_15 : decode cX4_share 15 = .ok (.aload_n 0, 1) := by decide +kernel
theorem dX4_share_16 : decode cX4_share 16 = .ok (.getfield 56, 3) := by decide +kernel
theorem dX4_share_19 : decode cX4_share 19 = .ok (.iload_n 1, 1) := by decide +kernel
theorem dX4_share_20 : decode cX4_share 20 = .ok (.iaload, 1) := by decide +kernel
theorem dX4_share_21 : decode cX4_share 21 = .ok (.i2d, 1) := by decide +kernel
theorem dX4_share_22 : decode cX4_share 22 = .ok (.aload_n 0, 1) := by decide +kernel
theorem dX4_share_23 : decode cX4_share 23 = .ok (.getfield 171, 3) := by decide +kernel
theorem dX4_share_26 : decode cX4_share 26 = .ok (.i2d, 1) := by decide +kernel
theorem dX4_share_27 : decode cX4_share 27 = .ok (.ddiv, 1) := by decide +kernel
theorem dX4_share_28 : decode cX4_share 28 = .ok (.goto 4, 3) := by decide +kernel
theorem dX4_share_31 : decode cX4_share 31 = .ok (.dconst 0, 1) := by decide +kernel
theorem dX4_share_32 : decode cX4_share 32 = .ok (.dreturn, 1) := by decide +kernel
theorem dX4_longest_0 : decode cX4_longest 0 = .ok (.aload_n 0, 1) := by decide +kernel
theorem dX4_longest_1 : decode cX4_longest 1 = .ok (.getfield 150, 3) := by decide +kernel
theorem dX4_longest_4 : decode cX4_longest 4 = .ok (.ireturn, 1) := by decide +kernel
