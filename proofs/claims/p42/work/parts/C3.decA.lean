/-! the law and its acts: each instruction -/
theorem dL_act_0 : decode cL_act 0 = .ok (.iload_n 2, 1) := by decide +kernel
theorem dL_act_1 : decode cL_act 1 = .ok (.bipush 17, 2) := by decide +kernel
theorem dL_act_3 : decode cL_act 3 = .ok (.invokestatic 27, 3) := by decide +kernel
theorem dL_act_6 : decode cL_act 6 = .ok (.istore_n 3, 1) := by decide +kernel
theorem dL_act_7 : decode cL_act 7 = .ok (.iload_n 2, 1) := by decide +kernel
theorem dL_act_8 : decode cL_act 8 = .ok (.iconst 4, 1) := by decide +kernel
theorem dL_act_9 : decode cL_act 9 = .ok (.ishr, 1) := by decide +kernel
theorem dL_act_10 : decode cL_act 10 = .ok (.istore 4, 2) := by decide +kernel
theorem dL_act_12 : decode cL_act 12 = .ok (.iload_n 3, 1) := by decide +kernel
theorem dL_act_13 : decode cL_act 13 = .ok (.bipush 14, 2) := by decide +kernel
theorem dL_act_15 : decode cL_act 15 = .ok (.if_icmp .le 48, 3) := by decide +kernel
theorem dL_act_18 : decode cL_act 18 = .ok (.aload_n 1, 1) := by decide +kernel
theorem dL_act_19 : decode cL_act 19 = .ok (.getfield 102, 3) := by decide +kernel
theorem dL_act_22 : decode cL_act 22 = .ok (.bipush 60, 2) := by decide +kernel
theorem dL_act_24 : decode cL_act 24 = .ok (.if_icmp .ne 18, 3) := by decide +kernel
theorem dL_act_27 : decode cL_act 27 = .ok (.aload_n 0, 1) := by decide +kernel
theorem dL_act_28 : decode cL_act 28 = .ok (.invokevirtual 140, 3) := by decide +kernel
theorem dL_act_31 : decode cL_act 31 = .ok (.bipush (-2), 2) := by decide +kernel
theorem dL_act_33 : decode cL_act 33 = .ok (.if_icmp .ne 7, 3) := by decide +kernel
theorem dL_act_36 : decode cL_act 36 = .ok (.iconst 0, 1) := by decide +kernel
theorem dL_act_37 : decode cL_act 37 = .ok (.goto 4, 3) := by decide +kernel
theorem dL_act_40 : decode cL_act 40 = .ok (.iconst (-1), 1) := by decide +kernel
theorem dL_act_41 : decode cL_act 41 = .ok (.ireturn, 1) := by decide +kernel
theorem dL_act_42 : decode cL_act 42 = .ok (.aload_n 1, 1) := by decide +kernel
theorem dL_act_43 : decode cL_act 43 = .ok (.invokevirtual 143, 3) := by decide +kernel
theorem dL_act_46 : decode cL_act 46 = .ok (.istore 5, 2) := by decide +kernel
theorem dL_act_48 : decode cL_act 48 = .ok (.aload_n 0, 1) := by decide +kernel
theorem dL_act_49 : decode cL_act 49 = .ok (.invokevirtual 140, 3) := by decide +kernel
theorem dL_act_52 : decode cL_act 52 = .ok (.iload 5, 2) := by decide +kernel
theorem dL_act_54 : decode cL_act 54 = .ok (.if_icmp .ne 7, 3) := by decide +kernel
theorem dL_act_57 : decode cL_act 57 = .ok (.iconst 1, 1) := by decide +kernel
theorem dL_act_58 : decode cL_act 58 = .ok (.goto 4, 3) := by decide +kernel
theorem dL_act_61 : decode cL_act 61 = .ok (.iconst (-1), 1) := by decide +kernel
theorem dL_act_62 : decode cL_act 62 = .ok (.ireturn, 1) := by decide +kernel
theorem dL_act_63 : decode cL_act 63 = .ok (.iload 4, 2) := by decide +kernel
theorem dL_act_65 : decode cL_act 65 = .ok (.iconst 3, 1) := by decide +kernel
theorem dL_act_66 : decode cL_act 66 = .ok (.ishr, 1) := by decide +kernel
theorem dL_act_67 : decode cL_act 67 = .ok (.aload_n 1, 1) := by decide +kernel
theorem dL_act_68 : decode cL_act 68 = .ok (.getfield 39, 3) := by decide +kernel
theorem dL_act_71 : decode cL_act 71 = .ok (.invokestatic 27, 3) := by decide +kernel
theorem dL_act_74 : decode cL_act 74 = .ok (.istore 5, 2) := by decide +kernel
theorem dL_act_76 : decode cL_act 76 = .ok (.iload_n 3, 1) := by decide +kernel
theorem dL_act_77 : decode cL_act 77 = .ok (.bipush 12, 2) := by decide +kernel
theorem dL_act_79 : decode cL_act 79 = .ok (.if_icmp .le 229, 3) := by decide +kernel
theorem dL_act_82 : decode cL_act 82 = .ok (.iload 4, 2) := by decide +kernel
theorem dL_act_84 : decode cL_act 84 = .ok (.iconst 5, 1) := by decide +kernel
theorem dL_act_85 : decode cL_act 85 = .ok (.ishr, 1) := by decide +kernel
theorem dL_act_86 : decode cL_act 86 = .ok (.aload_n 1, 1) := by decide +kernel
theorem dL_act_87 : decode cL_act 87 = .ok (.getfield 31, 3) := by decide +kernel
theorem dL_act_90 : decode cL_act 90 = .ok (.iconst 1, 1) := by decide +kernel
theorem dL_act_91 : decode cL_act 91 = .ok (.iadd, 1) := by decide +kernel
theorem dL_act_92 : decode cL_act 92 = .ok (.invokestatic 27, 3) := by decide +kernel
theorem dL_act_95 : decode cL_act 95 = .ok (.istore 6, 2) := by decide +kernel
theorem dL_act_97 : decode cL_act 97 = .ok (.iload 4, 2) := by decide +kernel
theorem dL_act_99 : decode cL_act 99 = .ok (.bipush 7, 2) := by decide +kernel
theorem dL_act_101 : decode cL_act 101 = .ok (.ishr, 1) := by decide +kernel
theorem dL_act_102 : decode cL_act 102 = .ok (.aload_n 1, 1) := by decide +kernel
theorem dL_act_103 : decode cL_act 103 = .ok (.getfield 31, 3) := by decide +kernel
theorem dL_act_106 : decode cL_act 106 = .ok (.iconst 1, 1) := by decide +kernel
theorem dL_act_107 : decode cL_act 107 = .ok (.iadd, 1) := by decide +kernel
theorem dL_act_108 : decode cL_act 108 = .ok (.invokestatic 27, 3) := by decide +kernel
theorem dL_act_111 : decode cL_act 111 = .ok (.istore 7, 2) := by decide +kernel
theorem dL_act_113 : decode cL_act 113 = .ok (.iload 6, 2) := by decide +kernel
theorem dL_act_115 : decode cL_act 115 = .ok (.iload 7, 2) := by decide +kernel
theorem dL_act_117 : decode cL_act 117 = .ok (.if_icmp .ne 16, 3) := by decide +kernel
theorem dL_act_120 : decode cL_act 120 = .ok (.iload 7, 2) := by decide +kernel
theorem dL_act_122 : decode cL_act 122 = .ok (.iconst 1, 1) := by decide +kernel
theorem dL_act_123 : decode cL_act 123 = .ok (.iadd, 1) := by decide +kernel
theorem dL_act_124 : decode cL_act 124 = .ok (.aload_n 1, 1) := by decide +kernel
theorem dL_act_125 : decode cL_act 125 = .ok (.getfield 31, 3) := by decide +kernel
theorem dL_act_128 : decode cL_act 128 = .ok (.iconst 1, 1) := by decide +kernel
theorem dL_act_129 : decode cL_act 129 = .ok (.iadd, 1) := by decide +kernel
theorem dL_act_130 : decode cL_act 130 = .ok (.irem, 1) := by decide +kernel
theorem dL_act_131 : decode cL_act 131 = .ok (.istore 7, 2) := by decide +kernel
theorem dL_act_133 : decode cL_act 133 = .ok (.aload_n 1, 1) := by decide +kernel
theorem dL_act_134 : decode cL_act 134 = .ok (.getfield 45, 3) := by decide +kernel
theorem dL_act_137 : decode cL_act 137 = .ok (.iload 5, 2) := by decide +kernel
theorem dL_act_139 : decode cL_act 139 = .ok (.aaload, 1) := by decide +kernel
theorem dL_act_140 : decode cL_act 140 = .ok (.iload 6, 2) := by decide +kernel
theorem dL_act_142 : decode cL_act 142 = .ok (.iaload, 1) := by decide +kernel
theorem dL_act_143 : decode cL_act 143 = .ok (.ifCond .ne 8, 3) := by decide +kernel
theorem dL_act_146 : decode cL_act 146 = .ok (.bipush (-2), 2) := by decide +kernel
theorem dL_act_148 : decode cL_act 148 = .ok (.goto 57, 3) := by decide +kernel
theorem dL_act_151 : decode cL_act 151 = .ok (.iload 6, 2) := by decide +kernel
theorem dL_act_153 : decode cL_act 153 = .ok (.ifCond .le 31, 3) := by decide +kernel
theorem dL_act_156 : decode cL_act 156 = .ok (.aload_n 1, 1) := by decide +kernel
theorem dL_act_157 : decode cL_act 157 = .ok (.iload 6, 2) := by decide +kernel
theorem dL_act_159 : decode cL_act 159 = .ok (.iconst 1, 1) := by decide +kernel
theorem dL_act_160 : decode cL_act 160 = .ok (.isub, 1) := by decide +kernel
theorem dL_act_161 : decode cL_act 161 = .ok (.iload 5, 2) := by decide +kernel
theorem dL_act_163 : decode cL_act 163 = .ok (.invokevirtual 144, 3) := by decide +kernel
theorem dL_act_166 : decode cL_act 166 = .ok (.aload_n 1, 1) := by decide +kernel
theorem dL_act_167 : decode cL_act 167 = .ok (.getfield 45, 3) := by decide +kernel
theorem dL_act_170 : decode cL_act 170 = .ok (.iload 5, 2) := by decide +kernel
theorem dL_act_172 : decode cL_act 172 = .ok (.aaload, 1) := by decide +kernel
theorem dL_act_173 : decode cL_act 173 = .ok (.iload 6, 2) := by decide +kernel
theorem dL_act_175 : decode cL_act 175 = .ok (.iaload, 1) := by decide +kernel
theorem dL_act_176 : decode cL_act 176 = .ok (.if_icmp .ne 8, 3) := by decide +kernel
theorem dL_act_179 : decode cL_act 179 = .ok (.bipush (-3), 2) := by decide +kernel
theorem dL_act_181 : decode cL_act 181 = .ok (.goto 24, 3) := by decide +kernel
theorem dL_act_184 : decode cL_act 184 = .ok (.aload_n 1, 1) := by decide +kernel
theorem dL_act_185 : decode cL_act 185 = .ok (.getfield 45, 3) := by decide +kernel
theorem dL_act_188 : decode cL_act 188 = .ok (.iload 5, 2) := by decide +kernel
theorem dL_act_190 : decode cL_act 190 = .ok (.aaload, 1) := by decide +kernel
theorem dL_act_191 : decode cL_act 191 = .ok (.iload 7, 2) := by decide +kernel
theorem dL_act_193 : decode cL_act 193 = .ok (.iaload, 1) := by decide +kernel
theorem dL_act_194 : decode cL_act 194 = .ok (.bipush 9, 2) := by decide +kernel
theorem dL_act_196 : decode cL_act 196 = .ok (.if_icmp .ne 8, 3) := by decide +kernel
theorem dL_act_199 : decode cL_act 199 = .ok (.bipush (-4), 2) := by decide +kernel
theorem dL_act_201 : decode cL_act 201 = .ok (.goto 4, 3) := by decide +kernel
theorem dL_act_204 : decode cL_act 204 = .ok (.iconst 0, 1) := by decide +kernel
theorem dL_act_205 : decode cL_act 205 = .ok (.istore 8, 2) := by decide +kernel
theorem dL_act_207 : decode cL_act 207 = .ok (.iload 8, 2) := by decide +kernel
theorem dL_act_209 : decode cL_act 209 = .ok (.ifCond .ge 28, 3) := by decide +kernel
theorem dL_act_212 : decode cL_act 212 = .ok (.aload_n 0, 1) := by decide +kernel
theorem dL_act_213 : decode cL_act 213 = .ok (.iload 5, 2) := by decide +kernel
theorem dL_act_215 : decode cL_act 215 = .ok (.iload 6, 2) := by decide +kernel
theorem dL_act_217 : decode cL_act 217 = .ok (.iconst 1, 1) := by decide +kernel
theorem dL_act_218 : decode cL_act 218 = .ok (.isub, 1) := by decide +kernel
theorem dL_act_219 : decode cL_act 219 = .ok (.iload 7, 2) := by decide +kernel
theorem dL_act_221 : decode cL_act 221 = .ok (.iconst 1, 1) := by decide +kernel
theorem dL_act_222 : decode cL_act 222 = .ok (.isub, 1) := by decide +kernel
theorem dL_act_223 : decode cL_act 223 = .ok (.invokevirtual 147, 3) := by decide +kernel
theorem dL_act_226 : decode cL_act 226 = .ok (.iload 8, 2) := by decide +kernel
theorem dL_act_228 : decode cL_act 228 = .ok (.if_icmp .ne 7, 3) := by decide +kernel
theorem dL_act_231 : decode cL_act 231 = .ok (.iconst 0, 1) := by decide +kernel
theorem dL_act_232 : decode cL_act 232 = .ok (.goto 4, 3) := by decide +kernel
theorem dL_act_235 : decode cL_act 235 = .ok (.iconst (-1), 1) := by decide +kernel
theorem dL_act_236 : decode cL_act 236 = .ok (.ireturn, 1) := by decide +kernel
theorem dL_act_237 : decode cL_act 237 = .ok (.aload_n 1, 1) := by decide +kernel
theorem dL_act_238 : decode cL_act 238 = .ok (.getfield 45, 3) := by decide +kernel
theorem dL_act_241 : decode cL_act 241 = .ok (.iload 5, 2) := by decide +kernel
theorem dL_act_243 : decode cL_act 243 = .ok (.aaload, 1) := by decide +kernel
theorem dL_act_244 : decode cL_act 244 = .ok (.iload 6, 2) := by decide +kernel
theorem dL_act_246 : decode cL_act 246 = .ok (.dup2, 1) := by decide +kernel
theorem dL_act_247 : decode cL_act 247 = .ok (.iaload, 1) := by decide +kernel
theorem dL_act_248 : decode cL_act 248 = .ok (.iconst 1, 1) := by decide +kernel
theorem dL_act_249 : decode cL_act 249 = .ok (.isub, 1) := by decide +kernel
theorem dL_act_250 : decode cL_act 250 = .ok (.iastore, 1) := by decide +kernel
theorem dL_act_251 : decode cL_act 251 = .ok (.aload_n 1, 1) := by decide +kernel
theorem dL_act_252 : decode cL_act 252 = .ok (.getfield 45, 3) := by decide +kernel
theorem dL_act_255 : decode cL_act 255 = .ok (.iload 5, 2) := by decide +kernel
theorem dL_act_257 : decode cL_act 257 = .ok (.aaload, 1) := by decide +kernel
theorem dL_act_258 : decode cL_act 258 = .ok (.iload 7, 2) := by decide +kernel
theorem dL_act_260 : decode cL_act 260 = .ok (.dup2, 1) := by decide +kernel
theorem dL_act_261 : decode cL_act 261 = .ok (.iaload, 1) := by decide +kernel
theorem dL_act_262 : decode cL_act 262 = .ok (.iconst 1, 1) := by decide +kernel
theorem dL_act_263 : decode cL_act 263 = .ok (.iadd, 1) := by decide +kernel
theorem dL_act_264 : decode cL_act 264 = .ok (.iastore, 1) := by decide +kernel
theorem dL_act_265 : decode cL_act 265 = .ok (.aload_n 1, 1) := by decide +kernel
theorem dL_act_266 : decode cL_act 266 = .ok (.dup, 1) := by decide +kernel
theorem dL_act_267 : decode cL_act 267 = .ok (.getfield 105, 3) := by decide +kernel
theorem dL_act_270 : decode cL_act 270 = .ok (.iconst 1, 1) := by decide +kernel
theorem dL_act_271 : decode cL_act 271 = .ok (.iadd, 1) := by decide +kernel
theorem dL_act_272 : decode cL_act 272 = .ok (.putfield 105, 3) := by decide +kernel
theorem dL_act_275 : decode cL_act 275 = .ok (.aload_n 0, 1) := by decide +kernel
theorem dL_act_276 : decode cL_act 276 = .ok (.iload 5, 2) := by decide +kernel
theorem dL_act_278 : decode cL_act 278 = .ok (.iload 6, 2) := by decide +kernel
theorem dL_act_280 : decode cL_act 280 = .ok (.iconst 1, 1) := by decide +kernel
theorem dL_act_281 : decode cL_act 281 = .ok (.isub, 1) := by decide +kernel
theorem dL_act_282 : decode cL_act 282 = .ok (.iload 7, 2) := by decide +kernel
theorem dL_act_284 : decode cL_act 284 = .ok (.iconst 1, 1) := by decide +kernel
theorem dL_act_285 : decode cL_act 285 = .ok (.isub, 1) := by decide +kernel
theorem dL_act_286 : decode cL_act 286 = .ok (.invokevirtual 147, 3) := by decide +kernel
theorem dL_act_289 : decode cL_act 289 = .ok (.aload_n 1, 1) := by decide +kernel
theorem dL_act_290 : decode cL_act 290 = .ok (.getfield 45, 3) := by decide +kernel
theorem dL_act_293 : decode cL_act 293 = .ok (.iload 5, 2) := by decide +kernel
theorem dL_act_295 : decode cL_act 295 = .ok (.aaload, 1) := by decide +kernel
theorem dL_act_296 : decode cL_act 296 = .ok (.iload 7, 2) := by decide +kernel
theorem dL_act_298 : decode cL_act 298 = .ok (.iaload, 1) := by decide +kernel
theorem dL_act_299 : decode cL_act 299 = .ok (.if_icmp .ne 7, 3) := by decide +kernel
theorem dL_act_302 : decode cL_act 302 = .ok (.iconst 1, 1) := by decide +kernel
theorem dL_act_303 : decode cL_act 303 = .ok (.goto 4, 3) := by decide +kernel
theorem dL_act_306 : decode cL_act 306 = .ok (.iconst (-1), 1) := by decide +kernel
theorem dL_act_307 : decode cL_act 307 = .ok (.ireturn, 1) := by decide +kernel
theorem dL_act_308 : decode cL_act 308 = .ok (.iload 4, 2) := by decide +kernel
theorem dL_act_310 : decode cL_act 310 = .ok (.aload_n 1, 1) := by decide +kernel
theorem dL_act_311 : decode cL_act 311 = .ok (.getfield 31, 3) := by decide +kernel
theorem dL_act_314 : decode cL_act 314 = .ok (.invokestatic 27, 3) := by decide +kernel
theorem dL_act_317 : decode cL_act 317 = .ok (.istore 6, 2) := by decide +kernel
theorem dL_act_319 : decode cL_act 319 = .ok (.iload_n 3, 1) := by decide +kernel
theorem dL_act_320 : decode cL_act 320 = .ok (.bipush 12, 2) := by decide +kernel
theorem dL_act_322 : decode cL_act 322 = .ok (.if_icmp .ne 118, 3) := by decide +kernel
theorem dL_act_325 : decode cL_act 325 = .ok (.aload_n 1, 1) := by decide +kernel
theorem dL_act_326 : decode cL_act 326 = .ok (.iload 6, 2) := by decide +kernel
theorem dL_act_328 : decode cL_act 328 = .ok (.invokevirtual 48, 3) := by decide +kernel
theorem dL_act_331 : decode cL_act 331 = .ok (.astore 7, 2) := by decide +kernel
theorem dL_act_333 : decode cL_act 333 = .ok (.aload_n 1, 1) := by decide +kernel
theorem dL_act_334 : decode cL_act 334 = .ok (.iload 6, 2) := by decide +kernel
theorem dL_act_336 : decode cL_act 336 = .ok (.invokevirtual 151, 3) := by decide +kernel
theorem dL_act_339 : decode cL_act 339 = .ok (.astore 8, 2) := by decide +kernel
theorem dL_act_341 : decode cL_act 341 = .ok (.iconst 0, 1) := by decide +kernel
theorem dL_act_342 : decode cL_act 342 = .ok (.istore 9, 2) := by decide +kernel
theorem dL_act_344 : decode cL_act 344 = .ok (.iconst 0, 1) := by decide +kernel
theorem dL_act_345 : decode cL_act 345 = .ok (.istore 10, 2) := by decide +kernel
theorem dL_act_347 : decode cL_act 347 = .ok (.iload 10, 2) := by decide +kernel
theorem dL_act_349 : decode cL_act 349 = .ok (.aload 7, 2) := by decide +kernel
theorem dL_act_351 : decode cL_act 351 = .ok (.arraylength, 1) := by decide +kernel
theorem dL_act_352 : decode cL_act 352 = .ok (.if_icmp .ge 71, 3) := by decide +kernel
theorem dL_act_355 : decode cL_act 355 = .ok (.aload_n 1, 1) := by decide +kernel
theorem dL_act_356 : decode cL_act 356 = .ok (.getfield 52, 3) := by decide +kernel
theorem dL_act_359 : decode cL_act 359 = .ok (.aload 7, 2) := by decide +kernel
theorem dL_act_361 : decode cL_act 361 = .ok (.iload 10, 2) := by decide +kernel
theorem dL_act_363 : decode cL_act 363 = .ok (.iaload, 1) := by decide +kernel
theorem dL_act_364 : decode cL_act 364 = .ok (.aaload, 1) := by decide +kernel
theorem dL_act_365 : decode cL_act 365 = .ok (.astore 11, 2) := by decide +kernel
theorem dL_act_367 : decode cL_act 367 = .ok (.iload 9, 2) := by decide +kernel
theorem dL_act_369 : decode cL_act 369 = .ok (.aload 11, 2) := by decide +kernel
theorem dL_act_371 : decode cL_act 371 = .ok (.iconst 4, 1) := by decide +kernel
theorem dL_act_372 : decode cL_act 372 = .ok (.iaload, 1) := by decide +kernel
theorem dL_act_373 : decode cL_act 373 = .ok (.aload 8, 2) := by decide +kernel
theorem dL_act_375 : decode cL_act 375 = .ok (.iload 10, 2) := by decide +kernel
theorem dL_act_377 : decode cL_act 377 = .ok (.iaload, 1) := by decide +kernel
theorem dL_act_378 : decode cL_act 378 = .ok (.if_icmp .ne 10, 3) := by decide +kernel
theorem dL_act_381 : decode cL_act 381 = .ok (.aload 11, 2) := by decide +kernel
theorem dL_act_383 : decode cL_act 383 = .ok (.iconst 5, 1) := by decide +kernel
theorem dL_act_384 : decode cL_act 384 = .ok (.iaload, 1) := by decide +kernel
theorem dL_act_385 : decode cL_act 385 = .ok (.ifCond .lt 7, 3) := by decide +kernel
theorem dL_act_388 : decode cL_act 388 = .ok (.iconst 1, 1) := by decide +kernel
theorem dL_act_389 : decode cL_act 389 = .ok (.goto 4, 3) := by decide +kernel
theorem dL_act_392 : decode cL_act 392 = .ok (.iconst 0, 1) := by decide +kernel
theorem dL_act_393 : decode cL_act 393 = .ok (.iadd, 1) := by decide +kernel
theorem dL_act_394 : decode cL_act 394 = .ok (.istore 9, 2) := by decide +kernel
theorem dL_act_396 : decode cL_act 396 = .ok (.aload_n 1, 1) := by decide +kernel
theorem dL_act_397 : decode cL_act 397 = .ok (.aload 7, 2) := by decide +kernel
theorem dL_act_399 : decode cL_act 399 = .ok (.iload 10, 2) := by decide +kernel
theorem dL_act_401 : decode cL_act 401 = .ok (.iaload, 1) := by decide +kernel
theorem dL_act_402 : decode cL_act 402 = .ok (.aload 8, 2) := by decide +kernel
theorem dL_act_404 : decode cL_act 404 = .ok (.iload 10, 2) := by decide +kernel
theorem dL_act_406 : decode cL_act 406 = .ok (.iaload, 1) := by decide +kernel
theorem dL_act_407 : decode cL_act 407 = .ok (.iconst (-1), 1) := by decide +kernel
theorem dL_act_408 : decode cL_act 408 = .ok (.iconst 0, 1) := by decide +kernel
theorem dL_act_409 : decode cL_act 409 = .ok (.aload 11, 2) := by decide +kernel
theorem dL_act_411 : decode cL_act 411 = .ok (.bipush 7, 2) := by decide +kernel
theorem dL_act_413 : decode cL_act 413 = .ok (.iaload, 1) := by decide +kernel
theorem dL_act_414 : decode cL_act 414 = .ok (.invokevirtual 154, 3) := by decide +kernel
theorem dL_act_417 : decode cL_act 417 = .ok (.iinc 10 1, 3) := by decide +kernel
theorem dL_act_420 : decode cL_act 420 = .ok (.goto (-73), 3) := by decide +kernel
theorem dL_act_423 : decode cL_act 423 = .ok (.aload_n 0, 1) := by decide +kernel
theorem dL_act_424 : decode cL_act 424 = .ok (.iload 6, 2) := by decide +kernel
theorem dL_act_426 : decode cL_act 426 = .ok (.invokevirtual 158, 3) := by decide +kernel
theorem dL_act_429 : decode cL_act 429 = .ok (.iload 9, 2) := by decide +kernel
theorem dL_act_431 : decode cL_act 431 = .ok (.if_icmp .ne 7, 3) := by decide +kernel
theorem dL_act_434 : decode cL_act 434 = .ok (.iconst 1, 1) := by decide +kernel
theorem dL_act_435 : decode cL_act 435 = .ok (.goto 4, 3) := by decide +kernel
theorem dL_act_438 : decode cL_act 438 = .ok (.iconst (-1), 1) := by decide +kernel
theorem dL_act_439 : decode cL_act 439 = .ok (.ireturn, 1) := by decide +kernel
theorem dL_act_440 : decode cL_act 440 = .ok (.iload_n 3, 1) := by decide +kernel
theorem dL_act_441 : decode cL_act 441 = .ok (.bipush 11, 2) := by decide +kernel
theorem dL_act_443 : decode cL_act 443 = .ok (.if_icmp .ne 60, 3) := by decide +kernel
theorem dL_act_446 : decode cL_act 446 = .ok (.aload_n 1, 1) := by decide +kernel
theorem dL_act_447 : decode cL_act 447 = .ok (.getfield 35, 3) := by decide +kernel
theorem dL_act_450 : decode cL_act 450 = .ok (.iload 6, 2) := by decide +kernel
theorem dL_act_452 : decode cL_act 452 = .ok (.aaload, 1) := by decide +kernel
theorem dL_act_453 : decode cL_act 453 = .ok (.iconst 1, 1) := by decide +kernel
theorem dL_act_454 : decode cL_act 454 = .ok (.iaload, 1) := by decide +kernel
theorem dL_act_455 : decode cL_act 455 = .ok (.istore 7, 2) := by decide +kernel
theorem dL_act_457 : decode cL_act 457 = .ok (.aload_n 1, 1) := by decide +kernel
theorem dL_act_458 : decode cL_act 458 = .ok (.getfield 35, 3) := by decide +kernel
theorem dL_act_461 : decode cL_act 461 = .ok (.iload 6, 2) := by decide +kernel
theorem dL_act_463 : decode cL_act 463 = .ok (.aaload, 1) := by decide +kernel
theorem dL_act_464 : decode cL_act 464 = .ok (.iconst 1, 1) := by decide +kernel
theorem dL_act_465 : decode cL_act 465 = .ok (.iconst 1, 1) := by decide +kernel
theorem dL_act_466 : decode cL_act 466 = .ok (.iload 4, 2) := by decide +kernel
theorem dL_act_468 : decode cL_act 468 = .ok (.iconst 2, 1) := by decide +kernel
theorem dL_act_469 : decode cL_act 469 = .ok (.ishr, 1) := by decide +kernel
theorem dL_act_470 : decode cL_act 470 = .ok (.bipush 100, 2) := by decide +kernel
theorem dL_act_472 : decode cL_act 472 = .ok (.invokestatic 27, 3) := by decide +kernel
theorem dL_act_475 : decode cL_act 475 = .ok (.iadd, 1) := by decide +kernel
theorem dL_act_476 : decode cL_act 476 = .ok (.iastore, 1) := by decide +kernel
theorem dL_act_477 : decode cL_act 477 = .ok (.aload_n 0, 1) := by decide +kernel
theorem dL_act_478 : decode cL_act 478 = .ok (.iload 6, 2) := by decide +kernel
theorem dL_act_480 : decode cL_act 480 = .ok (.aload_n 1, 1) := by decide +kernel
theorem dL_act_481 : decode cL_act 481 = .ok (.getfield 35, 3) := by decide +kernel
theorem dL_act_484 : decode cL_act 484 = .ok (.iload 6, 2) := by decide +kernel
theorem dL_act_486 : decode cL_act 486 = .ok (.aaload, 1) := by decide +kernel
theorem dL_act_487 : decode cL_act 487 = .ok (.iconst 1, 1) := by decide +kernel
theorem dL_act_488 : decode cL_act 488 = .ok (.iaload, 1) := by decide +kernel
theorem dL_act_489 : decode cL_act 489 = .ok (.invokevirtual 161, 3) := by decide +kernel
theorem dL_act_492 : decode cL_act 492 = .ok (.iload 7, 2) := by decide +kernel
theorem dL_act_494 : decode cL_act 494 = .ok (.if_icmp .ne 7, 3) := by decide +kernel
theorem dL_act_497 : decode cL_act 497 = .ok (.iconst 1, 1) := by decide +kernel
theorem dL_act_498 : decode cL_act 498 = .ok (.goto 4, 3) := by decide +kernel
theorem dL_act_501 : decode cL_act 501 = .ok (.iconst (-1), 1) := by decide +kernel
theorem dL_act_502 : decode cL_act 502 = .ok (.ireturn, 1) := by decide +kernel
theorem dL_act_503 : decode cL_act 503 = .ok (.iload_n 3, 1) := by decide +kernel
theorem dL_act_504 : decode cL_act 504 = .ok (.bipush 10, 2) := by decide +kernel
theorem dL_act_506 : decode cL_act 506 = .ok (.if_icmp .eq 10, 3) := by decide +kernel
theorem dL_act_509 : decode cL_act 509 = .ok (.aload_n 1, 1) := by decide +kernel
theorem dL_act_510 : decode cL_act 510 = .ok (.getfield 55, 3) := by decide +kernel
theorem dL_act_513 : decode cL_act 513 = .ok (.ifCond .ne 40, 3) := by decide +kernel
theorem dL_act_516 : decode cL_act 516 = .ok (.aload_n 1, 1) := by decide +kernel
theorem dL_act_517 : decode cL_act 517 = .ok (.getfield 58, 3) := by decide +kernel
theorem dL_act_520 : decode cL_act 520 = .ok (.istore 7, 2) := by decide +kernel
theorem dL_act_522 : decode cL_act 522 = .ok (.aload_n 1, 1) := by decide +kernel
theorem dL_act_523 : decode cL_act 523 = .ok (.iload 4, 2) := by decide +kernel
theorem dL_act_525 : decode cL_act 525 = .ok (.sipush 1000, 3) := by decide +kernel
theorem dL_act_528 : decode cL_act 528 = .ok (.invokestatic 27, 3) := by decide +kernel
theorem dL_act_531 : decode cL_act 531 = .ok (.putfield 58, 3) := by decide +kernel
theorem dL_act_534 : decode cL_act 534 = .ok (.aload_n 0, 1) := by decide +kernel
theorem dL_act_535 : decode cL_act 535 = .ok (.aload_n 1, 1) := by decide +kernel
theorem dL_act_536 : decode cL_act 536 = .ok (.getfield 58, 3) := by decide +kernel
theorem dL_act_539 : decode cL_act 539 = .ok (.invokevirtual 164, 3) := by decide +kernel
theorem dL_act_542 : decode cL_act 542 = .ok (.iload 7, 2) := by decide +kernel
theorem dL_act_544 : decode cL_act 544 = .ok (.if_icmp .ne 7, 3) := by decide +kernel
theorem dL_act_547 : decode cL_act 547 = .ok (.iconst 1, 1) := by decide +kernel
theorem dL_act_548 : decode cL_act 548 = .ok (.goto 4, 3) := by decide +kernel
theorem dL_act_551 : decode cL_act 551 = .ok (.iconst (-1), 1) := by decide +kernel
theorem dL_act_552 : decode cL_act 552 = .ok (.ireturn, 1) := by decide +kernel
theorem dL_act_553 : decode cL_act 553 = .ok (.iload 4, 2) := by decide +kernel
theorem dL_act_555 : decode cL_act 555 = .ok (.iconst 1, 1) := by decide +kernel
theorem dL_act_556 : decode cL_act 556 = .ok (.ishr, 1) := by decide +kernel
theorem dL_act_557 : decode cL_act 557 = .ok (.aload_n 1, 1) := by decide +kernel
theorem dL_act_558 : decode cL_act 558 = .ok (.getfield 55, 3) := by decide +kernel
theorem dL_act_561 : decode cL_act 561 = .ok (.invokestatic 27, 3) := by decide +kernel
theorem dL_act_564 : decode cL_act 564 = .ok (.istore 7, 2) := by decide +kernel
theorem dL_act_566 : decode cL_act 566 = .ok (.iload_n 3, 1) := by decide +kernel
theorem dL_act_567 : decode cL_act 567 = .ok (.bipush 9, 2) := by decide +kernel
theorem dL_act_569 : decode cL_act 569 = .ok (.if_icmp .ne 59, 3) := by decide +kernel
theorem dL_act_572 : decode cL_act 572 = .ok (.aload_n 1, 1) := by decide +kernel
theorem dL_act_573 : decode cL_act 573 = .ok (.getfield 52, 3) := by decide +kernel
theorem dL_act_576 : decode cL_act 576 = .ok (.iload 7, 2) := by decide +kernel
theorem dL_act_578 : decode cL_act 578 = .ok (.aaload, 1) := by decide +kernel
theorem dL_act_579 : decode cL_act 579 = .ok (.iconst 3, 1) := by decide +kernel
theorem dL_act_580 : decode cL_act 580 = .ok (.iaload, 1) := by decide +kernel
theorem dL_act_581 : decode cL_act 581 = .ok (.istore 8, 2) := by decide +kernel
theorem dL_act_583 : decode cL_act 583 = .ok (.aload_n 1, 1) := by decide +kernel
theorem dL_act_584 : decode cL_act 584 = .ok (.getfield 52, 3) := by decide +kernel
theorem dL_act_587 : decode cL_act 587 = .ok (.iload 7, 2) := by decide +kernel
theorem dL_act_589 : decode cL_act 589 = .ok (.aaload, 1) := by decide +kernel
theorem dL_act_590 : decode cL_act 590 = .ok (.iconst 3, 1) := by decide +kernel
theorem dL_act_591 : decode cL_act 591 = .ok (.iload 4, 2) := by decide +kernel
theorem dL_act_593 : decode cL_act 593 = .ok (.iconst 4, 1) := by decide +kernel
theorem dL_act_594 : decode cL_act 594 = .ok (.ishr, 1) := by decide +kernel
theorem dL_act_595 : decode cL_act 595 = .ok (.sipush 300, 3) := by decide +kernel
theorem dL_act_598 : decode cL_act 598 = .ok (.invokestatic 27, 3) := by decide +kernel
theorem dL_act_601 : decode cL_act 601 = .ok (.iastore, 1) := by decide +kernel
theorem dL_act_602 : decode cL_act 602 = .ok (.aload_n 0, 1) := by decide +kernel
theorem dL_act_603 : decode cL_act 603 = .ok (.iload 7, 2) := by decide +kernel
theorem dL_act_605 : decode cL_act 605 = .ok (.aload_n 1, 1) := by decide +kernel
theorem dL_act_606 : decode cL_act 606 = .ok (.getfield 52, 3) := by decide +kernel
theorem dL_act_609 : decode cL_act 609 = .ok (.iload 7, 2) := by decide +kernel
theorem dL_act_611 : decode cL_act 611 = .ok (.aaload, 1) := by decide +kernel
theorem dL_act_612 : decode cL_act 612 = .ok (.iconst 3, 1) := by decide +kernel
theorem dL_act_613 : decode cL_act 613 = .ok (.iaload, 1) := by decide +kernel
theorem dL_act_614 : decode cL_act 614 = .ok (.invokevirtual 167, 3) := by decide +kernel
theorem dL_act_617 : decode cL_act 617 = .ok (.iload 8, 2) := by decide +kernel
theorem dL_act_619 : decode cL_act 619 = .ok (.if_icmp .ne 7, 3) := by decide +kernel
theorem dL_act_622 : decode cL_act 622 = .ok (.iconst 1, 1) := by decide +kernel
theorem dL_act_623 : decode cL_act 623 = .ok (.goto 4, 3) := by decide +kernel
theorem dL_act_626 : decode cL_act 626 = .ok (.iconst (-1), 1) := by decide +kernel
theorem dL_act_627 : decode cL_act 627 = .ok (.ireturn, 1) := by decide +kernel
theorem dL_act_628 : decode cL_act 628 = .ok (.iload_n 3, 1) := by decide +kernel
theorem dL_act_629 : decode cL_act 629 = .ok (.bipush 8, 2) := by decide +kernel
theorem dL_act_631 : decode cL_act 631 = .ok (.if_icmp .ne 72, 3) := by decide +kernel
theorem dL_act_634 : decode cL_act 634 = .ok (.aload_n 1, 1) := by decide +kernel
theorem dL_act_635 : decode cL_act 635 = .ok (.getfield 52, 3) := by decide +kernel
theorem dL_act_638 : decode cL_act 638 = .ok (.iload 7, 2) := by decide +kernel
theorem dL_act_640 : decode cL_act 640 = .ok (.aaload, 1) := by decide +kernel
theorem dL_act_641 : decode cL_act 641 = .ok (.bipush 7, 2) := by decide +kernel
theorem dL_act_643 : decode cL_act 643 = .ok (.iaload, 1) := by decide +kernel
theorem dL_act_644 : decode cL_act 644 = .ok (.iconst 1, 1) := by decide +kernel
theorem dL_act_645 : decode cL_act 645 = .ok (.if_icmp .ne 20, 3) := by decide +kernel
theorem dL_act_648 : decode cL_act 648 = .ok (.aload_n 0, 1) := by decide +kernel
theorem dL_act_649 : decode cL_act 649 = .ok (.iload 7, 2) := by decide +kernel
theorem dL_act_651 : decode cL_act 651 = .ok (.invokevirtual 170, 3) := by decide +kernel
theorem dL_act_654 : decode cL_act 654 = .ok (.bipush (-2), 2) := by decide +kernel
theorem dL_act_656 : decode cL_act 656 = .ok (.if_icmp .ne 7, 3) := by decide +kernel
theorem dL_act_659 : decode cL_act 659 = .ok (.iconst 0, 1) := by decide +kernel
theorem dL_act_660 : decode cL_act 660 = .ok (.goto 4, 3) := by decide +kernel
theorem dL_act_663 : decode cL_act 663 = .ok (.iconst (-1), 1) := by decide +kernel
theorem dL_act_664 : decode cL_act 664 = .ok (.ireturn, 1) := by decide +kernel
theorem dL_act_665 : decode cL_act 665 = .ok (.aload_n 1, 1) := by decide +kernel
theorem dL_act_666 : decode cL_act 666 = .ok (.getfield 52, 3) := by decide +kernel
theorem dL_act_669 : decode cL_act 669 = .ok (.iload 7, 2) := by decide +kernel
theorem dL_act_671 : decode cL_act 671 = .ok (.aaload, 1) := by decide +kernel
theorem dL_act_672 : decode cL_act 672 = .ok (.iconst 4, 1) := by decide +kernel
theorem dL_act_673 : decode cL_act 673 = .ok (.iaload, 1) := by decide +kernel
theorem dL_act_674 : decode cL_act 674 = .ok (.istore 8, 2) := by decide +kernel
theorem dL_act_676 : decode cL_act 676 = .ok (.aload_n 1, 1) := by decide +kernel
theorem dL_act_677 : decode cL_act 677 = .ok (.iload 7, 2) := by decide +kernel
theorem dL_act_679 : decode cL_act 679 = .ok (.iconst (-1), 1) := by decide +kernel
theorem dL_act_680 : decode cL_act 680 = .ok (.iconst (-1), 1) := by decide +kernel
theorem dL_act_681 : decode cL_act 681 = .ok (.iconst 0, 1) := by decide +kernel
theorem dL_act_682 : decode cL_act 682 = .ok (.iconst 0, 1) := by decide +kernel
theorem dL_act_683 : decode cL_act 683 = .ok (.invokevirtual 154, 3) := by decide +kernel
theorem dL_act_686 : decode cL_act 686 = .ok (.aload_n 0, 1) := by decide +kernel
theorem dL_act_687 : decode cL_act 687 = .ok (.iload 7, 2) := by decide +kernel
theorem dL_act_689 : decode cL_act 689 = .ok (.invokevirtual 170, 3) := by decide +kernel
theorem dL_act_692 : decode cL_act 692 = .ok (.iload 8, 2) := by decide +kernel
theorem dL_act_694 : decode cL_act 694 = .ok (.if_icmp .ne 7, 3) := by decide +kernel
theorem dL_act_697 : decode cL_act 697 = .ok (.iconst 1, 1) := by decide +kernel
theorem dL_act_698 : decode cL_act 698 = .ok (.goto 4, 3) := by decide +kernel
theorem dL_act_701 : decode cL_act 701 = .ok (.iconst (-1), 1) := by decide +kernel
theorem dL_act_702 : decode cL_act 702 = .ok (.ireturn, 1) := by decide +kernel
theorem dL_act_703 : decode cL_act 703 = .ok (.iload_n 3, 1) := by decide +kernel
theorem dL_act_704 : decode cL_act 704 = .ok (.iconst 4, 1) := by decide +kernel
theorem dL_act_705 : decode cL_act 705 = .ok (.if_icmp .le 15, 3) := by decide +kernel
theorem dL_act_708 : decode cL_act 708 = .ok (.aload_n 1, 1) := by decide +kernel
theorem dL_act_709 : decode cL_act 709 = .ok (.getfield 39, 3) := by decide +kernel
theorem dL_act_712 : decode cL_act 712 = .ok (.iconst 1, 1) := by decide +kernel
theorem dL_act_713 : decode cL_act 713 = .ok (.if_icmp .le 7, 3) := by decide +kernel
theorem dL_act_716 : decode cL_act 716 = .ok (.iconst 1, 1) := by decide +kernel
theorem dL_act_717 : decode cL_act 717 = .ok (.goto 4, 3) := by decide +kernel
theorem dL_act_720 : decode cL_act 720 = .ok (.iconst 0, 1) := by decide +kernel
theorem dL_act_721 : decode cL_act 721 = .ok (.istore 8, 2) := by decide +kernel
theorem dL_act_723 : decode cL_act 723 = .ok (.iload 5, 2) := by decide +kernel
theorem dL_act_725 : decode cL_act 725 = .ok (.iconst 1, 1) := by decide +kernel
theorem dL_act_726 : decode cL_act 726 = .ok (.iadd, 1) := by decide +kernel
theorem dL_act_727 : decode cL_act 727 = .ok (.iload 4, 2) := by decide +kernel
theorem dL_act_729 : decode cL_act 729 = .ok (.bipush 6, 2) := by decide +kernel
theorem dL_act_731 : decode cL_act 731 = .ok (.ishr, 1) := by decide +kernel
theorem dL_act_732 : decode cL_act 732 = .ok (.iconst 1, 1) := by decide +kernel
theorem dL_act_733 : decode cL_act 733 = .ok (.aload_n 1, 1) := by decide +kernel
theorem dL_act_734 : decode cL_act 734 = .ok (.getfield 39, 3) := by decide +kernel
theorem dL_act_737 : decode cL_act 737 = .ok (.iconst 1, 1) := by decide +kernel
theorem dL_act_738 : decode cL_act 738 = .ok (.isub, 1) := by decide +kernel
theorem dL_act_739 : decode cL_act 739 = .ok (.invokestatic 173, 3) := by decide +kernel
theorem dL_act_742 : decode cL_act 742 = .ok (.invokestatic 27, 3) := by decide +kernel
theorem dL_act_745 : decode cL_act 745 = .ok (.iadd, 1) := by decide +kernel
theorem dL_act_746 : decode cL_act 746 = .ok (.aload_n 1, 1) := by decide +kernel
theorem dL_act_747 : decode cL_act 747 = .ok (.getfield 39, 3) := by decide +kernel
theorem dL_act_750 : decode cL_act 750 = .ok (.irem, 1) := by decide +kernel
theorem dL_act_751 : decode cL_act 751 = .ok (.istore 9, 2) := by decide +kernel
theorem dL_act_753 : decode cL_act 753 = .ok (.iconst 1, 1) := by decide +kernel
theorem dL_act_754 : decode cL_act 754 = .ok (.iload 4, 2) := by decide +kernel
theorem dL_act_756 : decode cL_act 756 = .ok (.bipush 8, 2) := by decide +kernel
theorem dL_act_758 : decode cL_act 758 = .ok (.ishr, 1) := by decide +kernel
theorem dL_act_759 : decode cL_act 759 = .ok (.bipush 6, 2) := by decide +kernel
theorem dL_act_761 : decode cL_act 761 = .ok (.invokestatic 27, 3) := by decide +kernel
theorem dL_act_764 : decode cL_act 764 = .ok (.iadd, 1) := by decide +kernel
theorem dL_act_765 : decode cL_act 765 = .ok (.istore 10, 2) := by decide +kernel
theorem dL_act_767 : decode cL_act 767 = .ok (.aload_n 1, 1) := by decide +kernel
theorem dL_act_768 : decode cL_act 768 = .ok (.getfield 52, 3) := by decide +kernel
theorem dL_act_771 : decode cL_act 771 = .ok (.iload 7, 2) := by decide +kernel
theorem dL_act_773 : decode cL_act 773 = .ok (.aaload, 1) := by decide +kernel
theorem dL_act_774 : decode cL_act 774 = .ok (.invokevirtual 178, 3) := by decide +kernel
theorem dL_act_777 : decode cL_act 777 = .ok (.checkcast 179, 3) := by decide +kernel
theorem dL_act_780 : decode cL_act 780 = .ok (.astore 11, 2) := by decide +kernel
theorem dL_act_782 : decode cL_act 782 = .ok (.aload 11, 2) := by decide +kernel
theorem dL_act_784 : decode cL_act 784 = .ok (.bipush 7, 2) := by decide +kernel
theorem dL_act_786 : decode cL_act 786 = .ok (.iaload, 1) := by decide +kernel
theorem dL_act_787 : decode cL_act 787 = .ok (.iconst 1, 1) := by decide +kernel
theorem dL_act_788 : decode cL_act 788 = .ok (.if_icmp .ne 8, 3) := by decide +kernel
theorem dL_act_791 : decode cL_act 791 = .ok (.bipush (-2), 2) := by decide +kernel
theorem dL_act_793 : decode cL_act 793 = .ok (.goto 4, 3) := by decide +kernel
theorem dL_act_796 : decode cL_act 796 = .ok (.iconst 0, 1) := by decide +kernel
theorem dL_act_797 : decode cL_act 797 = .ok (.istore 12, 2) := by decide +kernel
theorem dL_act_799 : decode cL_act 799 = .ok (.iload 12, 2) := by decide +kernel
theorem dL_act_801 : decode cL_act 801 = .ok (.ifCond .ne 95, 3) := by decide +kernel
theorem dL_act_804 : decode cL_act 804 = .ok (.aload_n 1, 1) := by decide +kernel
theorem dL_act_805 : decode cL_act 805 = .ok (.iload 7, 2) := by decide +kernel
theorem dL_act_807 : decode cL_act 807 = .ok (.iload 5, 2) := by decide +kernel
theorem dL_act_809 : decode cL_act 809 = .ok (.iload 8, 2) := by decide +kernel
theorem dL_act_811 : decode cL_act 811 = .ok (.ifCond .eq 8, 3) := by decide +kernel
theorem dL_act_814 : decode cL_act 814 = .ok (.iload 9, 2) := by decide +kernel
theorem dL_act_816 : decode cL_act 816 = .ok (.goto 4, 3) := by decide +kernel
theorem dL_act_819 : decode cL_act 819 = .ok (.iconst (-1), 1) := by decide +kernel
theorem dL_act_820 : decode cL_act 820 = .ok (.iload 8, 2) := by decide +kernel
theorem dL_act_822 : decode cL_act 822 = .ok (.ifCond .eq 8, 3) := by decide +kernel
theorem dL_act_825 : decode cL_act 825 = .ok (.iload 10, 2) := by decide +kernel
theorem dL_act_827 : decode cL_act 827 = .ok (.goto 4, 3) := by decide +kernel
theorem dL_act_830 : decode cL_act 830 = .ok (.iconst 0, 1) := by decide +kernel
theorem dL_act_831 : decode cL_act 831 = .ok (.iconst 0, 1) := by decide +kernel
theorem dL_act_832 : decode cL_act 832 = .ok (.invokevirtual 154, 3) := by decide +kernel
theorem dL_act_835 : decode cL_act 835 = .ok (.aload 11, 2) := by decide +kernel
theorem dL_act_837 : decode cL_act 837 = .ok (.iconst 0, 1) := by decide +kernel
theorem dL_act_838 : decode cL_act 838 = .ok (.iaload, 1) := by decide +kernel
theorem dL_act_839 : decode cL_act 839 = .ok (.istore 13, 2) := by decide +kernel
theorem dL_act_841 : decode cL_act 841 = .ok (.aload_n 1, 1) := by decide +kernel
theorem dL_act_842 : decode cL_act 842 = .ok (.iload 13, 2) := by decide +kernel
theorem dL_act_844 : decode cL_act 844 = .ok (.iload 5, 2) := by decide +kernel
theorem dL_act_846 : decode cL_act 846 = .ok (.invokevirtual 144, 3) := by decide +kernel
theorem dL_act_849 : decode cL_act 849 = .ok (.aload_n 1, 1) := by decide +kernel
theorem dL_act_850 : decode cL_act 850 = .ok (.getfield 45, 3) := by decide +kernel
theorem dL_act_853 : decode cL_act 853 = .ok (.iload 5, 2) := by decide +kernel
theorem dL_act_855 : decode cL_act 855 = .ok (.aaload, 1) := by decide +kernel
theorem dL_act_856 : decode cL_act 856 = .ok (.iload 13, 2) := by decide +kernel
theorem dL_act_858 : decode cL_act 858 = .ok (.iconst 1, 1) := by decide +kernel
theorem dL_act_859 : decode cL_act 859 = .ok (.iadd, 1) := by decide +kernel
theorem dL_act_860 : decode cL_act 860 = .ok (.iaload, 1) := by decide +kernel
theorem dL_act_861 : decode cL_act 861 = .ok (.if_icmp .gt 31, 3) := by decide +kernel
theorem dL_act_864 : decode cL_act 864 = .ok (.iload 8, 2) := by decide +kernel
theorem dL_act_866 : decode cL_act 866 = .ok (.ifCond .eq 30, 3) := by decide +kernel
theorem dL_act_869 : decode cL_act 869 = .ok (.aload_n 1, 1) := by decide +kernel
theorem dL_act_870 : decode cL_act 870 = .ok (.iload 13, 2) := by decide +kernel
theorem dL_act_872 : decode cL_act 872 = .ok (.iload 9, 2) := by decide +kernel
theorem dL_act_874 : decode cL_act 874 = .ok (.invokevirtual 144, 3) := by decide +kernel
theorem dL_act_877 : decode cL_act 877 = .ok (.aload_n 1, 1) := by decide +kernel
theorem dL_act_878 : decode cL_act 878 = .ok (.getfield 45, 3) := by decide +kernel
theorem dL_act_881 : decode cL_act 881 = .ok (.iload 9, 2) := by decide +kernel
theorem dL_act_883 : decode cL_act 883 = .ok (.aaload, 1) := by decide +kernel
theorem dL_act_884 : decode cL_act 884 = .ok (.iload 13, 2) := by decide +kernel
theorem dL_act_886 : decode cL_act 886 = .ok (.iconst 1, 1) := by decide +kernel
theorem dL_act_887 : decode cL_act 887 = .ok (.iadd, 1) := by decide +kernel
theorem dL_act_888 : decode cL_act 888 = .ok (.iaload, 1) := by decide +kernel
theorem dL_act_889 : decode cL_act 889 = .ok (.if_icmp .le 7, 3) := by decide +kernel
theorem dL_act_892 : decode cL_act 892 = .ok (.bipush (-3), 2) := by decide +kernel
theorem dL_act_894 : decode cL_act 894 = .ok (.istore 12, 2) := by decide +kernel
theorem dL_act_896 : decode cL_act 896 = .ok (.iload 8, 2) := by decide +kernel
theorem dL_act_898 : decode cL_act 898 = .ok (.ifCond .eq 18, 3) := by decide +kernel
theorem dL_act_901 : decode cL_act 901 = .ok (.aload_n 0, 1) := by decide +kernel
theorem dL_act_902 : decode cL_act 902 = .ok (.iload 7, 2) := by decide +kernel
theorem dL_act_904 : decode cL_act 904 = .ok (.iload 5, 2) := by decide +kernel
theorem dL_act_906 : decode cL_act 906 = .ok (.iload 9, 2) := by decide +kernel
theorem dL_act_908 : decode cL_act 908 = .ok (.iload 10, 2) := by decide +kernel
theorem dL_act_910 : decode cL_act 910 = .ok (.invokevirtual 183, 3) := by decide +kernel
theorem dL_act_913 : decode cL_act 913 = .ok (.goto 11, 3) := by decide +kernel
theorem dL_act_916 : decode cL_act 916 = .ok (.aload_n 0, 1) := by decide +kernel
theorem dL_act_917 : decode cL_act 917 = .ok (.iload 7, 2) := by decide +kernel
theorem dL_act_919 : decode cL_act 919 = .ok (.iload 5, 2) := by decide +kernel
theorem dL_act_921 : decode cL_act 921 = .ok (.invokevirtual 187, 3) := by decide +kernel
theorem dL_act_924 : decode cL_act 924 = .ok (.istore 13, 2) := by decide +kernel
theorem dL_act_926 : decode cL_act 926 = .ok (.iload 12, 2) := by decide +kernel
theorem dL_act_928 : decode cL_act 928 = .ok (.ifCond .ne 21, 3) := by decide +kernel
theorem dL_act_931 : decode cL_act 931 = .ok (.iload 13, 2) := by decide +kernel
theorem dL_act_933 : decode cL_act 933 = .ok (.aload_n 1, 1) := by decide +kernel
theorem dL_act_934 : decode cL_act 934 = .ok (.iload 7, 2) := by decide +kernel
theorem dL_act_936 : decode cL_act 936 = .ok (.iconst (-1), 1) := by decide +kernel
theorem dL_act_937 : decode cL_act 937 = .ok (.invokevirtual 189, 3) := by decide +kernel
theorem dL_act_940 : decode cL_act 940 = .ok (.if_icmp .ne 7, 3) := by decide +kernel
theorem dL_act_943 : decode cL_act 943 = .ok (.iconst 1, 1) := by decide +kernel
theorem dL_act_944 : decode cL_act 944 = .ok (.goto 4, 3) := by decide +kernel
theorem dL_act_947 : decode cL_act 947 = .ok (.iconst (-1), 1) := by decide +kernel
theorem dL_act_948 : decode cL_act 948 = .ok (.ireturn, 1) := by decide +kernel
theorem dL_act_949 : decode cL_act 949 = .ok (.aload_n 1, 1) := by decide +kernel
theorem dL_act_950 : decode cL_act 950 = .ok (.getfield 52, 3) := by decide +kernel
theorem dL_act_953 : decode cL_act 953 = .ok (.iload 7, 2) := by decide +kernel
theorem dL_act_955 : decode cL_act 955 = .ok (.aload 11, 2) := by decide +kernel
theorem dL_act_957 : decode cL_act 957 = .ok (.aastore, 1) := by decide +kernel
theorem dL_act_958 : decode cL_act 958 = .ok (.iload 13, 2) := by decide +kernel
theorem dL_act_960 : decode cL_act 960 = .ok (.iload 12, 2) := by decide +kernel
theorem dL_act_962 : decode cL_act 962 = .ok (.if_icmp .ne 7, 3) := by decide +kernel
theorem dL_act_965 : decode cL_act 965 = .ok (.iconst 0, 1) := by decide +kernel
theorem dL_act_966 : decode cL_act 966 = .ok (.goto 4, 3) := by decide +kernel
theorem dL_act_969 : decode cL_act 969 = .ok (.iconst (-1), 1) := by decide +kernel
theorem dL_act_970 : decode cL_act 970 = .ok (.ireturn, 1) := by decide +kernel
theorem dL_law_0 : decode cL_law 0 = .ok (.new 9, 3) := by decide +kernel
theorem dL_law_3 : decode cL_law 3 = .ok (.dup, 1) := by decide +kernel
theorem dL_law_4 : decode cL_law 4 = .ok (.invokespecial 232, 3) := by decide +kernel
theorem dL_law_7 : decode cL_law 7 = .ok (.astore_n 1, 1) := by decide +kernel
theorem dL_law_8 : decode cL_law 8 = .ok (.bipush 6, 2) := by decide +kernel
theorem dL_law_10 : decode cL_law 10 = .ok (.newarray .int, 2) := by decide +kernel
theorem dL_law_12 : decode cL_law 12 = .ok (.astore_n 2, 1) := by decide +kernel
theorem dL_law_13 : decode cL_law 13 = .ok (.aload_n 1, 1) := by decide +kernel
theorem dL_law_14 : decode cL_law 14 = .ok (.aload_n 2, 1) := by decide +kernel
theorem dL_law_15 : decode cL_law 15 = .ok (.ldc 233, 2) := by decide +kernel
theorem dL_law_17 : decode cL_law 17 = .ok (.invokestatic 71, 3) := by decide +kernel
theorem dL_law_20 : decode cL_law 20 = .ok (.aload_n 1, 1) := by decide +kernel
theorem dL_law_21 : decode cL_law 21 = .ok (.aload_n 1, 1) := by decide +kernel
theorem dL_law_22 : decode cL_law 22 = .ok (.aload_n 2, 1) := by decide +kernel
theorem dL_law_23 : decode cL_law 23 = .ok (.invokestatic 94, 3) := by decide +kernel
theorem dL_law_26 : decode cL_law 26 = .ok (.invokevirtual 98, 3) := by decide +kernel
theorem dL_law_29 : decode cL_law 29 = .ok (.iconst 1, 1) := by decide +kernel
theorem dL_law_30 : decode cL_law 30 = .ok (.if_icmp .ne 104, 3) := by decide +kernel
theorem dL_law_33 : decode cL_law 33 = .ok (.aload_n 1, 1) := by decide +kernel
theorem dL_law_34 : decode cL_law 34 = .ok (.iconst 0, 1) := by decide +kernel
theorem dL_law_35 : decode cL_law 35 = .ok (.iconst 0, 1) := by decide +kernel
theorem dL_law_36 : decode cL_law 36 = .ok (.invokevirtual 187, 3) := by decide +kernel
theorem dL_law_39 : decode cL_law 39 = .ok (.bipush 112, 2) := by decide +kernel
theorem dL_law_41 : decode cL_law 41 = .ok (.if_icmp .ne 93, 3) := by decide +kernel
theorem dL_law_44 : decode cL_law 44 = .ok (.aload_n 1, 1) := by decide +kernel
theorem dL_law_45 : decode cL_law 45 = .ok (.iconst 0, 1) := by decide +kernel
theorem dL_law_46 : decode cL_law 46 = .ok (.iconst 0, 1) := by decide +kernel
theorem dL_law_47 : decode cL_law 47 = .ok (.invokevirtual 200, 3) := by decide +kernel
theorem dL_law_50 : decode cL_law 50 = .ok (.bipush 28, 2) := by decide +kernel
theorem dL_law_52 : decode cL_law 52 = .ok (.if_icmp .ne 82, 3) := by decide +kernel
theorem dL_law_55 : decode cL_law 55 = .ok (.aload_n 1, 1) := by decide +kernel
theorem dL_law_56 : decode cL_law 56 = .ok (.iconst 0, 1) := by decide +kernel
theorem dL_law_57 : decode cL_law 57 = .ok (.iconst 5, 1) := by decide +kernel
theorem dL_law_58 : decode cL_law 58 = .ok (.invokevirtual 113, 3) := by decide +kernel
theorem dL_law_61 : decode cL_law 61 = .ok (.bipush 79, 2) := by decide +kernel
theorem dL_law_63 : decode cL_law 63 = .ok (.if_icmp .ne 71, 3) := by decide +kernel
theorem dL_law_66 : decode cL_law 66 = .ok (.aload_n 1, 1) := by decide +kernel
theorem dL_law_67 : decode cL_law 67 = .ok (.iconst 0, 1) := by decide +kernel
theorem dL_law_68 : decode cL_law 68 = .ok (.invokevirtual 223, 3) := by decide +kernel
theorem dL_law_71 : decode cL_law 71 = .ok (.ifCond .eq 63, 3) := by decide +kernel
theorem dL_law_74 : decode cL_law 74 = .ok (.aload_n 1, 1) := by decide +kernel
theorem dL_law_75 : decode cL_law 75 = .ok (.invokevirtual 140, 3) := by decide +kernel
theorem dL_law_78 : decode cL_law 78 = .ok (.bipush 112, 2) := by decide +kernel
theorem dL_law_80 : decode cL_law 80 = .ok (.if_icmp .ne 54, 3) := by decide +kernel
theorem dL_law_83 : decode cL_law 83 = .ok (.aload_n 1, 1) := by decide +kernel
theorem dL_law_84 : decode cL_law 84 = .ok (.bipush 7, 2) := by decide +kernel
theorem dL_law_86 : decode cL_law 86 = .ok (.invokevirtual 110, 3) := by decide +kernel
theorem dL_law_89 : decode cL_law 89 = .ok (.iconst 1, 1) := by decide +kernel
theorem dL_law_90 : decode cL_law 90 = .ok (.if_icmp .ne 44, 3) := by decide +kernel
theorem dL_law_93 : decode cL_law 93 = .ok (.aload_n 1, 1) := by decide +kernel
theorem dL_law_94 : decode cL_law 94 = .ok (.iconst 0, 1) := by decide +kernel
theorem dL_law_95 : decode cL_law 95 = .ok (.iconst 5, 1) := by decide +kernel
theorem dL_law_96 : decode cL_law 96 = .ok (.invokevirtual 120, 3) := by decide +kernel
theorem dL_law_99 : decode cL_law 99 = .ok (.iconst 4, 1) := by decide +kernel
theorem dL_law_100 : decode cL_law 100 = .ok (.if_icmp .ne 34, 3) := by decide +kernel
theorem dL_law_103 : decode cL_law 103 = .ok (.aload_n 1, 1) := by decide +kernel
theorem dL_law_104 : decode cL_law 104 = .ok (.iconst 0, 1) := by decide +kernel
theorem dL_law_105 : decode cL_law 105 = .ok (.bipush 8, 2) := by decide +kernel
theorem dL_law_107 : decode cL_law 107 = .ok (.invokevirtual 108, 3) := by decide +kernel
theorem dL_law_110 : decode cL_law 110 = .ok (.bipush 56, 2) := by decide +kernel
theorem dL_law_112 : decode cL_law 112 = .ok (.if_icmp .ne 22, 3) := by decide +kernel
theorem dL_law_115 : decode cL_law 115 = .ok (.aload_n 1, 1) := by decide +kernel
theorem dL_law_116 : decode cL_law 116 = .ok (.iconst 0, 1) := by decide +kernel
theorem dL_law_117 : decode cL_law 117 = .ok (.iconst 0, 1) := by decide +kernel
theorem dL_law_118 : decode cL_law 118 = .ok (.invokevirtual 187, 3) := by decide +kernel
theorem dL_law_121 : decode cL_law 121 = .ok (.bipush (-2), 2) := by decide +kernel
theorem dL_law_123 : decode cL_law 123 = .ok (.if_icmp .ne 11, 3) := by decide +kernel
theorem dL_law_126 : decode cL_law 126 = .ok (.aload_n 1, 1) := by decide +kernel
theorem dL_law_127 : decode cL_law 127 = .ok (.invokevirtual 220, 3) := by decide +kernel
theorem dL_law_130 : decode cL_law 130 = .ok (.iconst 1, 1) := by decide +kernel
theorem dL_law_131 : decode cL_law 131 = .ok (.if_icmp .eq 5, 3) := by decide +kernel
theorem dL_law_134 : decode cL_law 134 = .ok (.iconst 0, 1) := by decide +kernel
theorem dL_law_135 : decode cL_law 135 = .ok (.ireturn, 1) := by decide +kernel
theorem dL_law_136 : decode cL_law 136 = .ok (.aload_n 0, 1) := by decide +kernel
theorem dL_law_137 : decode cL_law 137 = .ok (.iconst 0, 1) := by decide +kernel
theorem dL_law_138 : decode cL_law 138 = .ok (.invokestatic 235, 3) := by decide +kernel
theorem dL_law_141 : decode cL_law 141 = .ok (.astore_n 3, 1) := by decide +kernel
theorem dL_law_142 : decode cL_law 142 = .ok (.aload_n 1, 1) := by decide +kernel
theorem dL_law_143 : decode cL_law 143 = .ok (.aload_n 2, 1) := by decide +kernel
theorem dL_law_144 : decode cL_law 144 = .ok (.aload_n 3, 1) := by decide +kernel
theorem dL_law_145 : decode cL_law 145 = .ok (.invokestatic 239, 3) := by decide +kernel
theorem dL_law_148 : decode cL_law 148 = .ok (.aload_n 3, 1) := by decide +kernel
theorem dL_law_149 : decode cL_law 149 = .ok (.getfield 55, 3) := by decide +kernel
theorem dL_law_152 : decode cL_law 152 = .ok (.if_icmp .ne 10, 3) := by decide +kernel
theorem dL_law_155 : decode cL_law 155 = .ok (.aload_n 1, 1) := by decide +kernel
theorem dL_law_156 : decode cL_law 156 = .ok (.invokestatic 229, 3) := by decide +kernel
theorem dL_law_159 : decode cL_law 159 = .ok (.ifCond .ne 5, 3) := by decide +kernel
theorem dL_law_162 : decode cL_law 162 = .ok (.iconst 0, 1) := by decide +kernel
theorem dL_law_163 : decode cL_law 163 = .ok (.ireturn, 1) := by decide +kernel
theorem dL_law_164 : decode cL_law 164 = .ok (.aload_n 1, 1) := by decide +kernel
theorem dL_law_165 : decode cL_law 165 = .ok (.invokevirtual 243, 3) := by decide +kernel
theorem dL_law_168 : decode cL_law 168 = .ok (.aload_n 1, 1) := by decide +kernel
theorem dL_law_169 : decode cL_law 169 = .ok (.invokestatic 210, 3) := by decide +kernel
theorem dL_law_172 : decode cL_law 172 = .ok (.lstore 4, 2) := by decide +kernel
theorem dL_law_174 : decode cL_law 174 = .ok (.aload_n 3, 1) := by decide +kernel
theorem dL_law_175 : decode cL_law 175 = .ok (.getfield 39, 3) := by decide +kernel
theorem dL_law_178 : decode cL_law 178 = .ok (.newarray .int, 2) := by decide +kernel
theorem dL_law_180 : decode cL_law 180 = .ok (.astore 6, 2) := by decide +kernel
theorem dL_law_182 : decode cL_law 182 = .ok (.iconst 0, 1) := by decide +kernel
theorem dL_law_183 : decode cL_law 183 = .ok (.istore 7, 2) := by decide +kernel
theorem dL_law_185 : decode cL_law 185 = .ok (.iload 7, 2) := by decide +kernel
theorem dL_law_187 : decode cL_law 187 = .ok (.aload_n 3, 1) := by decide +kernel
theorem dL_law_188 : decode cL_law 188 = .ok (.getfield 39, 3) := by decide +kernel
theorem dL_law_191 : decode cL_law 191 = .ok (.if_icmp .ge 43, 3) := by decide +kernel
theorem dL_law_194 : decode cL_law 194 = .ok (.iconst (-1), 1) := by decide +kernel
theorem dL_law_195 : decode cL_law 195 = .ok (.istore 8, 2) := by decide +kernel
theorem dL_law_197 : decode cL_law 197 = .ok (.iload 8, 2) := by decide +kernel
theorem dL_law_199 : decode cL_law 199 = .ok (.aload_n 3, 1) := by decide +kernel
theorem dL_law_200 : decode cL_law 200 = .ok (.getfield 31, 3) := by decide +kernel
theorem dL_law_203 : decode cL_law 203 = .ok (.if_icmp .ge 25, 3) := by decide +kernel
theorem dL_law_206 : decode cL_law 206 = .ok (.aload 6, 2) := by decide +kernel
theorem dL_law_208 : decode cL_law 208 = .ok (.iload 7, 2) := by decide +kernel
theorem dL_law_210 : decode cL_law 210 = .ok (.dup2, 1) := by decide +kernel
theorem dL_law_211 : decode cL_law 211 = .ok (.iaload, 1) := by decide +kernel
theorem dL_law_212 : decode cL_law 212 = .ok (.aload_n 1, 1) := by decide +kernel
theorem dL_law_213 : decode cL_law 213 = .ok (.iload 7, 2) := by decide +kernel
theorem dL_law_215 : decode cL_law 215 = .ok (.iload 8, 2) := by decide +kernel
theorem dL_law_217 : decode cL_law 217 = .ok (.invokevirtual 125, 3) := by decide +kernel
theorem dL_law_220 : decode cL_law 220 = .ok (.iadd, 1) := by decide +kernel
theorem dL_law_221 : decode cL_law 221 = .ok (.iastore, 1) := by decide +kernel
theorem dL_law_222 : decode cL_law 222 = .ok (.iinc 8 1, 3) := by decide +kernel
theorem dL_law_225 : decode cL_law 225 = .ok (.goto (-28), 3) := by decide +kernel
theorem dL_law_228 : decode cL_law 228 = .ok (.iinc 7 1, 3) := by decide +kernel
theorem dL_law_231 : decode cL_law 231 = .ok (.goto (-46), 3) := by decide +kernel
theorem dL_law_234 : decode cL_law 234 = .ok (.bipush 10, 2) := by decide +kernel
theorem dL_law_236 : decode cL_law 236 = .ok (.newarray .long, 2) := by decide +kernel
theorem dL_law_238 : decode cL_law 238 = .ok (.astore 7, 2) := by decide +kernel
theorem dL_law_240 : decode cL_law 240 = .ok (.iconst 0, 1) := by decide +kernel
theorem dL_law_241 : decode cL_law 241 = .ok (.istore 8, 2) := by decide +kernel
theorem dL_law_243 : decode cL_law 243 = .ok (.iconst 0, 1) := by decide +kernel
theorem dL_law_244 : decode cL_law 244 = .ok (.istore 9, 2) := by decide +kernel
theorem dL_law_246 : decode cL_law 246 = .ok (.iload 9, 2) := by decide +kernel
theorem dL_law_248 : decode cL_law 248 = .ok (.bipush 32, 2) := by decide +kernel
theorem dL_law_250 : decode cL_law 250 = .ok (.if_icmp .ge 193, 3) := by decide +kernel
theorem dL_law_253 : decode cL_law 253 = .ok (.aload_n 0, 1) := by decide +kernel
theorem dL_law_254 : decode cL_law 254 = .ok (.bipush 8, 2) := by decide +kernel
theorem dL_law_256 : decode cL_law 256 = .ok (.iload 9, 2) := by decide +kernel
theorem dL_law_258 : decode cL_law 258 = .ok (.bipush 24, 2) := by decide +kernel
theorem dL_law_260 : decode cL_law 260 = .ok (.irem, 1) := by decide +kernel
theorem dL_law_261 : decode cL_law 261 = .ok (.iadd, 1) := by decide +kernel
theorem dL_law_262 : decode cL_law 262 = .ok (.invokestatic 23, 3) := by decide +kernel
theorem dL_law_265 : decode cL_law 265 = .ok (.iload 9, 2) := by decide +kernel
theorem dL_law_267 : decode cL_law 267 = .ok (.bipush 24, 2) := by decide +kernel
theorem dL_law_269 : decode cL_law 269 = .ok (.idiv, 1) := by decide +kernel
theorem dL_law_270 : decode cL_law 270 = .ok (.iconst 3, 1) := by decide +kernel
theorem dL_law_271 : decode cL_law 271 = .ok (.imul, 1) := by decide +kernel
theorem dL_law_272 : decode cL_law 272 = .ok (.ishr, 1) := by decide +kernel
theorem dL_law_273 : decode cL_law 273 = .ok (.istore 10, 2) := by decide +kernel
theorem dL_law_275 : decode cL_law 275 = .ok (.aload_n 1, 1) := by decide +kernel
theorem dL_law_276 : decode cL_law 276 = .ok (.invokestatic 210, 3) := by decide +kernel
theorem dL_law_279 : decode cL_law 279 = .ok (.lstore 11, 2) := by decide +kernel
theorem dL_law_281 : decode cL_law 281 = .ok (.aload_n 1, 1) := by decide +kernel
theorem dL_law_282 : decode cL_law 282 = .ok (.aload_n 3, 1) := by decide +kernel
theorem dL_law_283 : decode cL_law 283 = .ok (.iload 10, 2) := by decide +kernel
theorem dL_law_285 : decode cL_law 285 = .ok (.invokestatic 246, 3) := by decide +kernel
theorem dL_law_288 : decode cL_law 288 = .ok (.istore 13, 2) := by decide +kernel
theorem dL_law_290 : decode cL_law 290 = .ok (.iload 13, 2) := by decide +kernel
theorem dL_law_292 : decode cL_law 292 = .ok (.ifCond .lt 18, 3) := by decide +kernel
theorem dL_law_295 : decode cL_law 295 = .ok (.iload 13, 2) := by decide +kernel
theorem dL_law_297 : decode cL_law 297 = .ok (.ifCond .ne 15, 3) := by decide +kernel
theorem dL_law_300 : decode cL_law 300 = .ok (.aload_n 1, 1) := by decide +kernel
theorem dL_law_301 : decode cL_law 301 = .ok (.invokestatic 210, 3) := by decide +kernel
theorem dL_law_304 : decode cL_law 304 = .ok (.lload 11, 2) := by decide +kernel
theorem dL_law_306 : decode cL_law 306 = .ok (.lcmp, 1) := by decide +kernel
theorem dL_law_307 : decode cL_law 307 = .ok (.ifCond .eq 5, 3) := by decide +kernel
theorem dL_law_310 : decode cL_law 310 = .ok (.iconst 0, 1) := by decide +kernel
theorem dL_law_311 : decode cL_law 311 = .ok (.ireturn, 1) := by decide +kernel
theorem dL_law_312 : decode cL_law 312 = .ok (.iload 13, 2) := by decide +kernel
theorem dL_law_314 : decode cL_law 314 = .ok (.ifCond .ne 6, 3) := by decide +kernel
theorem dL_law_317 : decode cL_law 317 = .ok (.goto 120, 3) := by decide +kernel
theorem dL_law_320 : decode cL_law 320 = .ok (.iload 8, 2) := by decide +kernel
theorem dL_law_322 : decode cL_law 322 = .ok (.bipush 10, 2) := by decide +kernel
theorem dL_law_324 : decode cL_law 324 = .ok (.if_icmp .ne 34, 3) := by decide +kernel
theorem dL_law_327 : decode cL_law 327 = .ok (.iconst 1, 1) := by decide +kernel
theorem dL_law_328 : decode cL_law 328 = .ok (.istore 14, 2) := by decide +kernel
theorem dL_law_330 : decode cL_law 330 = .ok (.iload 14, 2) := by decide +kernel
theorem dL_law_332 : decode cL_law 332 = .ok (.bipush 10, 2) := by decide +kernel
theorem dL_law_334 : decode cL_law 334 = .ok (.if_icmp .ge 21, 3) := by decide +kernel
theorem dL_law_337 : decode cL_law 337 = .ok (.aload 7, 2) := by decide +kernel
theorem dL_law_339 : decode cL_law 339 = .ok (.iload 14, 2) := by decide +kernel
theorem dL_law_341 : decode cL_law 341 = .ok (.iconst 1, 1) := by decide +kernel
theorem dL_law_342 : decode cL_law 342 = .ok (.isub, 1) := by decide +kernel
theorem dL_law_343 : decode cL_law 343 = .ok (.aload 7, 2) := by decide +kernel
theorem dL_law_345 : decode cL_law 345 = .ok (.iload 14, 2) := by decide +kernel
theorem dL_law_347 : decode cL_law 347 = .ok (.laload, 1) := by decide +kernel
theorem dL_law_348 : decode cL_law 348 = .ok (.lastore, 1) := by decide +kernel
theorem dL_law_349 : decode cL_law 349 = .ok (.iinc 14 1, 3) := by decide +kernel
theorem dL_law_352 : decode cL_law 352 = .ok (.goto (-22), 3) := by decide +kernel
theorem dL_law_355 : decode cL_law 355 = .ok (.iinc 8 (-1), 3) := by decide +kernel
theorem dL_law_358 : decode cL_law 358 = .ok (.aload 7, 2) := by decide +kernel
theorem dL_law_360 : decode cL_law 360 = .ok (.iload 8, 2) := by decide +kernel
theorem dL_law_362 : decode cL_law 362 = .ok (.iinc 8 1, 3) := by decide +kernel
theorem dL_law_365 : decode cL_law 365 = .ok (.lload 11, 2) := by decide +kernel
theorem dL_law_367 : decode cL_law 367 = .ok (.lastore, 1) := by decide +kernel
theorem dL_law_368 : decode cL_law 368 = .ok (.aload_n 1, 1) := by decide +kernel
theorem dL_law_369 : decode cL_law 369 = .ok (.invokevirtual 250, 3) := by decide +kernel
theorem dL_law_372 : decode cL_law 372 = .ok (.iload 8, 2) := by decide +kernel
theorem dL_law_374 : decode cL_law 374 = .ok (.if_icmp .ne 61, 3) := by decide +kernel
theorem dL_law_377 : decode cL_law 377 = .ok (.aload_n 1, 1) := by decide +kernel
theorem dL_law_378 : decode cL_law 378 = .ok (.invokestatic 229, 3) := by decide +kernel
theorem dL_law_381 : decode cL_law 381 = .ok (.ifCond .eq 54, 3) := by decide +kernel
theorem dL_law_384 : decode cL_law 384 = .ok (.iload 9, 2) := by decide +kernel
theorem dL_law_386 : decode cL_law 386 = .ok (.iconst 3, 1) := by decide +kernel
theorem dL_law_387 : decode cL_law 387 = .ok (.irem, 1) := by decide +kernel
theorem dL_law_388 : decode cL_law 388 = .ok (.iconst 1, 1) := by decide +kernel
theorem dL_law_389 : decode cL_law 389 = .ok (.if_icmp .ne 17, 3) := by decide +kernel
theorem dL_law_392 : decode cL_law 392 = .ok (.iload 8, 2) := by decide +kernel
theorem dL_law_394 : decode cL_law 394 = .ok (.bipush 10, 2) := by decide +kernel
theorem dL_law_396 : decode cL_law 396 = .ok (.if_icmp .ge 10, 3) := by decide +kernel
theorem dL_law_399 : decode cL_law 399 = .ok (.aload_n 1, 1) := by decide +kernel
theorem dL_law_400 : decode cL_law 400 = .ok (.invokestatic 253, 3) := by decide +kernel
theorem dL_law_403 : decode cL_law 403 = .ok (.ifCond .eq 32, 3) := by decide +kernel
theorem dL_law_406 : decode cL_law 406 = .ok (.iload 9, 2) := by decide +kernel
theorem dL_law_408 : decode cL_law 408 = .ok (.iconst 4, 1) := by decide +kernel
theorem dL_law_409 : decode cL_law 409 = .ok (.irem, 1) := by decide +kernel
theorem dL_law_410 : decode cL_law 410 = .ok (.iconst 2, 1) := by decide +kernel
theorem dL_law_411 : decode cL_law 411 = .ok (.if_icmp .ne 26, 3) := by decide +kernel
theorem dL_law_414 : decode cL_law 414 = .ok (.iload 8, 2) := by decide +kernel
theorem dL_law_416 : decode cL_law 416 = .ok (.bipush 10, 2) := by decide +kernel
theorem dL_law_418 : decode cL_law 418 = .ok (.if_icmp .ge 19, 3) := by decide +kernel
theorem dL_law_421 : decode cL_law 421 = .ok (.aload_n 1, 1) := by decide +kernel
theorem dL_law_422 : decode cL_law 422 = .ok (.iload 9, 2) := by decide +kernel
theorem dL_law_424 : decode cL_law 424 = .ok (.aload_n 3, 1) := by decide +kernel
theorem dL_law_425 : decode cL_law 425 = .ok (.getfield 31, 3) := by decide +kernel
theorem dL_law_428 : decode cL_law 428 = .ok (.irem, 1) := by decide +kernel
theorem dL_law_429 : decode cL_law 429 = .ok (.invokestatic 256, 3) := by decide +kernel
theorem dL_law_432 : decode cL_law 432 = .ok (.ifCond .ne 5, 3) := by decide +kernel
theorem dL_law_435 : decode cL_law 435 = .ok (.iconst 0, 1) := by decide +kernel
theorem dL_law_436 : decode cL_law 436 = .ok (.ireturn, 1) := by decide +kernel
theorem dL_law_437 : decode cL_law 437 = .ok (.iinc 9 1, 3) := by decide +kernel
theorem dL_law_440 : decode cL_law 440 = .ok (.goto (-194), 3) := by decide +kernel
theorem dL_law_443 : decode cL_law 443 = .ok (.iconst 0, 1) := by decide +kernel
theorem dL_law_444 : decode cL_law 444 = .ok (.istore 9, 2) := by decide +kernel
theorem dL_law_446 : decode cL_law 446 = .ok (.iload 9, 2) := by decide +kernel
theorem dL_law_448 : decode cL_law 448 = .ok (.aload_n 3, 1) := by decide +kernel
theorem dL_law_449 : decode cL_law 449 = .ok (.getfield 39, 3) := by decide +kernel
theorem dL_law_452 : decode cL_law 452 = .ok (.if_icmp .ge 53, 3) := by decide +kernel
theorem dL_law_455 : decode cL_law 455 = .ok (.iconst (-1), 1) := by decide +kernel
theorem dL_law_456 : decode cL_law 456 = .ok (.istore 10, 2) := by decide +kernel
theorem dL_law_458 : decode cL_law 458 = .ok (.iload 10, 2) := by decide +kernel
theorem dL_law_460 : decode cL_law 460 = .ok (.aload_n 3, 1) := by decide +kernel
theorem dL_law_461 : decode cL_law 461 = .ok (.getfield 31, 3) := by decide +kernel
theorem dL_law_464 : decode cL_law 464 = .ok (.if_icmp .ge 25, 3) := by decide +kernel
theorem dL_law_467 : decode cL_law 467 = .ok (.aload 6, 2) := by decide +kernel
theorem dL_law_469 : decode cL_law 469 = .ok (.iload 9, 2) := by decide +kernel
theorem dL_law_471 : decode cL_law 471 = .ok (.dup2, 1) := by decide +kernel
theorem dL_law_472 : decode cL_law 472 = .ok (.iaload, 1) := by decide +kernel
theorem dL_law_473 : decode cL_law 473 = .ok (.aload_n 1, 1) := by decide +kernel
theorem dL_law_474 : decode cL_law 474 = .ok (.iload 9, 2) := by decide +kernel
theorem dL_law_476 : decode cL_law 476 = .ok (.iload 10, 2) := by decide +kernel
theorem dL_law_478 : decode cL_law 478 = .ok (.invokevirtual 125, 3) := by decide +kernel
theorem dL_law_481 : decode cL_law 481 = .ok (.isub, 1) := by decide +kernel
theorem dL_law_482 : decode cL_law 482 = .ok (.iastore, 1) := by decide +kernel
theorem dL_law_483 : decode cL_law 483 = .ok (.iinc 10 1, 3) := by decide +kernel
theorem dL_law_486 : decode cL_law 486 = .ok (.goto (-28), 3) := by decide +kernel
theorem dL_law_489 : decode cL_law 489 = .ok (.aload 6, 2) := by decide +kernel
theorem dL_law_491 : decode cL_law 491 = .ok (.iload 9, 2) := by decide +kernel
theorem dL_law_493 : decode cL_law 493 = .ok (.iaload, 1) := by decide +kernel
theorem dL_law_494 : decode cL_law 494 = .ok (.ifCond .eq 5, 3) := by decide +kernel
theorem dL_law_497 : decode cL_law 497 = .ok (.iconst 0, 1) := by decide +kernel
theorem dL_law_498 : decode cL_law 498 = .ok (.ireturn, 1) := by decide +kernel
theorem dL_law_499 : decode cL_law 499 = .ok (.iinc 9 1, 3) := by decide +kernel
theorem dL_law_502 : decode cL_law 502 = .ok (.goto (-56), 3) := by decide +kernel
theorem dL_law_505 : decode cL_law 505 = .ok (.iload 8, 2) := by decide +kernel
theorem dL_law_507 : decode cL_law 507 = .ok (.iconst 1, 1) := by decide +kernel
theorem dL_law_508 : decode cL_law 508 = .ok (.isub, 1) := by decide +kernel
theorem dL_law_509 : decode cL_law 509 = .ok (.istore 9, 2) := by decide +kernel
theorem dL_law_511 : decode cL_law 511 = .ok (.iload 9, 2) := by decide +kernel
theorem dL_law_513 : decode cL_law 513 = .ok (.ifCond .lt 33, 3) := by decide +kernel
theorem dL_law_516 : decode cL_law 516 = .ok (.aload_n 1, 1) := by decide +kernel
theorem dL_law_517 : decode cL_law 517 = .ok (.invokevirtual 220, 3) := by decide +kernel
theorem dL_law_520 : decode cL_law 520 = .ok (.iload 9, 2) := by decide +kernel
theorem dL_law_522 : decode cL_law 522 = .ok (.if_icmp .ne 16, 3) := by decide +kernel
theorem dL_law_525 : decode cL_law 525 = .ok (.aload_n 1, 1) := by decide +kernel
theorem dL_law_526 : decode cL_law 526 = .ok (.invokestatic 210, 3) := by decide +kernel
theorem dL_law_529 : decode cL_law 529 = .ok (.aload 7, 2) := by decide +kernel
theorem dL_law_531 : decode cL_law 531 = .ok (.iload 9, 2) := by decide +kernel
theorem dL_law_533 : decode cL_law 533 = .ok (.laload, 1) := by decide +kernel
theorem dL_law_534 : decode cL_law 534 = .ok (.lcmp, 1) := by decide +kernel
theorem dL_law_535 : decode cL_law 535 = .ok (.ifCond .eq 5, 3) := by decide +kernel
theorem dL_law_538 : decode cL_law 538 = .ok (.iconst 0, 1) := by decide +kernel
theorem dL_law_539 : decode cL_law 539 = .ok (.ireturn, 1) := by decide +kernel
theorem dL_law_540 : decode cL_law 540 = .ok (.iinc 9 (-1), 3) := by decide +kernel
theorem dL_law_543 : decode cL_law 543 = .ok (.goto (-32), 3) := by decide +kernel
theorem dL_law_546 : decode cL_law 546 = .ok (.aload_n 1, 1) := by decide +kernel
theorem dL_law_547 : decode cL_law 547 = .ok (.invokevirtual 220, 3) := by decide +kernel
theorem dL_law_550 : decode cL_law 550 = .ok (.iconst (-1), 1) := by decide +kernel
theorem dL_law_551 : decode cL_law 551 = .ok (.if_icmp .ne 18, 3) := by decide +kernel
theorem dL_law_554 : decode cL_law 554 = .ok (.aload_n 1, 1) := by decide +kernel
theorem dL_law_555 : decode cL_law 555 = .ok (.invokestatic 253, 3) := by decide +kernel
theorem dL_law_558 : decode cL_law 558 = .ok (.ifCond .eq 11, 3) := by decide +kernel
theorem dL_law_561 : decode cL_law 561 = .ok (.aload_n 1, 1) := by decide +kernel
theorem dL_law_562 : decode cL_law 562 = .ok (.iconst 0, 1) := by decide +kernel
theorem dL_law_563 : decode cL_law 563 = .ok (.invokestatic 256, 3) := by decide +kernel
theorem dL_law_566 : decode cL_law 566 = .ok (.ifCond .ne 5, 3) := by decide +kernel
theorem dL_law_569 : decode cL_law 569 = .ok (.iconst 0, 1) := by decide +kernel
theorem dL_law_570 : decode cL_law 570 = .ok (.ireturn, 1) := by decide +kernel
theorem dL_law_571 : decode cL_law 571 = .ok (.aload_n 1, 1) := by decide +kernel
theorem dL_law_572 : decode cL_law 572 = .ok (.invokestatic 229, 3) := by decide +kernel
theorem dL_law_575 : decode cL_law 575 = .ok (.ifCond .eq 31, 3) := by decide +kernel
theorem dL_law_578 : decode cL_law 578 = .ok (.aload_n 1, 1) := by decide +kernel
theorem dL_law_579 : decode cL_law 579 = .ok (.invokevirtual 260, 3) := by decide +kernel
theorem dL_law_582 : decode cL_law 582 = .ok (.ifCond .eq 24, 3) := by decide +kernel
theorem dL_law_585 : decode cL_law 585 = .ok (.aload_n 1, 1) := by decide +kernel
theorem dL_law_586 : decode cL_law 586 = .ok (.invokestatic 210, 3) := by decide +kernel
theorem dL_law_589 : decode cL_law 589 = .ok (.lload 4, 2) := by decide +kernel
theorem dL_law_591 : decode cL_law 591 = .ok (.lcmp, 1) := by decide +kernel
theorem dL_law_592 : decode cL_law 592 = .ok (.ifCond .ne 14, 3) := by decide +kernel
theorem dL_law_595 : decode cL_law 595 = .ok (.aload_n 1, 1) := by decide +kernel
theorem dL_law_596 : decode cL_law 596 = .ok (.invokevirtual 250, 3) := by decide +kernel
theorem dL_law_599 : decode cL_law 599 = .ok (.ifCond .ne 7, 3) := by decide +kernel
theorem dL_law_602 : decode cL_law 602 = .ok (.iconst 1, 1) := by decide +kernel
theorem dL_law_603 : decode cL_law 603 = .ok (.goto 4, 3) := by decide +kernel
theorem dL_law_606 : decode cL_law 606 = .ok (.iconst 0, 1) := by decide +kernel
theorem dL_law_607 : decode cL_law 607 = .ok (.ireturn, 1) := by decide +kernel
