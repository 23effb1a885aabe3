/-! ===== the law: words, decoded instructions ===== -/
theorem k_104 : Cond.classLink R_law 7 qx_R ∈ gw := gw_at 104 (by decide +kernel) rfl
theorem k_105 : Cond.instantiable qx_R 6 ∈ gw := gw_at 105 (by decide +kernel) rfl
theorem k_106 : Cond.methodLink R_law 9 qx_init_y ∈ gw := gw_at 106 (by decide +kernel) rfl
theorem k_107 : Cond.instanceMethod qx_init_y ∈ gw := gw_at 107 (by decide +kernel) rfl
theorem k_108 : Cond.code qx_init_y qx_init_c 1 none ∈ gw := gw_at 108 (by decide +kernel) rfl
theorem k_285 : Cond.methodLink R_law 15 qx_pushInteger_y ∈ gw := gw_at 285 (by decide +kernel) rfl
theorem k_299 : Cond.methodLink R_law 20 qx_pushBoolean_y ∈ gw := gw_at 299 (by decide +kernel) rfl
theorem k_307 : Cond.methodLink R_law 25 qx_pushSymbol_y ∈ gw := gw_at 307 (by decide +kernel) rfl
theorem k_314 : Cond.methodLink R_law 30 qx_pushEmpty_y ∈ gw := gw_at 314 (by decide +kernel) rfl
theorem k_320 : Cond.methodLink R_law 34 qx_pushEnvironment_y ∈ gw := gw_at 320 (by decide +kernel) rfl
theorem k_324 : Cond.methodLink R_law 39 qx_pushCopy_y ∈ gw := gw_at 324 (by decide +kernel) rfl
theorem k_336 : Cond.methodLink R_law 43 qx_pushPart_y ∈ gw := gw_at 336 (by decide +kernel) rfl
theorem k_372 : Cond.methodLink R_law 48 qx_pushBinding_y ∈ gw := gw_at 372 (by decide +kernel) rfl
theorem k_400 : Cond.methodLink R_law 52 qx_makePair_y ∈ gw := gw_at 400 (by decide +kernel) rfl
theorem k_412 : Cond.methodLink R_law 56 qx_makeList_y ∈ gw := gw_at 412 (by decide +kernel) rfl
theorem k_424 : Cond.methodLink R_law 60 qx_drop_y ∈ gw := gw_at 424 (by decide +kernel) rfl
theorem k_428 : Cond.methodLink R_law 64 qx_reset_y ∈ gw := gw_at 428 (by decide +kernel) rfl
theorem k_438 : Cond.methodLink R_law 68 qx_size_y ∈ gw := gw_at 438 (by decide +kernel) rfl
theorem k_442 : Cond.methodLink R_law 72 qx_kind_y ∈ gw := gw_at 442 (by decide +kernel) rfl
theorem k_446 : Cond.methodLink R_law 76 qx_value_y ∈ gw := gw_at 446 (by decide +kernel) rfl
theorem k_454 : Cond.methodLink R_law 81 qx_areSame_y ∈ gw := gw_at 454 (by decide +kernel) rfl
theorem k_458 : Cond.methodLink R_law 85 qx_length_y ∈ gw := gw_at 458 (by decide +kernel) rfl
theorem k_468 : Cond.methodLink R_law 89 qx_bindingCount_y ∈ gw := gw_at 468 (by decide +kernel) rfl
theorem k_476 : Cond.methodLink R_law 93 qx_evaluate_y ∈ gw := gw_at 476 (by decide +kernel) rfl
theorem k_789 : Cond.methodLink R_law 97 qx_useEnvironment_y ∈ gw := gw_at 789 (by decide +kernel) rfl
theorem k_793 : Cond.methodLink R_law 101 qx_useUser_y ∈ gw := gw_at 793 (by decide +kernel) rfl
theorem k_797 : Cond.methodLink R_law 105 qx_setLimit_y ∈ gw := gw_at 797 (by decide +kernel) rfl
theorem k_801 : Cond.methodLink R_law 109 qx_latest_y ∈ gw := gw_at 801 (by decide +kernel) rfl
theorem k_817 : Cond.methodLink R_law 113 qx_heapSize_y ∈ gw := gw_at 817 (by decide +kernel) rfl
theorem k_821 : Cond.classLink R_law 10 qm_R ∈ gw := gw_at 821 (by decide +kernel) rfl
theorem k_822 : Cond.instantiable qm_R 36 ∈ gw := gw_at 822 (by decide +kernel) rfl
theorem k_823 : Cond.methodLink R_law 12 qm_init_y ∈ gw := gw_at 823 (by decide +kernel) rfl
theorem k_824 : Cond.instanceMethod qm_init_y ∈ gw := gw_at 824 (by decide +kernel) rfl
theorem k_825 : Cond.code qm_init_y qm_init_c 1 none ∈ gw := gw_at 825 (by decide +kernel) rfl
theorem k_952 : Cond.methodLink R_law 19 qm_pushInteger_y ∈ gw := gw_at 952 (by decide +kernel) rfl
theorem k_962 : Cond.methodLink R_law 24 qm_pushBoolean_y ∈ gw := gw_at 962 (by decide +kernel) rfl
theorem k_969 : Cond.methodLink R_law 29 qm_pushSymbol_y ∈ gw := gw_at 969 (by decide +kernel) rfl
theorem k_974 : Cond.methodLink R_law 33 qm_pushEmpty_y ∈ gw := gw_at 974 (by decide +kernel) rfl
theorem k_980 : Cond.methodLink R_law 38 qm_pushEnvironment_y ∈ gw := gw_at 980 (by decide +kernel) rfl
theorem k_984 : Cond.methodLink R_law 42 qm_pushCopy_y ∈ gw := gw_at 984 (by decide +kernel) rfl
theorem k_996 : Cond.methodLink R_law 47 qm_pushPart_y ∈ gw := gw_at 996 (by decide +kernel) rfl
theorem k_1028 : Cond.methodLink R_law 51 qm_pushBinding_y ∈ gw := gw_at 1028 (by decide +kernel) rfl
theorem k_1040 : Cond.methodLink R_law 55 qm_makePair_y ∈ gw := gw_at 1040 (by decide +kernel) rfl
theorem k_1052 : Cond.methodLink R_law 59 qm_makeList_y ∈ gw := gw_at 1052 (by decide +kernel) rfl
theorem k_1057 : Cond.methodLink R_law 63 qm_drop_y ∈ gw := gw_at 1057 (by decide +kernel) rfl
theorem k_1061 : Cond.methodLink R_law 67 qm_reset_y ∈ gw := gw_at 1061 (by decide +kernel) rfl
theorem k_1065 : Cond.methodLink R_law 71 qm_size_y ∈ gw := gw_at 1065 (by decide +kernel) rfl
theorem k_1069 : Cond.methodLink R_law 75 qm_kind_y ∈ gw := gw_at 1069 (by decide +kernel) rfl
theorem k_1073 : Cond.methodLink R_law 80 qm_value_y ∈ gw := gw_at 1073 (by decide +kernel) rfl
theorem k_1081 : Cond.methodLink R_law 84 qm_areSame_y ∈ gw := gw_at 1081 (by decide +kernel) rfl
theorem k_1085 : Cond.methodLink R_law 88 qm_length_y ∈ gw := gw_at 1085 (by decide +kernel) rfl
theorem k_1093 : Cond.methodLink R_law 92 qm_bindingCount_y ∈ gw := gw_at 1093 (by decide +kernel) rfl
theorem k_1097 : Cond.methodLink R_law 96 qm_evaluate_y ∈ gw := gw_at 1097 (by decide +kernel) rfl
theorem k_1211 : Cond.methodLink R_law 100 qm_useEnvironment_y ∈ gw := gw_at 1211 (by decide +kernel) rfl
theorem k_1215 : Cond.methodLink R_law 104 qm_useUser_y ∈ gw := gw_at 1215 (by decide +kernel) rfl
theorem k_1219 : Cond.methodLink R_law 108 qm_setLimit_y ∈ gw := gw_at 1219 (by decide +kernel) rfl
theorem k_1224 : Cond.methodLink R_law 112 qm_latest_y ∈ gw := gw_at 1224 (by decide +kernel) rfl
theorem k_1228 : Cond.methodLink R_law 116 qm_heapSize_y ∈ gw := gw_at 1228 (by decide +kernel) rfl
theorem k_1232 : Cond.constantLong R_law 13 (4294967295) ∈ gw := gw_at 1232 (by decide +kernel) rfl
theorem d_law_144 : decode code 144 = .ok (.aload_n 1, 1) := by decide +kernel
theorem d_law_145 : decode code 145 = .ok (.aload_n 0, 1) := by decide +kernel
theorem d_law_146 : decode code 146 = .ok (.iload_n 3, 1) := by decide +kernel
theorem d_law_147 : decode code 147 = .ok (.iconst 1, 1) := by decide +kernel
theorem d_law_148 : decode code 148 = .ok (.iadd, 1) := by decide +kernel
theorem d_law_149 : decode code 149 = .ok (.iaload, 1) := by decide +kernel
theorem d_law_150 : decode code 150 = .ok (.i2l, 1) := by decide +kernel
theorem d_law_151 : decode code 151 = .ok (.bipush 32, 2) := by decide +kernel
theorem d_law_153 : decode code 153 = .ok (.lshl, 1) := by decide +kernel
theorem d_law_154 : decode code 154 = .ok (.aload_n 0, 1) := by decide +kernel
theorem d_law_155 : decode code 155 = .ok (.iload_n 3, 1) := by decide +kernel
theorem d_law_156 : decode code 156 = .ok (.iconst 2, 1) := by decide +kernel
theorem d_law_157 : decode code 157 = .ok (.iadd, 1) := by decide +kernel
theorem d_law_158 : decode code 158 = .ok (.iaload, 1) := by decide +kernel
theorem d_law_159 : decode code 159 = .ok (.i2l, 1) := by decide +kernel
theorem d_law_160 : decode code 160 = .ok (.ldc2_w 13, 3) := by decide +kernel
theorem d_law_163 : decode code 163 = .ok (.land, 1) := by decide +kernel
theorem d_law_164 : decode code 164 = .ok (.lor, 1) := by decide +kernel
theorem d_law_165 : decode code 165 = .ok (.invokevirtual 15, 3) := by decide +kernel
theorem d_law_168 : decode code 168 = .ok (.aload_n 2, 1) := by decide +kernel
theorem d_law_169 : decode code 169 = .ok (.aload_n 0, 1) := by decide +kernel
theorem d_law_170 : decode code 170 = .ok (.iload_n 3, 1) := by decide +kernel
theorem d_law_171 : decode code 171 = .ok (.iconst 1, 1) := by decide +kernel
theorem d_law_172 : decode code 172 = .ok (.iadd, 1) := by decide +kernel
theorem d_law_173 : decode code 173 = .ok (.iaload, 1) := by decide +kernel
theorem d_law_174 : decode code 174 = .ok (.i2l, 1) := by decide +kernel
theorem d_law_175 : decode code 175 = .ok (.bipush 32, 2) := by decide +kernel
theorem d_law_177 : decode code 177 = .ok (.lshl, 1) := by decide +kernel
theorem d_law_178 : decode code 178 = .ok (.aload_n 0, 1) := by decide +kernel
theorem d_law_179 : decode code 179 = .ok (.iload_n 3, 1) := by decide +kernel
theorem d_law_180 : decode code 180 = .ok (.iconst 2, 1) := by decide +kernel
theorem d_law_181 : decode code 181 = .ok (.iadd, 1) := by decide +kernel
theorem d_law_182 : decode code 182 = .ok (.iaload, 1) := by decide +kernel
theorem d_law_183 : decode code 183 = .ok (.i2l, 1) := by decide +kernel
theorem d_law_184 : decode code 184 = .ok (.ldc2_w 13, 3) := by decide +kernel
theorem d_law_187 : decode code 187 = .ok (.land, 1) := by decide +kernel
theorem d_law_188 : decode code 188 = .ok (.lor, 1) := by decide +kernel
theorem d_law_189 : decode code 189 = .ok (.invokevirtual 19, 3) := by decide +kernel
theorem d_law_192 : decode code 192 = .ok (.if_icmp .eq 517, 3) := by decide +kernel
theorem d_law_197 : decode code 197 = .ok (.aload_n 1, 1) := by decide +kernel
theorem d_law_198 : decode code 198 = .ok (.aload_n 0, 1) := by decide +kernel
theorem d_law_199 : decode code 199 = .ok (.iload_n 3, 1) := by decide +kernel
theorem d_law_200 : decode code 200 = .ok (.iconst 1, 1) := by decide +kernel
theorem d_law_201 : decode code 201 = .ok (.iadd, 1) := by decide +kernel
theorem d_law_202 : decode code 202 = .ok (.iaload, 1) := by decide +kernel
theorem d_law_203 : decode code 203 = .ok (.ifCond .eq 7, 3) := by decide +kernel
theorem d_law_206 : decode code 206 = .ok (.iconst 1, 1) := by decide +kernel
theorem d_law_207 : decode code 207 = .ok (.goto 4, 3) := by decide +kernel
theorem d_law_210 : decode code 210 = .ok (.iconst 0, 1) := by decide +kernel
theorem d_law_211 : decode code 211 = .ok (.invokevirtual 20, 3) := by decide +kernel
theorem d_law_214 : decode code 214 = .ok (.aload_n 2, 1) := by decide +kernel
theorem d_law_215 : decode code 215 = .ok (.aload_n 0, 1) := by decide +kernel
theorem d_law_216 : decode code 216 = .ok (.iload_n 3, 1) := by decide +kernel
theorem d_law_217 : decode code 217 = .ok (.iconst 1, 1) := by decide +kernel
theorem d_law_218 : decode code 218 = .ok (.iadd, 1) := by decide +kernel
theorem d_law_219 : decode code 219 = .ok (.iaload, 1) := by decide +kernel
theorem d_law_220 : decode code 220 = .ok (.ifCond .eq 7, 3) := by decide +kernel
theorem d_law_223 : decode code 223 = .ok (.iconst 1, 1) := by decide +kernel
theorem d_law_224 : decode code 224 = .ok (.goto 4, 3) := by decide +kernel
theorem d_law_227 : decode code 227 = .ok (.iconst 0, 1) := by decide +kernel
theorem d_law_228 : decode code 228 = .ok (.invokevirtual 24, 3) := by decide +kernel
theorem d_law_231 : decode code 231 = .ok (.if_icmp .eq 478, 3) := by decide +kernel
theorem d_law_236 : decode code 236 = .ok (.aload_n 1, 1) := by decide +kernel
theorem d_law_237 : decode code 237 = .ok (.aload_n 0, 1) := by decide +kernel
theorem d_law_238 : decode code 238 = .ok (.iload_n 3, 1) := by decide +kernel
theorem d_law_239 : decode code 239 = .ok (.iconst 1, 1) := by decide +kernel
theorem d_law_240 : decode code 240 = .ok (.iadd, 1) := by decide +kernel
theorem d_law_241 : decode code 241 = .ok (.iaload, 1) := by decide +kernel
theorem d_law_242 : decode code 242 = .ok (.invokevirtual 25, 3) := by decide +kernel
theorem d_law_245 : decode code 245 = .ok (.aload_n 2, 1) := by decide +kernel
theorem d_law_246 : decode code 246 = .ok (.aload_n 0, 1) := by decide +kernel
theorem d_law_247 : decode code 247 = .ok (.iload_n 3, 1) := by decide +kernel
theorem d_law_248 : decode code 248 = .ok (.iconst 1, 1) := by decide +kernel
theorem d_law_249 : decode code 249 = .ok (.iadd, 1) := by decide +kernel
theorem d_law_250 : decode code 250 = .ok (.iaload, 1) := by decide +kernel
theorem d_law_251 : decode code 251 = .ok (.invokevirtual 29, 3) := by decide +kernel
theorem d_law_254 : decode code 254 = .ok (.if_icmp .eq 455, 3) := by decide +kernel
theorem d_law_259 : decode code 259 = .ok (.aload_n 1, 1) := by decide +kernel
theorem d_law_260 : decode code 260 = .ok (.aload_n 0, 1) := by decide +kernel
theorem d_law_261 : decode code 261 = .ok (.iload_n 3, 1) := by decide +kernel
theorem d_law_262 : decode code 262 = .ok (.iconst 1, 1) := by decide +kernel
theorem d_law_263 : decode code 263 = .ok (.iadd, 1) := by decide +kernel
theorem d_law_264 : decode code 264 = .ok (.iaload, 1) := by decide +kernel
theorem d_law_265 : decode code 265 = .ok (.ifCond .eq 7, 3) := by decide +kernel
theorem d_law_268 : decode code 268 = .ok (.iconst 1, 1) := by decide +kernel
theorem d_law_269 : decode code 269 = .ok (.goto 4, 3) := by decide +kernel
theorem d_law_272 : decode code 272 = .ok (.iconst 0, 1) := by decide +kernel
theorem d_law_273 : decode code 273 = .ok (.invokevirtual 30, 3) := by decide +kernel
theorem d_law_276 : decode code 276 = .ok (.aload_n 2, 1) := by decide +kernel
theorem d_law_277 : decode code 277 = .ok (.aload_n 0, 1) := by decide +kernel
theorem d_law_278 : decode code 278 = .ok (.iload_n 3, 1) := by decide +kernel
theorem d_law_279 : decode code 279 = .ok (.iconst 1, 1) := by decide +kernel
theorem d_law_280 : decode code 280 = .ok (.iadd, 1) := by decide +kernel
theorem d_law_281 : decode code 281 = .ok (.iaload, 1) := by decide +kernel
theorem d_law_282 : decode code 282 = .ok (.ifCond .eq 7, 3) := by decide +kernel
theorem d_law_285 : decode code 285 = .ok (.iconst 1, 1) := by decide +kernel
theorem d_law_286 : decode code 286 = .ok (.goto 4, 3) := by decide +kernel
theorem d_law_289 : decode code 289 = .ok (.iconst 0, 1) := by decide +kernel
theorem d_law_290 : decode code 290 = .ok (.invokevirtual 33, 3) := by decide +kernel
theorem d_law_293 : decode code 293 = .ok (.if_icmp .eq 416, 3) := by decide +kernel
theorem d_law_298 : decode code 298 = .ok (.aload_n 1, 1) := by decide +kernel
theorem d_law_299 : decode code 299 = .ok (.invokevirtual 34, 3) := by decide +kernel
theorem d_law_302 : decode code 302 = .ok (.aload_n 2, 1) := by decide +kernel
theorem d_law_303 : decode code 303 = .ok (.invokevirtual 38, 3) := by decide +kernel
theorem d_law_306 : decode code 306 = .ok (.if_icmp .eq 403, 3) := by decide +kernel
theorem d_law_311 : decode code 311 = .ok (.aload_n 1, 1) := by decide +kernel
theorem d_law_312 : decode code 312 = .ok (.aload_n 0, 1) := by decide +kernel
theorem d_law_313 : decode code 313 = .ok (.iload_n 3, 1) := by decide +kernel
theorem d_law_314 : decode code 314 = .ok (.iconst 1, 1) := by decide +kernel
theorem d_law_315 : decode code 315 = .ok (.iadd, 1) := by decide +kernel
theorem d_law_316 : decode code 316 = .ok (.iaload, 1) := by decide +kernel
theorem d_law_317 : decode code 317 = .ok (.invokevirtual 39, 3) := by decide +kernel
theorem d_law_320 : decode code 320 = .ok (.aload_n 2, 1) := by decide +kernel
theorem d_law_321 : decode code 321 = .ok (.aload_n 0, 1) := by decide +kernel
theorem d_law_322 : decode code 322 = .ok (.iload_n 3, 1) := by decide +kernel
theorem d_law_323 : decode code 323 = .ok (.iconst 1, 1) := by decide +kernel
theorem d_law_324 : decode code 324 = .ok (.iadd, 1) := by decide +kernel
theorem d_law_325 : decode code 325 = .ok (.iaload, 1) := by decide +kernel
theorem d_law_326 : decode code 326 = .ok (.invokevirtual 42, 3) := by decide +kernel
theorem d_law_329 : decode code 329 = .ok (.if_icmp .eq 380, 3) := by decide +kernel
theorem d_law_334 : decode code 334 = .ok (.aload_n 1, 1) := by decide +kernel
theorem d_law_335 : decode code 335 = .ok (.aload_n 0, 1) := by decide +kernel
theorem d_law_336 : decode code 336 = .ok (.iload_n 3, 1) := by decide +kernel
theorem d_law_337 : decode code 337 = .ok (.iconst 1, 1) := by decide +kernel
theorem d_law_338 : decode code 338 = .ok (.iadd, 1) := by decide +kernel
theorem d_law_339 : decode code 339 = .ok (.iaload, 1) := by decide +kernel
theorem d_law_340 : decode code 340 = .ok (.aload_n 0, 1) := by decide +kernel
theorem d_law_341 : decode code 341 = .ok (.iload_n 3, 1) := by decide +kernel
theorem d_law_342 : decode code 342 = .ok (.iconst 2, 1) := by decide +kernel
theorem d_law_343 : decode code 343 = .ok (.iadd, 1) := by decide +kernel
theorem d_law_344 : decode code 344 = .ok (.iaload, 1) := by decide +kernel
theorem d_law_345 : decode code 345 = .ok (.invokevirtual 43, 3) := by decide +kernel
theorem d_law_348 : decode code 348 = .ok (.aload_n 2, 1) := by decide +kernel
theorem d_law_349 : decode code 349 = .ok (.aload_n 0, 1) := by decide +kernel
theorem d_law_350 : decode code 350 = .ok (.iload_n 3, 1) := by decide +kernel
theorem d_law_351 : decode code 351 = .ok (.iconst 1, 1) := by decide +kernel
theorem d_law_352 : decode code 352 = .ok (.iadd, 1) := by decide +kernel
theorem d_law_353 : decode code 353 = .ok (.iaload, 1) := by decide +kernel
theorem d_law_354 : decode code 354 = .ok (.aload_n 0, 1) := by decide +kernel
theorem d_law_355 : decode code 355 = .ok (.iload_n 3, 1) := by decide +kernel
theorem d_law_356 : decode code 356 = .ok (.iconst 2, 1) := by decide +kernel
theorem d_law_357 : decode code 357 = .ok (.iadd, 1) := by decide +kernel
theorem d_law_358 : decode code 358 = .ok (.iaload, 1) := by decide +kernel
theorem d_law_359 : decode code 359 = .ok (.invokevirtual 47, 3) := by decide +kernel
theorem d_law_362 : decode code 362 = .ok (.if_icmp .eq 347, 3) := by decide +kernel
theorem d_law_367 : decode code 367 = .ok (.aload_n 1, 1) := by decide +kernel
theorem d_law_368 : decode code 368 = .ok (.aload_n 0, 1) := by decide +kernel
theorem d_law_369 : decode code 369 = .ok (.iload_n 3, 1) := by decide +kernel
theorem d_law_370 : decode code 370 = .ok (.iconst 1, 1) := by decide +kernel
theorem d_law_371 : decode code 371 = .ok (.iadd, 1) := by decide +kernel
theorem d_law_372 : decode code 372 = .ok (.iaload, 1) := by decide +kernel
theorem d_law_373 : decode code 373 = .ok (.aload_n 0, 1) := by decide +kernel
theorem d_law_374 : decode code 374 = .ok (.iload_n 3, 1) := by decide +kernel
theorem d_law_375 : decode code 375 = .ok (.iconst 2, 1) := by decide +kernel
theorem d_law_376 : decode code 376 = .ok (.iadd, 1) := by decide +kernel
theorem d_law_377 : decode code 377 = .ok (.iaload, 1) := by decide +kernel
theorem d_law_378 : decode code 378 = .ok (.invokevirtual 48, 3) := by decide +kernel
theorem d_law_381 : decode code 381 = .ok (.aload_n 2, 1) := by decide +kernel
theorem d_law_382 : decode code 382 = .ok (.aload_n 0, 1) := by decide +kernel
theorem d_law_383 : decode code 383 = .ok (.iload_n 3, 1) := by decide +kernel
theorem d_law_384 : decode code 384 = .ok (.iconst 1, 1) := by decide +kernel
theorem d_law_385 : decode code 385 = .ok (.iadd, 1) := by decide +kernel
theorem d_law_386 : decode code 386 = .ok (.iaload, 1) := by decide +kernel
theorem d_law_387 : decode code 387 = .ok (.aload_n 0, 1) := by decide +kernel
theorem d_law_388 : decode code 388 = .ok (.iload_n 3, 1) := by decide +kernel
theorem d_law_389 : decode code 389 = .ok (.iconst 2, 1) := by decide +kernel
theorem d_law_390 : decode code 390 = .ok (.iadd, 1) := by decide +kernel
theorem d_law_391 : decode code 391 = .ok (.iaload, 1) := by decide +kernel
theorem d_law_392 : decode code 392 = .ok (.invokevirtual 51, 3) := by decide +kernel
theorem d_law_395 : decode code 395 = .ok (.if_icmp .eq 314, 3) := by decide +kernel
theorem d_law_400 : decode code 400 = .ok (.aload_n 1, 1) := by decide +kernel
theorem d_law_401 : decode code 401 = .ok (.invokevirtual 52, 3) := by decide +kernel
theorem d_law_404 : decode code 404 = .ok (.aload_n 2, 1) := by decide +kernel
theorem d_law_405 : decode code 405 = .ok (.invokevirtual 55, 3) := by decide +kernel
theorem d_law_408 : decode code 408 = .ok (.if_icmp .eq 301, 3) := by decide +kernel
theorem d_law_413 : decode code 413 = .ok (.aload_n 1, 1) := by decide +kernel
theorem d_law_414 : decode code 414 = .ok (.aload_n 0, 1) := by decide +kernel
theorem d_law_415 : decode code 415 = .ok (.iload_n 3, 1) := by decide +kernel
theorem d_law_416 : decode code 416 = .ok (.iconst 1, 1) := by decide +kernel
theorem d_law_417 : decode code 417 = .ok (.iadd, 1) := by decide +kernel
theorem d_law_418 : decode code 418 = .ok (.iaload, 1) := by decide +kernel
theorem d_law_419 : decode code 419 = .ok (.invokevirtual 56, 3) := by decide +kernel
theorem d_law_422 : decode code 422 = .ok (.aload_n 2, 1) := by decide +kernel
theorem d_law_423 : decode code 423 = .ok (.aload_n 0, 1) := by decide +kernel
theorem d_law_424 : decode code 424 = .ok (.iload_n 3, 1) := by decide +kernel
theorem d_law_425 : decode code 425 = .ok (.iconst 1, 1) := by decide +kernel
theorem d_law_426 : decode code 426 = .ok (.iadd, 1) := by decide +kernel
theorem d_law_427 : decode code 427 = .ok (.iaload, 1) := by decide +kernel
theorem d_law_428 : decode code 428 = .ok (.invokevirtual 59, 3) := by decide +kernel
theorem d_law_431 : decode code 431 = .ok (.if_icmp .eq 278, 3) := by decide +kernel
theorem d_law_436 : decode code 436 = .ok (.aload_n 1, 1) := by decide +kernel
theorem d_law_437 : decode code 437 = .ok (.aload_n 0, 1) := by decide +kernel
theorem d_law_438 : decode code 438 = .ok (.iload_n 3, 1) := by decide +kernel
theorem d_law_439 : decode code 439 = .ok (.iconst 1, 1) := by decide +kernel
theorem d_law_440 : decode code 440 = .ok (.iadd, 1) := by decide +kernel
theorem d_law_441 : decode code 441 = .ok (.iaload, 1) := by decide +kernel
theorem d_law_442 : decode code 442 = .ok (.invokevirtual 60, 3) := by decide +kernel
theorem d_law_445 : decode code 445 = .ok (.aload_n 2, 1) := by decide +kernel
theorem d_law_446 : decode code 446 = .ok (.aload_n 0, 1) := by decide +kernel
theorem d_law_447 : decode code 447 = .ok (.iload_n 3, 1) := by decide +kernel
theorem d_law_448 : decode code 448 = .ok (.iconst 1, 1) := by decide +kernel
theorem d_law_449 : decode code 449 = .ok (.iadd, 1) := by decide +kernel
theorem d_law_450 : decode code 450 = .ok (.iaload, 1) := by decide +kernel
theorem d_law_451 : decode code 451 = .ok (.invokevirtual 63, 3) := by decide +kernel
theorem d_law_454 : decode code 454 = .ok (.if_icmp .eq 255, 3) := by decide +kernel
theorem d_law_459 : decode code 459 = .ok (.aload_n 1, 1) := by decide +kernel
theorem d_law_460 : decode code 460 = .ok (.invokevirtual 64, 3) := by decide +kernel
theorem d_law_463 : decode code 463 = .ok (.aload_n 2, 1) := by decide +kernel
theorem d_law_464 : decode code 464 = .ok (.invokevirtual 67, 3) := by decide +kernel
theorem d_law_467 : decode code 467 = .ok (.if_icmp .eq 242, 3) := by decide +kernel
theorem d_law_472 : decode code 472 = .ok (.aload_n 1, 1) := by decide +kernel
theorem d_law_473 : decode code 473 = .ok (.invokevirtual 68, 3) := by decide +kernel
theorem d_law_476 : decode code 476 = .ok (.aload_n 2, 1) := by decide +kernel
theorem d_law_477 : decode code 477 = .ok (.invokevirtual 71, 3) := by decide +kernel
theorem d_law_480 : decode code 480 = .ok (.if_icmp .eq 229, 3) := by decide +kernel
theorem d_law_485 : decode code 485 = .ok (.aload_n 1, 1) := by decide +kernel
theorem d_law_486 : decode code 486 = .ok (.aload_n 0, 1) := by decide +kernel
theorem d_law_487 : decode code 487 = .ok (.iload_n 3, 1) := by decide +kernel
theorem d_law_488 : decode code 488 = .ok (.iconst 1, 1) := by decide +kernel
theorem d_law_489 : decode code 489 = .ok (.iadd, 1) := by decide +kernel
theorem d_law_490 : decode code 490 = .ok (.iaload, 1) := by decide +kernel
theorem d_law_491 : decode code 491 = .ok (.invokevirtual 72, 3) := by decide +kernel
theorem d_law_494 : decode code 494 = .ok (.aload_n 2, 1) := by decide +kernel
theorem d_law_495 : decode code 495 = .ok (.aload_n 0, 1) := by decide +kernel
theorem d_law_496 : decode code 496 = .ok (.iload_n 3, 1) := by decide +kernel
theorem d_law_497 : decode code 497 = .ok (.iconst 1, 1) := by decide +kernel
theorem d_law_498 : decode code 498 = .ok (.iadd, 1) := by decide +kernel
theorem d_law_499 : decode code 499 = .ok (.iaload, 1) := by decide +kernel
theorem d_law_500 : decode code 500 = .ok (.invokevirtual 75, 3) := by decide +kernel
theorem d_law_503 : decode code 503 = .ok (.if_icmp .eq 206, 3) := by decide +kernel
theorem d_law_508 : decode code 508 = .ok (.aload_n 1, 1) := by decide +kernel
theorem d_law_509 : decode code 509 = .ok (.aload_n 0, 1) := by decide +kernel
theorem d_law_510 : decode code 510 = .ok (.iload_n 3, 1) := by decide +kernel
theorem d_law_511 : decode code 511 = .ok (.iconst 1, 1) := by decide +kernel
theorem d_law_512 : decode code 512 = .ok (.iadd, 1) := by decide +kernel
theorem d_law_513 : decode code 513 = .ok (.iaload, 1) := by decide +kernel
theorem d_law_514 : decode code 514 = .ok (.invokevirtual 76, 3) := by decide +kernel
theorem d_law_517 : decode code 517 = .ok (.aload_n 2, 1) := by decide +kernel
theorem d_law_518 : decode code 518 = .ok (.aload_n 0, 1) := by decide +kernel
theorem d_law_519 : decode code 519 = .ok (.iload_n 3, 1) := by decide +kernel
theorem d_law_520 : decode code 520 = .ok (.iconst 1, 1) := by decide +kernel
theorem d_law_521 : decode code 521 = .ok (.iadd, 1) := by decide +kernel
theorem d_law_522 : decode code 522 = .ok (.iaload, 1) := by decide +kernel
theorem d_law_523 : decode code 523 = .ok (.invokevirtual 80, 3) := by decide +kernel
theorem d_law_526 : decode code 526 = .ok (.lcmp, 1) := by decide +kernel
theorem d_law_527 : decode code 527 = .ok (.ifCond .eq 182, 3) := by decide +kernel
theorem d_law_532 : decode code 532 = .ok (.aload_n 1, 1) := by decide +kernel
theorem d_law_533 : decode code 533 = .ok (.aload_n 0, 1) := by decide +kernel
theorem d_law_534 : decode code 534 = .ok (.iload_n 3, 1) := by decide +kernel
theorem d_law_535 : decode code 535 = .ok (.iconst 1, 1) := by decide +kernel
theorem d_law_536 : decode code 536 = .ok (.iadd, 1) := by decide +kernel
theorem d_law_537 : decode code 537 = .ok (.iaload, 1) := by decide +kernel
theorem d_law_538 : decode code 538 = .ok (.aload_n 0, 1) := by decide +kernel
theorem d_law_539 : decode code 539 = .ok (.iload_n 3, 1) := by decide +kernel
theorem d_law_540 : decode code 540 = .ok (.iconst 2, 1) := by decide +kernel
theorem d_law_541 : decode code 541 = .ok (.iadd, 1) := by decide +kernel
theorem d_law_542 : decode code 542 = .ok (.iaload, 1) := by decide +kernel
theorem d_law_543 : decode code 543 = .ok (.invokevirtual 81, 3) := by decide +kernel
theorem d_law_546 : decode code 546 = .ok (.aload_n 2, 1) := by decide +kernel
theorem d_law_547 : decode code 547 = .ok (.aload_n 0, 1) := by decide +kernel
theorem d_law_548 : decode code 548 = .ok (.iload_n 3, 1) := by decide +kernel
theorem d_law_549 : decode code 549 = .ok (.iconst 1, 1) := by decide +kernel
theorem d_law_550 : decode code 550 = .ok (.iadd, 1) := by decide +kernel
theorem d_law_551 : decode code 551 = .ok (.iaload, 1) := by decide +kernel
theorem d_law_552 : decode code 552 = .ok (.aload_n 0, 1) := by decide +kernel
theorem d_law_553 : decode code 553 = .ok (.iload_n 3, 1) := by decide +kernel
theorem d_law_554 : decode code 554 = .ok (.iconst 2, 1) := by decide +kernel
theorem d_law_555 : decode code 555 = .ok (.iadd, 1) := by decide +kernel
theorem d_law_556 : decode code 556 = .ok (.iaload, 1) := by decide +kernel
theorem d_law_557 : decode code 557 = .ok (.invokevirtual 84, 3) := by decide +kernel
theorem d_law_560 : decode code 560 = .ok (.if_icmp .eq 149, 3) := by decide +kernel
theorem d_law_565 : decode code 565 = .ok (.aload_n 1, 1) := by decide +kernel
theorem d_law_566 : decode code 566 = .ok (.aload_n 0, 1) := by decide +kernel
theorem d_law_567 : decode code 567 = .ok (.iload_n 3, 1) := by decide +kernel
theorem d_law_568 : decode code 568 = .ok (.iconst 1, 1) := by decide +kernel
theorem d_law_569 : decode code 569 = .ok (.iadd, 1) := by decide +kernel
theorem d_law_570 : decode code 570 = .ok (.iaload, 1) := by decide +kernel
theorem d_law_571 : decode code 571 = .ok (.invokevirtual 85, 3) := by decide +kernel
theorem d_law_574 : decode code 574 = .ok (.aload_n 2, 1) := by decide +kernel
theorem d_law_575 : decode code 575 = .ok (.aload_n 0, 1) := by decide +kernel
theorem d_law_576 : decode code 576 = .ok (.iload_n 3, 1) := by decide +kernel
theorem d_law_577 : decode code 577 = .ok (.iconst 1, 1) := by decide +kernel
theorem d_law_578 : decode code 578 = .ok (.iadd, 1) := by decide +kernel
theorem d_law_579 : decode code 579 = .ok (.iaload, 1) := by decide +kernel
theorem d_law_580 : decode code 580 = .ok (.invokevirtual 88, 3) := by decide +kernel
theorem d_law_583 : decode code 583 = .ok (.if_icmp .eq 126, 3) := by decide +kernel
theorem d_law_588 : decode code 588 = .ok (.aload_n 1, 1) := by decide +kernel
theorem d_law_589 : decode code 589 = .ok (.aload_n 0, 1) := by decide +kernel
theorem d_law_590 : decode code 590 = .ok (.iload_n 3, 1) := by decide +kernel
theorem d_law_591 : decode code 591 = .ok (.iconst 1, 1) := by decide +kernel
theorem d_law_592 : decode code 592 = .ok (.iadd, 1) := by decide +kernel
theorem d_law_593 : decode code 593 = .ok (.iaload, 1) := by decide +kernel
theorem d_law_594 : decode code 594 = .ok (.invokevirtual 89, 3) := by decide +kernel
theorem d_law_597 : decode code 597 = .ok (.aload_n 2, 1) := by decide +kernel
theorem d_law_598 : decode code 598 = .ok (.aload_n 0, 1) := by decide +kernel
theorem d_law_599 : decode code 599 = .ok (.iload_n 3, 1) := by decide +kernel
theorem d_law_600 : decode code 600 = .ok (.iconst 1, 1) := by decide +kernel
theorem d_law_601 : decode code 601 = .ok (.iadd, 1) := by decide +kernel
theorem d_law_602 : decode code 602 = .ok (.iaload, 1) := by decide +kernel
theorem d_law_603 : decode code 603 = .ok (.invokevirtual 92, 3) := by decide +kernel
theorem d_law_606 : decode code 606 = .ok (.if_icmp .eq 103, 3) := by decide +kernel
theorem d_law_611 : decode code 611 = .ok (.aload_n 1, 1) := by decide +kernel
theorem d_law_612 : decode code 612 = .ok (.invokevirtual 93, 3) := by decide +kernel
theorem d_law_615 : decode code 615 = .ok (.aload_n 2, 1) := by decide +kernel
theorem d_law_616 : decode code 616 = .ok (.invokevirtual 96, 3) := by decide +kernel
theorem d_law_619 : decode code 619 = .ok (.if_icmp .eq 90, 3) := by decide +kernel
theorem d_law_624 : decode code 624 = .ok (.aload_n 1, 1) := by decide +kernel
theorem d_law_625 : decode code 625 = .ok (.invokevirtual 97, 3) := by decide +kernel
theorem d_law_628 : decode code 628 = .ok (.aload_n 2, 1) := by decide +kernel
theorem d_law_629 : decode code 629 = .ok (.invokevirtual 100, 3) := by decide +kernel
theorem d_law_632 : decode code 632 = .ok (.if_icmp .eq 77, 3) := by decide +kernel
theorem d_law_637 : decode code 637 = .ok (.aload_n 1, 1) := by decide +kernel
theorem d_law_638 : decode code 638 = .ok (.invokevirtual 101, 3) := by decide +kernel
theorem d_law_641 : decode code 641 = .ok (.aload_n 2, 1) := by decide +kernel
theorem d_law_642 : decode code 642 = .ok (.invokevirtual 104, 3) := by decide +kernel
theorem d_law_645 : decode code 645 = .ok (.if_icmp .eq 64, 3) := by decide +kernel
theorem d_law_650 : decode code 650 = .ok (.aload_n 1, 1) := by decide +kernel
theorem d_law_651 : decode code 651 = .ok (.aload_n 0, 1) := by decide +kernel
theorem d_law_652 : decode code 652 = .ok (.iload_n 3, 1) := by decide +kernel
theorem d_law_653 : decode code 653 = .ok (.iconst 1, 1) := by decide +kernel
theorem d_law_654 : decode code 654 = .ok (.iadd, 1) := by decide +kernel
theorem d_law_655 : decode code 655 = .ok (.iaload, 1) := by decide +kernel
theorem d_law_656 : decode code 656 = .ok (.invokevirtual 105, 3) := by decide +kernel
theorem d_law_659 : decode code 659 = .ok (.aload_n 2, 1) := by decide +kernel
theorem d_law_660 : decode code 660 = .ok (.aload_n 0, 1) := by decide +kernel
theorem d_law_661 : decode code 661 = .ok (.iload_n 3, 1) := by decide +kernel
theorem d_law_662 : decode code 662 = .ok (.iconst 1, 1) := by decide +kernel
theorem d_law_663 : decode code 663 = .ok (.iadd, 1) := by decide +kernel
theorem d_law_664 : decode code 664 = .ok (.iaload, 1) := by decide +kernel
theorem d_law_665 : decode code 665 = .ok (.invokevirtual 108, 3) := by decide +kernel
theorem d_law_668 : decode code 668 = .ok (.if_icmp .eq 41, 3) := by decide +kernel
theorem d_law_673 : decode code 673 = .ok (.aload_n 1, 1) := by decide +kernel
theorem d_law_674 : decode code 674 = .ok (.aload_n 0, 1) := by decide +kernel
theorem d_law_675 : decode code 675 = .ok (.iload_n 3, 1) := by decide +kernel
theorem d_law_676 : decode code 676 = .ok (.iconst 1, 1) := by decide +kernel
theorem d_law_677 : decode code 677 = .ok (.iadd, 1) := by decide +kernel
theorem d_law_678 : decode code 678 = .ok (.iaload, 1) := by decide +kernel
theorem d_law_679 : decode code 679 = .ok (.invokevirtual 109, 3) := by decide +kernel
theorem d_law_682 : decode code 682 = .ok (.aload_n 2, 1) := by decide +kernel
theorem d_law_683 : decode code 683 = .ok (.aload_n 0, 1) := by decide +kernel
theorem d_law_684 : decode code 684 = .ok (.iload_n 3, 1) := by decide +kernel
theorem d_law_685 : decode code 685 = .ok (.iconst 1, 1) := by decide +kernel
theorem d_law_686 : decode code 686 = .ok (.iadd, 1) := by decide +kernel
theorem d_law_687 : decode code 687 = .ok (.iaload, 1) := by decide +kernel
theorem d_law_688 : decode code 688 = .ok (.invokevirtual 112, 3) := by decide +kernel
theorem d_law_691 : decode code 691 = .ok (.if_icmp .eq 18, 3) := by decide +kernel
theorem d_law_696 : decode code 696 = .ok (.aload_n 1, 1) := by decide +kernel
theorem d_law_697 : decode code 697 = .ok (.invokevirtual 113, 3) := by decide +kernel
theorem d_law_700 : decode code 700 = .ok (.aload_n 2, 1) := by decide +kernel
theorem d_law_701 : decode code 701 = .ok (.invokevirtual 116, 3) := by decide +kernel
theorem d_law_704 : decode code 704 = .ok (.if_icmp .eq 5, 3) := by decide +kernel
theorem d_law_0 : decode code 0 = .ok (.new 7, 3) := by decide +kernel
theorem d_law_3 : decode code 3 = .ok (.dup, 1) := by decide +kernel
theorem d_law_4 : decode code 4 = .ok (.invokespecial 9, 3) := by decide +kernel
theorem d_law_7 : decode code 7 = .ok (.astore_n 1, 1) := by decide +kernel
theorem d_law_8 : decode code 8 = .ok (.new 10, 3) := by decide +kernel
theorem d_law_11 : decode code 11 = .ok (.dup, 1) := by decide +kernel
theorem d_law_12 : decode code 12 = .ok (.invokespecial 12, 3) := by decide +kernel
theorem d_law_15 : decode code 15 = .ok (.astore_n 2, 1) := by decide +kernel
theorem d_law_16 : decode code 16 = .ok (.iconst 0, 1) := by decide +kernel
theorem d_law_17 : decode code 17 = .ok (.istore_n 3, 1) := by decide +kernel
theorem d_law_18 : decode code 18 = .ok (.iload_n 3, 1) := by decide +kernel
theorem d_law_19 : decode code 19 = .ok (.aload_n 0, 1) := by decide +kernel
theorem d_law_20 : decode code 20 = .ok (.arraylength, 1) := by decide +kernel
theorem d_law_21 : decode code 21 = .ok (.iconst 3, 1) := by decide +kernel
theorem d_law_22 : decode code 22 = .ok (.isub, 1) := by decide +kernel
theorem d_law_23 : decode code 23 = .ok (.if_icmp .gt 692, 3) := by decide +kernel
theorem d_law_26 : decode code 26 = .ok (.aload_n 0, 1) := by decide +kernel
theorem d_law_27 : decode code 27 = .ok (.iload_n 3, 1) := by decide +kernel
theorem d_law_28 : decode code 28 = .ok (.iaload, 1) := by decide +kernel
theorem d_law_29 : decode code 29 = .ok (.bipush 31, 2) := by decide +kernel
theorem d_law_31 : decode code 31 = .ok (.iand, 1) := by decide +kernel
theorem d_law_32 : decode code 32 = .ok (.tableswitch 677 0 23 #[112, 165, 204, 227, 266, 279, 302, 335, 368, 381, 404, 427, 440, 453, 476, 500, 533, 556, 579, 592, 605, 618, 641, 664], 112) := by decide +kernel
theorem d_law_709 : decode code 709 = .ok (.iinc 3 3, 3) := by decide +kernel
theorem d_law_712 : decode code 712 = .ok (.goto (-694), 3) := by decide +kernel
theorem d_law_715 : decode code 715 = .ok (.iconst 1, 1) := by decide +kernel
theorem d_law_716 : decode code 716 = .ok (.ireturn, 1) := by decide +kernel
