theorem dX12_init_0 : decode cX12_init 0 = .ok (.aload_n 0, 1) := by decide +kernel
theorem dX12_init_1 : decode cX12_init 1 = .ok (.invokespecial 1, 3) := by decide +kernel
theorem dX12_init_4 : decode cX12_init 4 = .ok (.aload_n 0, 1) := by decide +kernel
theorem dX12_init_5 : decode cX12_init 5 = .ok (.sipush 1800, 3) := by decide +kernel
theorem dX12_init_8 : decode cX12_init 8 = .ok (.newarray .int, 2) := by decide +kernel
theorem dX12_init_10 : decode cX12_init 10 = .ok (.putfield 7, 3) := by decide +kernel
theorem dX12_init_13 : decode cX12_init 13 = .ok (.aload_n 0, 1) := by decide +kernel
theorem dX12_init_14 : decode cX12_init 14 = .ok (.iconst 0, 1) := by decide +kernel
theorem dX12_init_15 : decode cX12_init 15 = .ok (.putfield 13, 3) := by decide +kernel
theorem dX12_init_18 : decode cX12_init 18 = .ok (.aload_n 0, 1) := by decide +kernel
theorem dX12_init_19 : decode cX12_init 19 = .ok (.iconst 0, 1) := by decide +kernel
theorem dX12_init_20 : decode cX12_init 20 = .ok (.putfield 17, 3) := by decide +kernel
theorem dX12_init_23 : decode cX12_init 23 = .ok (.aload_n 0, 1) := by decide +kernel
theorem dX12_init_24 : decode cX12_init 24 = .ok (.iconst 0, 1) := by decide +kernel
theorem dX12_init_25 : decode cX12_init 25 = .ok (.putfield 20, 3) := by decide +kernel
theorem dX12_init_28 : decode cX12_init 28 = .ok (.aload_n 0, 1) := by decide +kernel
theorem dX12_init_29 : decode cX12_init 29 = .ok (.iconst 0, 1) := by decide +kernel
theorem dX12_init_30 : decode cX12_init 30 = .ok (.putfield 23, 3) := by decide +kernel
theorem dX12_init_33 : decode cX12_init 33 = .ok (.aload_n 0, 1) := by decide +kernel
theorem dX12_init_34 : decode cX12_init 34 = .ok (.iconst 0, 1) := by decide +kernel
theorem dX12_init_35 : decode cX12_init 35 = .ok (.putfield 26, 3) := by decide +kernel
theorem dX12_init_38 : decode cX12_init 38 = .ok (.aload_n 0, 1) := by decide +kernel
theorem dX12_init_39 : decode cX12_init 39 = .ok (.iconst 0, 1) := by decide +kernel
theorem dX12_init_40 : decode cX12_init 40 = .ok (.putfield 29, 3) := by decide +kernel
theorem dX12_init_43 : decode cX12_init 43 = .ok (.aload_n 0, 1) := by decide +kernel
theorem dX12_init_44 : decode cX12_init 44 = .ok (.lconst 0, 1) := by decide +kernel
theorem dX12_init_45 : decode cX12_init 45 = .ok (.putfield 32, 3) := by decide +kernel
theorem dX12_init_48 : decode cX12_init 48 = .ok (.aload_n 0, 1) := by decide +kernel
theorem dX12_init_49 : decode cX12_init 49 = .ok (.iconst 0, 1) := by decide +kernel
theorem dX12_init_50 : decode cX12_init 50 = .ok (.putfield 36, 3) := by decide +kernel
theorem dX12_init_53 : decode cX12_init 53 = .ok (.aload_n 0, 1) := by decide +kernel
theorem dX12_init_54 : decode cX12_init 54 = .ok (.iconst (-1), 1) := by decide +kernel
theorem dX12_init_55 : decode cX12_init 55 = .ok (.putfield 39, 3) := by decide +kernel
theorem dX12_init_58 : decode cX12_init 58 = .ok (.aload_n 0, 1) := by decide +kernel
theorem dX12_init_59 : decode cX12_init 59 = .ok (.iconst 0, 1) := by decide +kernel
theorem dX12_init_60 : decode cX12_init 60 = .ok (.putfield 42, 3) := by decide +kernel
theorem dX12_init_63 : decode cX12_init 63 = .ok (.aload_n 0, 1) := by decide +kernel
theorem dX12_init_64 : decode cX12_init 64 = .ok (.iconst (-1), 1) := by decide +kernel
theorem dX12_init_65 : decode cX12_init 65 = .ok (.putfield 45, 3) := by decide +kernel
theorem dX12_init_68 : decode cX12_init 68 = .ok (.aload_n 0, 1) := by decide +kernel
theorem dX12_init_69 : decode cX12_init 69 = .ok (.iconst (-1), 1) := by decide +kernel
theorem dX12_init_70 : decode cX12_init 70 = .ok (.putfield 48, 3) := by decide +kernel
theorem dX12_init_73 : decode cX12_init 73 = .ok (.aload_n 0, 1) := by decide +kernel
theorem dX12_init_74 : decode cX12_init 74 = .ok (.iconst 0, 1) := by decide +kernel
theorem dX12_init_75 : decode cX12_init 75 = .ok (.putfield 51, 3) := by decide +kernel
theorem dX12_init_78 : decode cX12_init 78 = .ok (.aload_n 0, 1) := by decide +kernel
theorem dX12_init_79 : decode cX12_init 79 = .ok (.iconst 2, 1) := by decide +kernel
theorem dX12_init_80 : decode cX12_init 80 = .ok (.newarray .int, 2) := by decide +kernel
theorem dX12_init_82 : decode cX12_init 82 = .ok (.putfield 54, 3) := by decide +kernel
theorem dX12_init_85 : decode cX12_init 85 = .ok (.aload_n 0, 1) := by decide +kernel
theorem dX12_init_86 : decode cX12_init 86 = .ok (.bipush 16, 2) := by decide +kernel
theorem dX12_init_88 : decode cX12_init 88 = .ok (.newarray .int, 2) := by decide +kernel
theorem dX12_init_90 : decode cX12_init 90 = .ok (.putfield 57, 3) := by decide +kernel
theorem dX12_init_93 : decode cX12_init 93 = .ok (.aload_n 0, 1) := by decide +kernel
theorem dX12_init_94 : decode cX12_init 94 = .ok (.bipush 16, 2) := by decide +kernel
theorem dX12_init_96 : decode cX12_init 96 = .ok (.newarray .int, 2) := by decide +kernel
theorem dX12_init_98 : decode cX12_init 98 = .ok (.putfield 60, 3) := by decide +kernel
theorem dX12_init_101 : decode cX12_init 101 = .ok (.aload_n 0, 1) := by decide +kernel
theorem dX12_init_102 : decode cX12_init 102 = .ok (.iconst 2, 1) := by decide +kernel
theorem dX12_init_103 : decode cX12_init 103 = .ok (.newarray .int, 2) := by decide +kernel
theorem dX12_init_105 : decode cX12_init 105 = .ok (.putfield 63, 3) := by decide +kernel
theorem dX12_init_108 : decode cX12_init 108 = .ok (.aload_n 0, 1) := by decide +kernel
theorem dX12_init_109 : decode cX12_init 109 = .ok (.iconst 2, 1) := by decide +kernel
theorem dX12_init_110 : decode cX12_init 110 = .ok (.newarray .int, 2) := by decide +kernel
theorem dX12_init_112 : decode cX12_init 112 = .ok (.putfield 66, 3) := by decide +kernel
theorem dX12_init_115 : decode cX12_init 115 = .ok (.aload_n 0, 1) := by decide +kernel
theorem dX12_init_116 : decode cX12_init 116 = .ok (.bipush 16, 2) := by decide +kernel
theorem dX12_init_118 : decode cX12_init 118 = .ok (.newarray .int, 2) := by decide +kernel
theorem dX12_init_120 : decode cX12_init 120 = .ok (.putfield 69, 3) := by decide +kernel
theorem dX12_init_123 : decode cX12_init 123 = .ok (.aload_n 0, 1) := by decide +kernel
theorem dX12_init_124 : decode cX12_init 124 = .ok (.bipush 16, 2) := by decide +kernel
theorem dX12_init_126 : decode cX12_init 126 = .ok (.newarray .int, 2) := by decide +kernel
theorem dX12_init_128 : decode cX12_init 128 = .ok (.putfield 72, 3) := by decide +kernel
theorem dX12_init_131 : decode cX12_init 131 = .ok (.aload_n 0, 1) := by decide +kernel
theorem dX12_init_132 : decode cX12_init 132 = .ok (.bipush 16, 2) := by decide +kernel
theorem dX12_init_134 : decode cX12_init 134 = .ok (.newarray .int, 2) := by decide +kernel
theorem dX12_init_136 : decode cX12_init 136 = .ok (.putfield 75, 3) := by decide +kernel
theorem dX12_init_139 : decode cX12_init 139 = .ok (.aload_n 0, 1) := by decide +kernel
theorem dX12_init_140 : decode cX12_init 140 = .ok (.bipush 72, 2) := by decide +kernel
theorem dX12_init_142 : decode cX12_init 142 = .ok (.newarray .int, 2) := by decide +kernel
theorem dX12_init_144 : decode cX12_init 144 = .ok (.putfield 78, 3) := by decide +kernel
theorem dX12_init_147 : decode cX12_init 147 = .ok (.aload_n 0, 1) := by decide +kernel
theorem dX12_init_148 : decode cX12_init 148 = .ok (.iconst 2, 1) := by decide +kernel
theorem dX12_init_149 : decode cX12_init 149 = .ok (.newarray .int, 2) := by decide +kernel
theorem dX12_init_151 : decode cX12_init 151 = .ok (.putfield 81, 3) := by decide +kernel
theorem dX12_init_154 : decode cX12_init 154 = .ok (.aload_n 0, 1) := by decide +kernel
theorem dX12_init_155 : decode cX12_init 155 = .ok (.iconst 2, 1) := by decide +kernel
theorem dX12_init_156 : decode cX12_init 156 = .ok (.newarray .int, 2) := by decide +kernel
theorem dX12_init_158 : decode cX12_init 158 = .ok (.putfield 84, 3) := by decide +kernel
theorem dX12_init_161 : decode cX12_init 161 = .ok (.aload_n 0, 1) := by decide +kernel
theorem dX12_init_162 : decode cX12_init 162 = .ok (.bipush 6, 2) := by decide +kernel
theorem dX12_init_164 : decode cX12_init 164 = .ok (.newarray .int, 2) := by decide +kernel
theorem dX12_init_166 : decode cX12_init 166 = .ok (.putfield 87, 3) := by decide +kernel
theorem dX12_init_169 : decode cX12_init 169 = .ok (.aload_n 0, 1) := by decide +kernel
theorem dX12_init_170 : decode cX12_init 170 = .ok (.bipush 6, 2) := by decide +kernel
theorem dX12_init_172 : decode cX12_init 172 = .ok (.newarray .int, 2) := by decide +kernel
theorem dX12_init_174 : decode cX12_init 174 = .ok (.putfield 90, 3) := by decide +kernel
theorem dX12_init_177 : decode cX12_init 177 = .ok (.aload_n 0, 1) := by decide +kernel
theorem dX12_init_178 : decode cX12_init 178 = .ok (.sipush 3200, 3) := by decide +kernel
theorem dX12_init_181 : decode cX12_init 181 = .ok (.newarray .int, 2) := by decide +kernel
theorem dX12_init_183 : decode cX12_init 183 = .ok (.putfield 93, 3) := by decide +kernel
theorem dX12_init_186 : decode cX12_init 186 = .ok (.aload_n 0, 1) := by decide +kernel
theorem dX12_init_187 : decode cX12_init 187 = .ok (.sipush 3200, 3) := by decide +kernel
theorem dX12_init_190 : decode cX12_init 190 = .ok (.newarray .int, 2) := by decide +kernel
theorem dX12_init_192 : decode cX12_init 192 = .ok (.putfield 96, 3) := by decide +kernel
theorem dX12_init_195 : decode cX12_init 195 = .ok (.aload_n 0, 1) := by decide +kernel
theorem dX12_init_196 : decode cX12_init 196 = .ok (.bipush 16, 2) := by decide +kernel
theorem dX12_init_198 : decode cX12_init 198 = .ok (.newarray .long, 2) := by decide +kernel
theorem dX12_init_200 : decode cX12_init 200 = .ok (.putfield 99, 3) := by decide +kernel
theorem dX12_init_203 : decode cX12_init 203 = .ok (.aload_n 0, 1) := by decide +kernel
theorem dX12_init_204 : decode cX12_init 204 = .ok (.bipush 12, 2) := by decide +kernel
theorem dX12_init_206 : decode cX12_init 206 = .ok (.newarray .long, 2) := by decide +kernel
theorem dX12_init_208 : decode cX12_init 208 = .ok (.putfield 103, 3) := by decide +kernel
theorem dX12_init_211 : decode cX12_init 211 = .ok (.aload_n 0, 1) := by decide +kernel
theorem dX12_init_212 : decode cX12_init 212 = .ok (.bipush 16, 2) := by decide +kernel
theorem dX12_init_214 : decode cX12_init 214 = .ok (.newarray .long, 2) := by decide +kernel
theorem dX12_init_216 : decode cX12_init 216 = .ok (.putfield 106, 3) := by decide +kernel
theorem dX12_init_219 : decode cX12_init 219 = .ok (.aload_n 0, 1) := by decide +kernel
theorem dX12_init_220 : decode cX12_init 220 = .ok (.iconst 0, 1) := by decide +kernel
theorem dX12_init_221 : decode cX12_init 221 = .ok (.putfield 109, 3) := by decide +kernel
theorem dX12_init_224 : decode cX12_init 224 = .ok (.aload_n 0, 1) := by decide +kernel
theorem dX12_init_225 : decode cX12_init 225 = .ok (.iconst 1, 1) := by decide +kernel
theorem dX12_init_226 : decode cX12_init 226 = .ok (.putfield 112, 3) := by decide +kernel
theorem dX12_init_229 : decode cX12_init 229 = .ok (.aload_n 0, 1) := by decide +kernel
theorem dX12_init_230 : decode cX12_init 230 = .ok (.iconst 0, 1) := by decide +kernel
theorem dX12_init_231 : decode cX12_init 231 = .ok (.putfield 115, 3) := by decide +kernel
theorem dX12_init_234 : decode cX12_init 234 = .ok (.aload_n 0, 1) := by decide +kernel
theorem dX12_init_235 : decode cX12_init 235 = .ok (.bipush 20, 2) := by decide +kernel
theorem dX12_init_237 : decode cX12_init 237 = .ok (.newarray .int, 2) := by decide +kernel
theorem dX12_init_239 : decode cX12_init 239 = .ok (.putfield 118, 3) := by decide +kernel
theorem dX12_init_242 : decode cX12_init 242 = .ok (.aload_n 0, 1) := by decide +kernel
theorem dX12_init_243 : decode cX12_init 243 = .ok (.bipush 20, 2) := by decide +kernel
theorem dX12_init_245 : decode cX12_init 245 = .ok (.newarray .int, 2) := by decide +kernel
theorem dX12_init_247 : decode cX12_init 247 = .ok (.putfield 121, 3) := by decide +kernel
theorem dX12_init_250 : decode cX12_init 250 = .ok (.aload_n 0, 1) := by decide +kernel
theorem dX12_init_251 : decode cX12_init 251 = .ok (.bipush 20, 2) := by decide +kernel
theorem dX12_init_253 : decode cX12_init 253 = .ok (.newarray .boolean, 2) := by decide +kernel
theorem dX12_init_255 : decode cX12_init 255 = .ok (.putfield 124, 3) := by decide +kernel
theorem dX12_init_258 : decode cX12_init 258 = .ok (.aload_n 0, 1) := by decide +kernel
theorem dX12_init_259 : decode cX12_init 259 = .ok (.bipush 20, 2) := by decide +kernel
theorem dX12_init_261 : decode cX12_init 261 = .ok (.newarray .int, 2) := by decide +kernel
theorem dX12_init_263 : decode cX12_init 263 = .ok (.putfield 128, 3) := by decide +kernel
theorem dX12_init_266 : decode cX12_init 266 = .ok (.aload_n 0, 1) := by decide +kernel
theorem dX12_init_267 : decode cX12_init 267 = .ok (.bipush 20, 2) := by decide +kernel
theorem dX12_init_269 : decode cX12_init 269 = .ok (.newarray .int, 2) := by decide +kernel
theorem dX12_init_271 : decode cX12_init 271 = .ok (.putfield 131, 3) := by decide +kernel
theorem dX12_init_274 : decode cX12_init 274 = .ok (.aload_n 0, 1) := by decide +kernel
theorem dX12_init_275 : decode cX12_init 275 = .ok (.iconst 0, 1) := by decide +kernel
theorem dX12_init_276 : decode cX12_init 276 = .ok (.putfield 134, 3) := by decide +kernel
theorem dX12_init_279 : decode cX12_init 279 = .ok (.aload_n 0, 1) := by decide +kernel
theorem dX12_init_280 : decode cX12_init 280 = .ok (.iconst 0, 1) := by decide +kernel
theorem dX12_init_281 : decode cX12_init 281 = .ok (.putfield 137, 3) := by decide +kernel
theorem dX12_init_284 : decode cX12_init 284 = .ok (.aload_n 0, 1) := by decide +kernel
theorem dX12_init_285 : decode cX12_init 285 = .ok (.sipush 500, 3) := by decide +kernel
theorem dX12_init_288 : decode cX12_init 288 = .ok (.newarray .int, 2) := by decide +kernel
theorem dX12_init_290 : decode cX12_init 290 = .ok (.putfield 140, 3) := by decide +kernel
theorem dX12_init_293 : decode cX12_init 293 = .ok (.aload_n 0, 1) := by decide +kernel
theorem dX12_init_294 : decode cX12_init 294 = .ok (.iconst 0, 1) := by decide +kernel
theorem dX12_init_295 : decode cX12_init 295 = .ok (.putfield 143, 3) := by decide +kernel
theorem dX12_init_298 : decode cX12_init 298 = .ok (.aload_n 0, 1) := by decide +kernel
theorem dX12_init_299 : decode cX12_init 299 = .ok (.iconst 0, 1) := by decide +kernel
theorem dX12_init_300 : decode cX12_init 300 = .ok (.putfield 146, 3) := by decide +kernel
theorem dX12_init_303 : decode cX12_init 303 = .ok (.aload_n 0, 1) := by decide +kernel
theorem dX12_init_304 : decode cX12_init 304 = .ok (.bipush 6, 2) := by decide +kernel
theorem dX12_init_306 : decode cX12_init 306 = .ok (.newarray .int, 2) := by decide +kernel
theorem dX12_init_308 : decode cX12_init 308 = .ok (.putfield 150, 3) := by decide +kernel
theorem dX12_init_311 : decode cX12_init 311 = .ok (.aload_n 0, 1) := by decide +kernel
theorem dX12_init_312 : decode cX12_init 312 = .ok (.bipush 26, 2) := by decide +kernel
theorem dX12_init_314 : decode cX12_init 314 = .ok (.newarray .int, 2) := by decide +kernel
theorem dX12_init_316 : decode cX12_init 316 = .ok (.putfield 153, 3) := by decide +kernel
theorem dX12_init_319 : decode cX12_init 319 = .ok (.aload_n 0, 1) := by decide +kernel
theorem dX12_init_320 : decode cX12_init 320 = .ok (.sipush 208, 3) := by decide +kernel
theorem dX12_init_323 : decode cX12_init 323 = .ok (.newarray .int, 2) := by decide +kernel
theorem dX12_init_325 : decode cX12_init 325 = .ok (.putfield 156, 3) := by decide +kernel
theorem dX12_init_328 : decode cX12_init 328 = .ok (.aload_n 0, 1) := by decide +kernel
theorem dX12_init_329 : decode cX12_init 329 = .ok (.sipush 208, 3) := by decide +kernel
theorem dX12_init_332 : decode cX12_init 332 = .ok (.newarray .int, 2) := by decide +kernel
theorem dX12_init_334 : decode cX12_init 334 = .ok (.putfield 159, 3) := by decide +kernel
theorem dX12_init_337 : decode cX12_init 337 = .ok (.aload_n 0, 1) := by decide +kernel
theorem dX12_init_338 : decode cX12_init 338 = .ok (.sipush 208, 3) := by decide +kernel
theorem dX12_init_341 : decode cX12_init 341 = .ok (.newarray .int, 2) := by decide +kernel
theorem dX12_init_343 : decode cX12_init 343 = .ok (.putfield 162, 3) := by decide +kernel
theorem dX12_init_346 : decode cX12_init 346 = .ok (.aload_n 0, 1) := by decide +kernel
theorem dX12_init_347 : decode cX12_init 347 = .ok (.sipush 936, 3) := by decide +kernel
theorem dX12_init_350 : decode cX12_init 350 = .ok (.newarray .int, 2) := by decide +kernel
theorem dX12_init_352 : decode cX12_init 352 = .ok (.putfield 165, 3) := by decide +kernel
theorem dX12_init_355 : decode cX12_init 355 = .ok (.aload_n 0, 1) := by decide +kernel
theorem dX12_init_356 : decode cX12_init 356 = .ok (.bipush 26, 2) := by decide +kernel
theorem dX12_init_358 : decode cX12_init 358 = .ok (.newarray .int, 2) := by decide +kernel
theorem dX12_init_360 : decode cX12_init 360 = .ok (.putfield 168, 3) := by decide +kernel
theorem dX12_init_363 : decode cX12_init 363 = .ok (.aload_n 0, 1) := by decide +kernel
theorem dX12_init_364 : decode cX12_init 364 = .ok (.sipush 4160, 3) := by decide +kernel
theorem dX12_init_367 : decode cX12_init 367 = .ok (.newarray .int, 2) := by decide +kernel
theorem dX12_init_369 : decode cX12_init 369 = .ok (.putfield 171, 3) := by decide +kernel
theorem dX12_init_372 : decode cX12_init 372 = .ok (.aload_n 0, 1) := by decide +kernel
theorem dX12_init_373 : decode cX12_init 373 = .ok (.iconst 0, 1) := by decide +kernel
theorem dX12_init_374 : decode cX12_init 374 = .ok (.putfield 174, 3) := by decide +kernel
theorem dX12_init_377 : decode cX12_init 377 = .ok (.aload_n 0, 1) := by decide +kernel
theorem dX12_init_378 : decode cX12_init 378 = .ok (.iconst 0, 1) := by decide +kernel
theorem dX12_init_379 : decode cX12_init 379 = .ok (.putfield 177, 3) := by decide +kernel
theorem dX12_init_382 : decode cX12_init 382 = .ok (.aload_n 0, 1) := by decide +kernel
theorem dX12_init_383 : decode cX12_init 383 = .ok (.lconst 1, 1) := by decide +kernel
theorem dX12_init_384 : decode cX12_init 384 = .ok (.putfield 180, 3) := by decide +kernel
theorem dX12_init_387 : decode cX12_init 387 = .ok (.aload_n 0, 1) := by decide +kernel
theorem dX12_init_388 : decode cX12_init 388 = .ok (.sipush 500, 3) := by decide +kernel
theorem dX12_init_391 : decode cX12_init 391 = .ok (.newarray .long, 2) := by decide +kernel
theorem dX12_init_393 : decode cX12_init 393 = .ok (.putfield 183, 3) := by decide +kernel
theorem dX12_init_396 : decode cX12_init 396 = .ok (.aload_n 0, 1) := by decide +kernel
theorem dX12_init_397 : decode cX12_init 397 = .ok (.bipush 10, 2) := by decide +kernel
theorem dX12_init_399 : decode cX12_init 399 = .ok (.newarray .int, 2) := by decide +kernel
theorem dX12_init_401 : decode cX12_init 401 = .ok (.putfield 186, 3) := by decide +kernel
theorem dX12_init_404 : decode cX12_init 404 = .ok (.aload_n 0, 1) := by decide +kernel
theorem dX12_init_405 : decode cX12_init 405 = .ok (.bipush 8, 2) := by decide +kernel
theorem dX12_init_407 : decode cX12_init 407 = .ok (.newarray .int, 2) := by decide +kernel
theorem dX12_init_409 : decode cX12_init 409 = .ok (.putfield 189, 3) := by decide +kernel
theorem dX12_init_412 : decode cX12_init 412 = .ok (.aload_n 0, 1) := by decide +kernel
theorem dX12_init_413 : decode cX12_init 413 = .ok (.bipush 8, 2) := by decide +kernel
theorem dX12_init_415 : decode cX12_init 415 = .ok (.newarray .int, 2) := by decide +kernel
theorem dX12_init_417 : decode cX12_init 417 = .ok (.putfield 192, 3) := by decide +kernel
theorem dX12_init_420 : decode cX12_init 420 = .ok (.aload_n 0, 1) := by decide +kernel
theorem dX12_init_421 : decode cX12_init 421 = .ok (.iconst 5, 1) := by decide +kernel
theorem dX12_init_422 : decode cX12_init 422 = .ok (.newarray .int, 2) := by decide +kernel
theorem dX12_init_424 : decode cX12_init 424 = .ok (.putfield 195, 3) := by decide +kernel
theorem dX12_init_427 : decode cX12_init 427 = .ok (.aload_n 0, 1) := by decide +kernel
theorem dX12_init_428 : decode cX12_init 428 = .ok (.ldc 198, 2) := by decide +kernel
theorem dX12_init_430 : decode cX12_init 430 = .ok (.newarray .boolean, 2) := by decide +kernel
theorem dX12_init_432 : decode cX12_init 432 = .ok (.putfield 199, 3) := by decide +kernel
theorem dX12_init_435 : decode cX12_init 435 = .ok (.aload_n 0, 1) := by decide +kernel
theorem dX12_init_436 : decode cX12_init 436 = .ok (.sipush 256, 3) := by decide +kernel
theorem dX12_init_439 : decode cX12_init 439 = .ok (.newarray .int, 2) := by decide +kernel
theorem dX12_init_441 : decode cX12_init 441 = .ok (.putfield 202, 3) := by decide +kernel
theorem dX12_init_444 : decode cX12_init 444 = .ok (.aload_n 0, 1) := by decide +kernel
theorem dX12_init_445 : decode cX12_init 445 = .ok (.bipush 64, 2) := by decide +kernel
theorem dX12_init_447 : decode cX12_init 447 = .ok (.newarray .int, 2) := by decide +kernel
theorem dX12_init_449 : decode cX12_init 449 = .ok (.putfield 205, 3) := by decide +kernel
theorem dX12_init_452 : decode cX12_init 452 = .ok (.aload_n 0, 1) := by decide +kernel
theorem dX12_init_453 : decode cX12_init 453 = .ok (.iconst 3, 1) := by decide +kernel
theorem dX12_init_454 : decode cX12_init 454 = .ok (.newarray .int, 2) := by decide +kernel
theorem dX12_init_456 : decode cX12_init 456 = .ok (.putfield 208, 3) := by decide +kernel
theorem dX12_init_459 : decode cX12_init 459 = .ok (.aload_n 0, 1) := by decide +kernel
theorem dX12_init_460 : decode cX12_init 460 = .ok (.bipush 8, 2) := by decide +kernel
theorem dX12_init_462 : decode cX12_init 462 = .ok (.newarray .int, 2) := by decide +kernel
theorem dX12_init_464 : decode cX12_init 464 = .ok (.putfield 211, 3) := by decide +kernel
theorem dX12_init_467 : decode cX12_init 467 = .ok (.aload_n 0, 1) := by decide +kernel
theorem dX12_init_468 : decode cX12_init 468 = .ok (.iconst 0, 1) := by decide +kernel
theorem dX12_init_469 : decode cX12_init 469 = .ok (.putfield 214, 3) := by decide +kernel
theorem dX12_init_472 : decode cX12_init 472 = .ok (.aload_n 0, 1) := by decide +kernel
theorem dX12_init_473 : decode cX12_init 473 = .ok (.bipush 8, 2) := by decide +kernel
theorem dX12_init_475 : decode cX12_init 475 = .ok (.newarray .int, 2) := by decide +kernel
theorem dX12_init_477 : decode cX12_init 477 = .ok (.putfield 217, 3) := by decide +kernel
theorem dX12_init_480 : decode cX12_init 480 = .ok (.aload_n 0, 1) := by decide +kernel
theorem dX12_init_481 : decode cX12_init 481 = .ok (.bipush 8, 2) := by decide +kernel
theorem dX12_init_483 : decode cX12_init 483 = .ok (.newarray .int, 2) := by decide +kernel
theorem dX12_init_485 : decode cX12_init 485 = .ok (.putfield 220, 3) := by decide +kernel
theorem dX12_init_488 : decode cX12_init 488 = .ok (.aload_n 0, 1) := by decide +kernel
theorem dX12_init_489 : decode cX12_init 489 = .ok (.bipush 120, 2) := by decide +kernel
theorem dX12_init_491 : decode cX12_init 491 = .ok (.newarray .int, 2) := by decide +kernel
theorem dX12_init_493 : decode cX12_init 493 = .ok (.putfield 223, 3) := by decide +kernel
theorem dX12_init_496 : decode cX12_init 496 = .ok (.aload_n 0, 1) := by decide +kernel
theorem dX12_init_497 : decode cX12_init 497 = .ok (.iconst 0, 1) := by decide +kernel
theorem dX12_init_498 : decode cX12_init 498 = .ok (.putfield 226, 3) := by decide +kernel
theorem dX12_init_501 : decode cX12_init 501 = .ok (.iconst 0, 1) := by decide +kernel
theorem dX12_init_502 : decode cX12_init 502 = .ok (.istore_n 1, 1) := by decide +kernel
theorem dX12_init_503 : decode cX12_init 503 = .ok (.iload_n 1, 1) := by decide +kernel
theorem dX12_init_504 : decode cX12_init 504 = .ok (.bipush 6, 2) := by decide +kernel
theorem dX12_init_506 : decode cX12_init 506 = .ok (.if_icmp .ge 16, 3) := by decide +kernel
theorem dX12_init_509 : decode cX12_init 509 = .ok (.aload_n 0, 1) := by decide +kernel
theorem dX12_init_510 : decode cX12_init 510 = .ok (.getfield 87, 3) := by decide +kernel
theorem dX12_init_513 : decode cX12_init 513 = .ok (.iload_n 1, 1) := by decide +kernel
theorem dX12_init_514 : decode cX12_init 514 = .ok (.iconst (-1), 1) := by decide +kernel
theorem dX12_init_515 : decode cX12_init 515 = .ok (.iastore, 1) := by decide +kernel
theorem dX12_init_516 : decode cX12_init 516 = .ok (.iinc 1 1, 3) := by decide +kernel
theorem dX12_init_519 : decode cX12_init 519 = .ok (.goto (-16), 3) := by decide +kernel
theorem dX12_init_522 : decode cX12_init 522 = .ok (.return_, 1) := by decide +kernel
theorem dX12_is_0 : decode cX12_is 0 = .ok (.iload_n 0, 1) := by decide +kernel
theorem dX12_is_1 : decode cX12_is 1 = .ok (.iload_n 1, 1) := by decide +kernel
theorem dX12_is_2 : decode cX12_is 2 = .ok (.if_icmp .lt 12, 3) := by decide +kernel
theorem dX12_is_5 : decode cX12_is 5 = .ok (.iload_n 0, 1) := by decide +kernel
theorem dX12_is_6 : decode cX12_is 6 = .ok (.iload_n 2, 1) := by decide +kernel
theorem dX12_is_7 : decode cX12_is 7 = .ok (.if_icmp .gt 7, 3) := by decide +kernel
theorem dX12_is_10 : decode cX12_is 10 = .ok (.iconst 1, 1) := by decide +kernel
theorem dX12_is_11 : decode cX12_is 11 = .ok (.goto 4, 3) := by decide +kernel
theorem dX12_is_14 : decode cX12_is 14 = .ok (.iconst 0, 1) := by decide +kernel
theorem dX12_is_15 : decode cX12_is 15 = .ok (.ireturn, 1) := by decide +kernel
theorem dX12_put_0 : decode cX12_put 0 = .ok (.bipush 24, 2) := by decide +kernel
theorem dX12_put_2 : decode cX12_put 2 = .ok (.istore_n 2, 1) := by decide +kernel
theorem dX12_put_3 : decode cX12_put 3 = .ok (.iload_n 2, 1) := by decide +kernel
theorem dX12_put_4 : decode cX12_put 4 = .ok (.ifCond .lt 35, 3) := by decide +kernel
theorem dX12_put_7 : decode cX12_put 7 = .ok (.aload_n 0, 1) := by decide +kernel
theorem dX12_put_8 : decode cX12_put 8 = .ok (.getfield 7, 3) := by decide +kernel
theorem dX12_put_11 : decode cX12_put 11 = .ok (.aload_n 0, 1) := by decide +kernel
theorem dX12_put_12 : decode cX12_put 12 = .ok (.getfield 13, 3) := by decide +kernel
theorem dX12_put_15 : decode cX12_put 15 = .ok (.iload_n 1, 1) := by decide +kernel
theorem dX12_put_16 : decode cX12_put 16 = .ok (.iload_n 2, 1) := by decide +kernel
theorem dX12_put_17 : decode cX12_put 17 = .ok (.ishr, 1) := by decide +kernel
theorem dX12_put_18 : decode cX12_put 18 = .ok (.sipush 255, 3) := by decide +kernel
theorem dX12_put_21 : decode cX12_put 21 = .ok (.iand, 1) := by decide +kernel
theorem dX12_put_22 : decode cX12_put 22 = .ok (.iastore, 1) := by decide +kernel
theorem dX12_put_23 : decode cX12_put 23 = .ok (.aload_n 0, 1) := by decide +kernel
theorem dX12_put_24 : decode cX12_put 24 = .ok (.dup, 1) := by decide +kernel
theorem dX12_put_25 : decode cX12_put 25 = .ok (.getfield 13, 3) := by decide +kernel
theorem dX12_put_28 : decode cX12_put 28 = .ok (.iconst 1, 1) := by decide +kernel
theorem dX12_put_29 : decode cX12_put 29 = .ok (.iadd, 1) := by decide +kernel
theorem dX12_put_30 : decode cX12_put 30 = .ok (.putfield 13, 3) := by decide +kernel
theorem dX12_put_33 : decode cX12_put 33 = .ok (.iinc 2 (-8), 3) := by decide +kernel
theorem dX12_put_36 : decode cX12_put 36 = .ok (.goto (-33), 3) := by decide +kernel
theorem dX12_put_39 : decode cX12_put 39 = .ok (.return_, 1) := by decide +kernel
theorem dX12_feed_0 : decode cX12_feed 0 = .ok (.aload_n 0, 1) := by decide +kernel
theorem dX12_feed_1 : decode cX12_feed 1 = .ok (.getfield 13, 3) := by decide +kernel
theorem dX12_feed_4 : decode cX12_feed 4 = .ok (.bipush 20, 2) := by decide +kernel
theorem dX12_feed_6 : decode cX12_feed 6 = .ok (.iadd, 1) := by decide +kernel
theorem dX12_feed_7 : decode cX12_feed 7 = .ok (.sipush 1600, 3) := by decide +kernel
theorem dX12_feed_10 : decode cX12_feed 10 = .ok (.if_icmp .le 9, 3) := by decide +kernel
theorem dX12_feed_13 : decode cX12_feed 13 = .ok (.aload_n 0, 1) := by decide +kernel
theorem dX12_feed_14 : decode cX12_feed 14 = .ok (.iconst 0, 1) := by decide +kernel
theorem dX12_feed_15 : decode cX12_feed 15 = .ok (.invokevirtual 229, 3) := by decide +kernel
theorem dX12_feed_18 : decode cX12_feed 18 = .ok (.ireturn, 1) := by decide +kernel
theorem dX12_feed_19 : decode cX12_feed 19 = .ok (.aload_n 0, 1) := by decide +kernel
theorem dX12_feed_20 : decode cX12_feed 20 = .ok (.iload_n 1, 1) := by decide +kernel
theorem dX12_feed_21 : decode cX12_feed 21 = .ok (.invokevirtual 233, 3) := by decide +kernel
theorem dX12_feed_24 : decode cX12_feed 24 = .ok (.aload_n 0, 1) := by decide +kernel
theorem dX12_feed_25 : decode cX12_feed 25 = .ok (.iload_n 2, 1) := by decide +kernel
theorem dX12_feed_26 : decode cX12_feed 26 = .ok (.invokevirtual 233, 3) := by decide +kernel
theorem dX12_feed_29 : decode cX12_feed 29 = .ok (.aload_n 0, 1) := by decide +kernel
theorem dX12_feed_30 : decode cX12_feed 30 = .ok (.iload_n 3, 1) := by decide +kernel
theorem dX12_feed_31 : decode cX12_feed 31 = .ok (.invokevirtual 233, 3) := by decide +kernel
theorem dX12_feed_34 : decode cX12_feed 34 = .ok (.aload_n 0, 1) := by decide +kernel
theorem dX12_feed_35 : decode cX12_feed 35 = .ok (.iload 4, 2) := by decide +kernel
theorem dX12_feed_37 : decode cX12_feed 37 = .ok (.invokevirtual 233, 3) := by decide +kernel
theorem dX12_feed_40 : decode cX12_feed 40 = .ok (.aload_n 0, 1) := by decide +kernel
theorem dX12_feed_41 : decode cX12_feed 41 = .ok (.iload 5, 2) := by decide +kernel
theorem dX12_feed_43 : decode cX12_feed 43 = .ok (.invokevirtual 233, 3) := by decide +kernel
theorem dX12_feed_46 : decode cX12_feed 46 = .ok (.aload_n 0, 1) := by decide +kernel
theorem dX12_feed_47 : decode cX12_feed 47 = .ok (.getfield 13, 3) := by decide +kernel
theorem dX12_feed_50 : decode cX12_feed 50 = .ok (.ireturn, 1) := by decide +kernel
theorem dX12_end_0 : decode cX12_end 0 = .ok (.iload_n 1, 1) := by decide +kernel
theorem dX12_end_1 : decode cX12_end 1 = .ok (.ifCond .lt 11, 3) := by decide +kernel
theorem dX12_end_4 : decode cX12_end 4 = .ok (.iload_n 1, 1) := by decide +kernel
theorem dX12_end_5 : decode cX12_end 5 = .ok (.aload_n 0, 1) := by decide +kernel
theorem dX12_end_6 : decode cX12_end 6 = .ok (.getfield 13, 3) := by decide +kernel
theorem dX12_end_9 : decode cX12_end 9 = .ok (.if_icmp .le 17, 3) := by decide +kernel
theorem dX12_end_12 : decode cX12_end 12 = .ok (.aload_n 0, 1) := by decide +kernel
theorem dX12_end_13 : decode cX12_end 13 = .ok (.iconst 0, 1) := by decide +kernel
theorem dX12_end_14 : decode cX12_end 14 = .ok (.invokevirtual 229, 3) := by decide +kernel
theorem dX12_end_17 : decode cX12_end 17 = .ok (.ifCond .lt 7, 3) := by decide +kernel
theorem dX12_end_20 : decode cX12_end 20 = .ok (.iconst 1, 1) := by decide +kernel
theorem dX12_end_21 : decode cX12_end 21 = .ok (.goto 4, 3) := by decide +kernel
theorem dX12_end_24 : decode cX12_end 24 = .ok (.iconst 0, 1) := by decide +kernel
theorem dX12_end_25 : decode cX12_end 25 = .ok (.ireturn, 1) := by decide +kernel
theorem dX12_end_26 : decode cX12_end 26 = .ok (.aload_n 0, 1) := by decide +kernel
theorem dX12_end_27 : decode cX12_end 27 = .ok (.iload_n 1, 1) := by decide +kernel
theorem dX12_end_28 : decode cX12_end 28 = .ok (.putfield 13, 3) := by decide +kernel
theorem dX12_end_31 : decode cX12_end 31 = .ok (.iconst 1, 1) := by decide +kernel
theorem dX12_end_32 : decode cX12_end 32 = .ok (.ireturn, 1) := by decide +kernel
theorem dX12_blame_0 : decode cX12_blame 0 = .ok (.aload_n 0, 1) := by decide +kernel
theorem dX12_blame_1 : decode cX12_blame 1 = .ok (.getfield 36, 3) := by decide +kernel
theorem dX12_blame_4 : decode cX12_blame 4 = .ok (.ifCond .le 4, 3) := by decide +kernel
theorem dX12_blame_7 : decode cX12_blame 7 = .ok (.return_, 1) := by decide +kernel
theorem dX12_blame_8 : decode cX12_blame 8 = .ok (.aload_n 0, 1) := by decide +kernel
theorem dX12_blame_9 : decode cX12_blame 9 = .ok (.iload_n 1, 1) := by decide +kernel
theorem dX12_blame_10 : decode cX12_blame 10 = .ok (.putfield 36, 3) := by decide +kernel
theorem dX12_blame_13 : decode cX12_blame 13 = .ok (.aload_n 0, 1) := by decide +kernel
theorem dX12_blame_14 : decode cX12_blame 14 = .ok (.iload_n 2, 1) := by decide +kernel
theorem dX12_blame_15 : decode cX12_blame 15 = .ok (.putfield 39, 3) := by decide +kernel
theorem dX12_blame_18 : decode cX12_blame 18 = .ok (.return_, 1) := by decide +kernel
theorem dX12_isLetter_0 : decode cX12_isLetter 0 = .ok (.iload_n 0, 1) := by decide +kernel
theorem dX12_isLetter_1 : decode cX12_isLetter 1 = .ok (.bipush 97, 2) := by decide +kernel
theorem dX12_isLetter_3 : decode cX12_isLetter 3 = .ok (.if_icmp .lt 13, 3) := by decide +kernel
theorem dX12_isLetter_6 : decode cX12_isLetter 6 = .ok (.iload_n 0, 1) := by decide +kernel
theorem dX12_isLetter_7 : decode cX12_isLetter 7 = .ok (.bipush 122, 2) := by decide +kernel
theorem dX12_isLetter_9 : decode cX12_isLetter 9 = .ok (.if_icmp .gt 7, 3) := by decide +kernel
theorem dX12_isLetter_12 : decode cX12_isLetter 12 = .ok (.iconst 1, 1) := by decide +kernel
theorem dX12_isLetter_13 : decode cX12_isLetter 13 = .ok (.goto 4, 3) := by decide +kernel
theorem dX12_isLetter_16 : decode cX12_isLetter 16 = .ok (.iconst 0, 1) := by decide +kernel
theorem dX12_isLetter_17 : decode cX12_isLetter 17 = .ok (.ireturn, 1) := by decide +kernel
theorem dX12_isDigit_0 : decode cX12_isDigit 0 = .ok (.iload_n 0, 1) := by decide +kernel
theorem dX12_isDigit_1 : decode cX12_isDigit 1 = .ok (.bipush 48, 2) := by decide +kernel
theorem dX12_isDigit_3 : decode cX12_isDigit 3 = .ok (.if_icmp .lt 13, 3) := by decide +kernel
theorem dX12_isDigit_6 : decode cX12_isDigit 6 = .ok (.iload_n 0, 1) := by decide +kernel
theorem dX12_isDigit_7 : decode cX12_isDigit 7 = .ok (.bipush 57, 2) := by decide +kernel
theorem dX12_isDigit_9 : decode cX12_isDigit 9 = .ok (.if_icmp .gt 7, 3) := by decide +kernel
theorem dX12_isDigit_12 : decode cX12_isDigit 12 = .ok (.iconst 1, 1) := by decide +kernel
theorem dX12_isDigit_13 : decode cX12_isDigit 13 = .ok (.goto 4, 3) := by decide +kernel
theorem dX12_isDigit_16 : decode cX12_isDigit 16 = .ok (.iconst 0, 1) := by decide +kernel
theorem dX12_isDigit_17 : decode cX12_isDigit 17 = .ok (.ireturn, 1) := by decide +kernel
theorem dX12_lex_0 : decode cX12_lex 0 = .ok (.aload_n 0, 1) := by decide +kernel
theorem dX12_lex_1 : decode cX12_lex 1 = .ok (.getfield 48, 3) := by decide +kernel
theorem dX12_lex_4 : decode cX12_lex 4 = .ok (.iconst (-1), 1) := by decide +kernel
theorem dX12_lex_5 : decode cX12_lex 5 = .ok (.if_icmp .eq 12, 3) := by decide +kernel
theorem dX12_lex_8 : decode cX12_lex 8 = .ok (.aload_n 0, 1) := by decide +kernel
theorem dX12_lex_9 : decode cX12_lex 9 = .ok (.iconst 1, 1) := by decide +kernel
theorem dX12_lex_10 : decode cX12_lex 10 = .ok (.aload_n 0, 1) := by decide +kernel
theorem dX12_lex_11 : decode cX12_lex 11 = .ok (.getfield 48, 3) := by decide +kernel
theorem dX12_lex_14 : decode cX12_lex 14 = .ok (.invokevirtual 237, 3) := by decide +kernel
theorem dX12_lex_17 : decode cX12_lex 17 = .ok (.return_, 1) := by decide +kernel
theorem dX12_ahead_0 : decode cX12_ahead 0 = .ok (.aload_n 0, 1) := by decide +kernel
theorem dX12_ahead_1 : decode cX12_ahead 1 = .ok (.getfield 26, 3) := by decide +kernel
theorem dX12_ahead_4 : decode cX12_ahead 4 = .ok (.istore_n 1, 1) := by decide +kernel
theorem dX12_ahead_5 : decode cX12_ahead 5 = .ok (.iload_n 1, 1) := by decide +kernel
theorem dX12_ahead_6 : decode cX12_ahead 6 = .ok (.aload_n 0, 1) := by decide +kernel
theorem dX12_ahead_7 : decode cX12_ahead 7 = .ok (.getfield 17, 3) := by decide +kernel
theorem dX12_ahead_10 : decode cX12_ahead 10 = .ok (.if_icmp .ge 31, 3) := by decide +kernel
theorem dX12_ahead_13 : decode cX12_ahead 13 = .ok (.aload_n 0, 1) := by decide +kernel
theorem dX12_ahead_14 : decode cX12_ahead 14 = .ok (.getfield 7, 3) := by decide +kernel
theorem dX12_ahead_17 : decode cX12_ahead 17 = .ok (.iload_n 1, 1) := by decide +kernel
theorem dX12_ahead_18 : decode cX12_ahead 18 = .ok (.iaload, 1) := by decide +kernel
theorem dX12_ahead_19 : decode cX12_ahead 19 = .ok (.bipush 32, 2) := by decide +kernel
theorem dX12_ahead_21 : decode cX12_ahead 21 = .ok (.if_icmp .eq 14, 3) := by decide +kernel
theorem dX12_ahead_24 : decode cX12_ahead 24 = .ok (.aload_n 0, 1) := by decide +kernel
theorem dX12_ahead_25 : decode cX12_ahead 25 = .ok (.getfield 7, 3) := by decide +kernel
theorem dX12_ahead_28 : decode cX12_ahead 28 = .ok (.iload_n 1, 1) := by decide +kernel
theorem dX12_ahead_29 : decode cX12_ahead 29 = .ok (.iaload, 1) := by decide +kernel
theorem dX12_ahead_30 : decode cX12_ahead 30 = .ok (.bipush 10, 2) := by decide +kernel
theorem dX12_ahead_32 : decode cX12_ahead 32 = .ok (.if_icmp .ne 9, 3) := by decide +kernel
theorem dX12_ahead_35 : decode cX12_ahead 35 = .ok (.iinc 1 1, 3) := by decide +kernel
theorem dX12_ahead_38 : decode cX12_ahead 38 = .ok (.goto (-33), 3) := by decide +kernel
theorem dX12_ahead_41 : decode cX12_ahead 41 = .ok (.aload_n 0, 1) := by decide +kernel
theorem dX12_ahead_42 : decode cX12_ahead 42 = .ok (.iload_n 1, 1) := by decide +kernel
theorem dX12_ahead_43 : decode cX12_ahead 43 = .ok (.putfield 23, 3) := by decide +kernel
theorem dX12_ahead_46 : decode cX12_ahead 46 = .ok (.aload_n 0, 1) := by decide +kernel
theorem dX12_ahead_47 : decode cX12_ahead 47 = .ok (.iload_n 1, 1) := by decide +kernel
theorem dX12_ahead_48 : decode cX12_ahead 48 = .ok (.putfield 26, 3) := by decide +kernel
theorem dX12_ahead_51 : decode cX12_ahead 51 = .ok (.aload_n 0, 1) := by decide +kernel
theorem dX12_ahead_52 : decode cX12_ahead 52 = .ok (.iconst 0, 1) := by decide +kernel
theorem dX12_ahead_53 : decode cX12_ahead 53 = .ok (.putfield 20, 3) := by decide +kernel
theorem dX12_ahead_56 : decode cX12_ahead 56 = .ok (.aload_n 0, 1) := by decide +kernel
theorem dX12_ahead_57 : decode cX12_ahead 57 = .ok (.iconst (-1), 1) := by decide +kernel
theorem dX12_ahead_58 : decode cX12_ahead 58 = .ok (.putfield 48, 3) := by decide +kernel
theorem dX12_ahead_61 : decode cX12_ahead 61 = .ok (.iload_n 1, 1) := by decide +kernel
theorem dX12_ahead_62 : decode cX12_ahead 62 = .ok (.aload_n 0, 1) := by decide +kernel
theorem dX12_ahead_63 : decode cX12_ahead 63 = .ok (.getfield 17, 3) := by decide +kernel
theorem dX12_ahead_66 : decode cX12_ahead 66 = .ok (.if_icmp .lt 4, 3) := by decide +kernel
theorem dX12_ahead_69 : decode cX12_ahead 69 = .ok (.return_, 1) := by decide +kernel
theorem dX12_ahead_70 : decode cX12_ahead 70 = .ok (.aload_n 0, 1) := by decide +kernel
theorem dX12_ahead_71 : decode cX12_ahead 71 = .ok (.getfield 7, 3) := by decide +kernel
theorem dX12_ahead_74 : decode cX12_ahead 74 = .ok (.iload_n 1, 1) := by decide +kernel
theorem dX12_ahead_75 : decode cX12_ahead 75 = .ok (.iaload, 1) := by decide +kernel
theorem dX12_ahead_76 : decode cX12_ahead 76 = .ok (.invokestatic 241, 3) := by decide +kernel
theorem dX12_ahead_79 : decode cX12_ahead 79 = .ok (.istore_n 2, 1) := by decide +kernel
theorem dX12_ahead_80 : decode cX12_ahead 80 = .ok (.aload_n 0, 1) := by decide +kernel
theorem dX12_ahead_81 : decode cX12_ahead 81 = .ok (.getfield 7, 3) := by decide +kernel
theorem dX12_ahead_84 : decode cX12_ahead 84 = .ok (.iload_n 1, 1) := by decide +kernel
theorem dX12_ahead_85 : decode cX12_ahead 85 = .ok (.iaload, 1) := by decide +kernel
theorem dX12_ahead_86 : decode cX12_ahead 86 = .ok (.invokestatic 245, 3) := by decide +kernel
theorem dX12_ahead_89 : decode cX12_ahead 89 = .ok (.istore_n 3, 1) := by decide +kernel
theorem dX12_ahead_90 : decode cX12_ahead 90 = .ok (.iload_n 2, 1) := by decide +kernel
theorem dX12_ahead_91 : decode cX12_ahead 91 = .ok (.ifCond .ne 7, 3) := by decide +kernel
theorem dX12_ahead_94 : decode cX12_ahead 94 = .ok (.iload_n 3, 1) := by decide +kernel
theorem dX12_ahead_95 : decode cX12_ahead 95 = .ok (.ifCond .eq 40, 3) := by decide +kernel
theorem dX12_ahead_98 : decode cX12_ahead 98 = .ok (.iload_n 1, 1) := by decide +kernel
theorem dX12_ahead_99 : decode cX12_ahead 99 = .ok (.ifCond .le 36, 3) := by decide +kernel
theorem dX12_ahead_102 : decode cX12_ahead 102 = .ok (.aload_n 0, 1) := by decide +kernel
theorem dX12_ahead_103 : decode cX12_ahead 103 = .ok (.getfield 7, 3) := by decide +kernel
theorem dX12_ahead_106 : decode cX12_ahead 106 = .ok (.iload_n 1, 1) := by decide +kernel
theorem dX12_ahead_107 : decode cX12_ahead 107 = .ok (.iconst 1, 1) := by decide +kernel
theorem dX12_ahead_108 : decode cX12_ahead 108 = .ok (.isub, 1) := by decide +kernel
theorem dX12_ahead_109 : decode cX12_ahead 109 = .ok (.iaload, 1) := by decide +kernel
theorem dX12_ahead_110 : decode cX12_ahead 110 = .ok (.invokestatic 241, 3) := by decide +kernel
theorem dX12_ahead_113 : decode cX12_ahead 113 = .ok (.ifCond .ne 17, 3) := by decide +kernel
theorem dX12_ahead_116 : decode cX12_ahead 116 = .ok (.aload_n 0, 1) := by decide +kernel
theorem dX12_ahead_117 : decode cX12_ahead 117 = .ok (.getfield 7, 3) := by decide +kernel
theorem dX12_ahead_120 : decode cX12_ahead 120 = .ok (.iload_n 1, 1) := by decide +kernel
theorem dX12_ahead_121 : decode cX12_ahead 121 = .ok (.iconst 1, 1) := by decide +kernel
theorem dX12_ahead_122 : decode cX12_ahead 122 = .ok (.isub, 1) := by decide +kernel
theorem dX12_ahead_123 : decode cX12_ahead 123 = .ok (.iaload, 1) := by decide +kernel
theorem dX12_ahead_124 : decode cX12_ahead 124 = .ok (.invokestatic 245, 3) := by decide +kernel
theorem dX12_ahead_127 : decode cX12_ahead 127 = .ok (.ifCond .eq 8, 3) := by decide +kernel
theorem dX12_ahead_130 : decode cX12_ahead 130 = .ok (.aload_n 0, 1) := by decide +kernel
theorem dX12_ahead_131 : decode cX12_ahead 131 = .ok (.iload_n 1, 1) := by decide +kernel
theorem dX12_ahead_132 : decode cX12_ahead 132 = .ok (.putfield 48, 3) := by decide +kernel
theorem dX12_ahead_135 : decode cX12_ahead 135 = .ok (.aload_n 0, 1) := by decide +kernel
theorem dX12_ahead_136 : decode cX12_ahead 136 = .ok (.iconst 0, 1) := by decide +kernel
theorem dX12_ahead_137 : decode cX12_ahead 137 = .ok (.putfield 29, 3) := by decide +kernel
theorem dX12_ahead_140 : decode cX12_ahead 140 = .ok (.aload_n 0, 1) := by decide +kernel
theorem dX12_ahead_141 : decode cX12_ahead 141 = .ok (.lconst 0, 1) := by decide +kernel
theorem dX12_ahead_142 : decode cX12_ahead 142 = .ok (.putfield 32, 3) := by decide +kernel
theorem dX12_ahead_145 : decode cX12_ahead 145 = .ok (.aload_n 0, 1) := by decide +kernel
theorem dX12_ahead_146 : decode cX12_ahead 146 = .ok (.iconst 3, 1) := by decide +kernel
theorem dX12_ahead_147 : decode cX12_ahead 147 = .ok (.putfield 20, 3) := by decide +kernel
theorem dX12_ahead_150 : decode cX12_ahead 150 = .ok (.aload_n 0, 1) := by decide +kernel
theorem dX12_ahead_151 : decode cX12_ahead 151 = .ok (.iload_n 1, 1) := by decide +kernel
theorem dX12_ahead_152 : decode cX12_ahead 152 = .ok (.iconst 1, 1) := by decide +kernel
theorem dX12_ahead_153 : decode cX12_ahead 153 = .ok (.iadd, 1) := by decide +kernel
theorem dX12_ahead_154 : decode cX12_ahead 154 = .ok (.putfield 26, 3) := by decide +kernel
theorem dX12_ahead_157 : decode cX12_ahead 157 = .ok (.iload_n 2, 1) := by decide +kernel
theorem dX12_ahead_158 : decode cX12_ahead 158 = .ok (.ifCond .ne 18, 3) := by decide +kernel
theorem dX12_ahead_161 : decode cX12_ahead 161 = .ok (.iload_n 3, 1) := by decide +kernel
theorem dX12_ahead_162 : decode cX12_ahead 162 = .ok (.ifCond .ne 14, 3) := by decide +kernel
theorem dX12_ahead_165 : decode cX12_ahead 165 = .ok (.aload_n 0, 1) := by decide +kernel
theorem dX12_ahead_166 : decode cX12_ahead 166 = .ok (.aload_n 0, 1) := by decide +kernel
theorem dX12_ahead_167 : decode cX12_ahead 167 = .ok (.getfield 7, 3) := by decide +kernel
theorem dX12_ahead_170 : decode cX12_ahead 170 = .ok (.iload_n 1, 1) := by decide +kernel
theorem dX12_ahead_171 : decode cX12_ahead 171 = .ok (.iaload, 1) := by decide +kernel
theorem dX12_ahead_172 : decode cX12_ahead 172 = .ok (.putfield 29, 3) := by decide +kernel
theorem dX12_ahead_175 : decode cX12_ahead 175 = .ok (.return_, 1) := by decide +kernel
theorem dX12_ahead_176 : decode cX12_ahead 176 = .ok (.aload_n 0, 1) := by decide +kernel
theorem dX12_ahead_177 : decode cX12_ahead 177 = .ok (.iload_n 2, 1) := by decide +kernel
theorem dX12_ahead_178 : decode cX12_ahead 178 = .ok (.ifCond .eq 7, 3) := by decide +kernel
theorem dX12_ahead_181 : decode cX12_ahead 181 = .ok (.iconst 1, 1) := by decide +kernel
theorem dX12_ahead_182 : decode cX12_ahead 182 = .ok (.goto 4, 3) := by decide +kernel
theorem dX12_ahead_185 : decode cX12_ahead 185 = .ok (.iconst 2, 1) := by decide +kernel
theorem dX12_ahead_186 : decode cX12_ahead 186 = .ok (.putfield 20, 3) := by decide +kernel
theorem dX12_ahead_189 : decode cX12_ahead 189 = .ok (.iload_n 2, 1) := by decide +kernel
theorem dX12_ahead_190 : decode cX12_ahead 190 = .ok (.ifCond .eq 8, 3) := by decide +kernel
theorem dX12_ahead_193 : decode cX12_ahead 193 = .ok (.bipush 6, 2) := by decide +kernel
theorem dX12_ahead_195 : decode cX12_ahead 195 = .ok (.goto 4, 3) := by decide +kernel
theorem dX12_ahead_198 : decode cX12_ahead 198 = .ok (.iconst 4, 1) := by decide +kernel
theorem dX12_ahead_199 : decode cX12_ahead 199 = .ok (.istore 4, 2) := by decide +kernel
theorem dX12_ahead_201 : decode cX12_ahead 201 = .ok (.iconst 0, 1) := by decide +kernel
theorem dX12_ahead_202 : decode cX12_ahead 202 = .ok (.istore 5, 2) := by decide +kernel
theorem dX12_ahead_204 : decode cX12_ahead 204 = .ok (.iload_n 1, 1) := by decide +kernel
theorem dX12_ahead_205 : decode cX12_ahead 205 = .ok (.aload_n 0, 1) := by decide +kernel
theorem dX12_ahead_206 : decode cX12_ahead 206 = .ok (.getfield 17, 3) := by decide +kernel
theorem dX12_ahead_209 : decode cX12_ahead 209 = .ok (.if_icmp .ge 125, 3) := by decide +kernel
theorem dX12_ahead_212 : decode cX12_ahead 212 = .ok (.iload_n 2, 1) := by decide +kernel
theorem dX12_ahead_213 : decode cX12_ahead 213 = .ok (.ifCond .eq 18, 3) := by decide +kernel
theorem dX12_ahead_216 : decode cX12_ahead 216 = .ok (.aload_n 0, 1) := by decide +kernel
theorem dX12_ahead_217 : decode cX12_ahead 217 = .ok (.getfield 7, 3) := by decide +kernel
theorem dX12_ahead_220 : decode cX12_ahead 220 = .ok (.iload_n 1, 1) := by decide +kernel
theorem dX12_ahead_221 : decode cX12_ahead 221 = .ok (.iaload, 1) := by decide +kernel
theorem dX12_ahead_222 : decode cX12_ahead 222 = .ok (.invokestatic 241, 3) := by decide +kernel
theorem dX12_ahead_225 : decode cX12_ahead 225 = .ok (.ifCond .eq 109, 3) := by decide +kernel
theorem dX12_ahead_228 : decode cX12_ahead 228 = .ok (.goto 15, 3) := by decide +kernel
theorem dX12_ahead_231 : decode cX12_ahead 231 = .ok (.aload_n 0, 1) := by decide +kernel
theorem dX12_ahead_232 : decode cX12_ahead 232 = .ok (.getfield 7, 3) := by decide +kernel
theorem dX12_ahead_235 : decode cX12_ahead 235 = .ok (.iload_n 1, 1) := by decide +kernel
theorem dX12_ahead_236 : decode cX12_ahead 236 = .ok (.iaload, 1) := by decide +kernel
theorem dX12_ahead_237 : decode cX12_ahead 237 = .ok (.invokestatic 245, 3) := by decide +kernel
theorem dX12_ahead_240 : decode cX12_ahead 240 = .ok (.ifCond .eq 94, 3) := by decide +kernel
theorem dX12_ahead_243 : decode cX12_ahead 243 = .ok (.iload 5, 2) := by decide +kernel
theorem dX12_ahead_245 : decode cX12_ahead 245 = .ok (.iload 4, 2) := by decide +kernel
theorem dX12_ahead_247 : decode cX12_ahead 247 = .ok (.if_icmp .ne 16, 3) := by decide +kernel
theorem dX12_ahead_250 : decode cX12_ahead 250 = .ok (.aload_n 0, 1) := by decide +kernel
theorem dX12_ahead_251 : decode cX12_ahead 251 = .ok (.getfield 48, 3) := by decide +kernel
theorem dX12_ahead_254 : decode cX12_ahead 254 = .ok (.iconst (-1), 1) := by decide +kernel
theorem dX12_ahead_255 : decode cX12_ahead 255 = .ok (.if_icmp .ne 8, 3) := by decide +kernel
theorem dX12_ahead_258 : decode cX12_ahead 258 = .ok (.aload_n 0, 1) := by decide +kernel
theorem dX12_ahead_259 : decode cX12_ahead 259 = .ok (.iload_n 1, 1) := by decide +kernel
theorem dX12_ahead_260 : decode cX12_ahead 260 = .ok (.putfield 48, 3) := by decide +kernel
theorem dX12_ahead_263 : decode cX12_ahead 263 = .ok (.iload 5, 2) := by decide +kernel
theorem dX12_ahead_265 : decode cX12_ahead 265 = .ok (.bipush 8, 2) := by decide +kernel
theorem dX12_ahead_267 : decode cX12_ahead 267 = .ok (.if_icmp .ge 26, 3) := by decide +kernel
theorem dX12_ahead_270 : decode cX12_ahead 270 = .ok (.iload_n 2, 1) := by decide +kernel
theorem dX12_ahead_271 : decode cX12_ahead 271 = .ok (.ifCond .eq 22, 3) := by decide +kernel
theorem dX12_ahead_274 : decode cX12_ahead 274 = .ok (.aload_n 0, 1) := by decide +kernel
theorem dX12_ahead_275 : decode cX12_ahead 275 = .ok (.aload_n 0, 1) := by decide +kernel
theorem dX12_ahead_276 : decode cX12_ahead 276 = .ok (.getfield 32, 3) := by decide +kernel
theorem dX12_ahead_279 : decode cX12_ahead 279 = .ok (.bipush 8, 2) := by decide +kernel
theorem dX12_ahead_281 : decode cX12_ahead 281 = .ok (.lshl, 1) := by decide +kernel
theorem dX12_ahead_282 : decode cX12_ahead 282 = .ok (.aload_n 0, 1) := by decide +kernel
theorem dX12_ahead_283 : decode cX12_ahead 283 = .ok (.getfield 7, 3) := by decide +kernel
theorem dX12_ahead_286 : decode cX12_ahead 286 = .ok (.iload_n 1, 1) := by decide +kernel
theorem dX12_ahead_287 : decode cX12_ahead 287 = .ok (.iaload, 1) := by decide +kernel
theorem dX12_ahead_288 : decode cX12_ahead 288 = .ok (.i2l, 1) := by decide +kernel
theorem dX12_ahead_289 : decode cX12_ahead 289 = .ok (.lor, 1) := by decide +kernel
theorem dX12_ahead_290 : decode cX12_ahead 290 = .ok (.putfield 32, 3) := by decide +kernel
theorem dX12_ahead_293 : decode cX12_ahead 293 = .ok (.iload 5, 2) := by decide +kernel
theorem dX12_ahead_295 : decode cX12_ahead 295 = .ok (.iload 4, 2) := by decide +kernel
theorem dX12_ahead_297 : decode cX12_ahead 297 = .ok (.if_icmp .ge 28, 3) := by decide +kernel
theorem dX12_ahead_300 : decode cX12_ahead 300 = .ok (.iload_n 3, 1) := by decide +kernel
theorem dX12_ahead_301 : decode cX12_ahead 301 = .ok (.ifCond .eq 24, 3) := by decide +kernel
theorem dX12_ahead_304 : decode cX12_ahead 304 = .ok (.aload_n 0, 1) := by decide +kernel
theorem dX12_ahead_305 : decode cX12_ahead 305 = .ok (.bipush 10, 2) := by decide +kernel
theorem dX12_ahead_307 : decode cX12_ahead 307 = .ok (.aload_n 0, 1) := by decide +kernel
theorem dX12_ahead_308 : decode cX12_ahead 308 = .ok (.getfield 29, 3) := by decide +kernel
theorem dX12_ahead_311 : decode cX12_ahead 311 = .ok (.imul, 1) := by decide +kernel
theorem dX12_ahead_312 : decode cX12_ahead 312 = .ok (.aload_n 0, 1) := by decide +kernel
theorem dX12_ahead_313 : decode cX12_ahead 313 = .ok (.getfield 7, 3) := by decide +kernel
theorem dX12_ahead_316 : decode cX12_ahead 316 = .ok (.iload_n 1, 1) := by decide +kernel
theorem dX12_ahead_317 : decode cX12_ahead 317 = .ok (.iaload, 1) := by decide +kernel
theorem dX12_ahead_318 : decode cX12_ahead 318 = .ok (.iadd, 1) := by decide +kernel
theorem dX12_ahead_319 : decode cX12_ahead 319 = .ok (.bipush 48, 2) := by decide +kernel
theorem dX12_ahead_321 : decode cX12_ahead 321 = .ok (.isub, 1) := by decide +kernel
theorem dX12_ahead_322 : decode cX12_ahead 322 = .ok (.putfield 29, 3) := by decide +kernel
theorem dX12_ahead_325 : decode cX12_ahead 325 = .ok (.iinc 5 1, 3) := by decide +kernel
theorem dX12_ahead_328 : decode cX12_ahead 328 = .ok (.iinc 1 1, 3) := by decide +kernel
theorem dX12_ahead_331 : decode cX12_ahead 331 = .ok (.goto (-127), 3) := by decide +kernel
theorem dX12_ahead_334 : decode cX12_ahead 334 = .ok (.aload_n 0, 1) := by decide +kernel
theorem dX12_ahead_335 : decode cX12_ahead 335 = .ok (.iload_n 1, 1) := by decide +kernel
theorem dX12_ahead_336 : decode cX12_ahead 336 = .ok (.putfield 26, 3) := by decide +kernel
theorem dX12_ahead_339 : decode cX12_ahead 339 = .ok (.iload_n 2, 1) := by decide +kernel
theorem dX12_ahead_340 : decode cX12_ahead 340 = .ok (.ifCond .eq 40, 3) := by decide +kernel
theorem dX12_ahead_343 : decode cX12_ahead 343 = .ok (.iload 5, 2) := by decide +kernel
theorem dX12_ahead_345 : decode cX12_ahead 345 = .ok (.bipush 8, 2) := by decide +kernel
theorem dX12_ahead_347 : decode cX12_ahead 347 = .ok (.if_icmp .gt 33, 3) := by decide +kernel
theorem dX12_ahead_350 : decode cX12_ahead 350 = .ok (.aload_n 0, 1) := by decide +kernel
theorem dX12_ahead_351 : decode cX12_ahead 351 = .ok (.getfield 48, 3) := by decide +kernel
theorem dX12_ahead_354 : decode cX12_ahead 354 = .ok (.aload_n 0, 1) := by decide +kernel
theorem dX12_ahead_355 : decode cX12_ahead 355 = .ok (.getfield 23, 3) := by decide +kernel
theorem dX12_ahead_358 : decode cX12_ahead 358 = .ok (.iload 4, 2) := by decide +kernel
theorem dX12_ahead_360 : decode cX12_ahead 360 = .ok (.iadd, 1) := by decide +kernel
theorem dX12_ahead_361 : decode cX12_ahead 361 = .ok (.if_icmp .ne 19, 3) := by decide +kernel
theorem dX12_ahead_364 : decode cX12_ahead 364 = .ok (.aload_n 0, 1) := by decide +kernel
theorem dX12_ahead_365 : decode cX12_ahead 365 = .ok (.aload_n 0, 1) := by decide +kernel
theorem dX12_ahead_366 : decode cX12_ahead 366 = .ok (.getfield 32, 3) := by decide +kernel
theorem dX12_ahead_369 : decode cX12_ahead 369 = .ok (.invokevirtual 248, 3) := by decide +kernel
theorem dX12_ahead_372 : decode cX12_ahead 372 = .ok (.ifCond .eq 8, 3) := by decide +kernel
theorem dX12_ahead_375 : decode cX12_ahead 375 = .ok (.aload_n 0, 1) := by decide +kernel
theorem dX12_ahead_376 : decode cX12_ahead 376 = .ok (.iconst (-1), 1) := by decide +kernel
theorem dX12_ahead_377 : decode cX12_ahead 377 = .ok (.putfield 48, 3) := by decide +kernel
theorem dX12_ahead_380 : decode cX12_ahead 380 = .ok (.return_, 1) := by decide +kernel
theorem dX12_isSign_0 : decode cX12_isSign 0 = .ok (.aload_n 0, 1) := by decide +kernel
theorem dX12_isSign_1 : decode cX12_isSign 1 = .ok (.getfield 20, 3) := by decide +kernel
theorem dX12_isSign_4 : decode cX12_isSign 4 = .ok (.iconst 3, 1) := by decide +kernel
theorem dX12_isSign_5 : decode cX12_isSign 5 = .ok (.if_icmp .ne 15, 3) := by decide +kernel
theorem dX12_isSign_8 : decode cX12_isSign 8 = .ok (.aload_n 0, 1) := by decide +kernel
theorem dX12_isSign_9 : decode cX12_isSign 9 = .ok (.getfield 29, 3) := by decide +kernel
theorem dX12_isSign_12 : decode cX12_isSign 12 = .ok (.iload_n 1, 1) := by decide +kernel
theorem dX12_isSign_13 : decode cX12_isSign 13 = .ok (.if_icmp .ne 7, 3) := by decide +kernel
theorem dX12_isSign_16 : decode cX12_isSign 16 = .ok (.iconst 1, 1) := by decide +kernel
theorem dX12_isSign_17 : decode cX12_isSign 17 = .ok (.goto 4, 3) := by decide +kernel
theorem dX12_isSign_20 : decode cX12_isSign 20 = .ok (.iconst 0, 1) := by decide +kernel
theorem dX12_isSign_21 : decode cX12_isSign 21 = .ok (.ireturn, 1) := by decide +kernel
theorem dX12_isWord_0 : decode cX12_isWord 0 = .ok (.aload_n 0, 1) := by decide +kernel
theorem dX12_isWord_1 : decode cX12_isWord 1 = .ok (.getfield 20, 3) := by decide +kernel
theorem dX12_isWord_4 : decode cX12_isWord 4 = .ok (.iconst 1, 1) := by decide +kernel
theorem dX12_isWord_5 : decode cX12_isWord 5 = .ok (.if_icmp .ne 16, 3) := by decide +kernel
theorem dX12_isWord_8 : decode cX12_isWord 8 = .ok (.aload_n 0, 1) := by decide +kernel
theorem dX12_isWord_9 : decode cX12_isWord 9 = .ok (.getfield 32, 3) := by decide +kernel
theorem dX12_isWord_12 : decode cX12_isWord 12 = .ok (.lload_n 1, 1) := by decide +kernel
theorem dX12_isWord_13 : decode cX12_isWord 13 = .ok (.lcmp, 1) := by decide +kernel
theorem dX12_isWord_14 : decode cX12_isWord 14 = .ok (.ifCond .ne 7, 3) := by decide +kernel
theorem dX12_isWord_17 : decode cX12_isWord 17 = .ok (.iconst 1, 1) := by decide +kernel
theorem dX12_isWord_18 : decode cX12_isWord 18 = .ok (.goto 4, 3) := by decide +kernel
theorem dX12_isWord_21 : decode cX12_isWord 21 = .ok (.iconst 0, 1) := by decide +kernel
theorem dX12_isWord_22 : decode cX12_isWord 22 = .ok (.ireturn, 1) := by decide +kernel
theorem dX12_must_0 : decode cX12_must 0 = .ok (.aload_n 0, 1) := by decide +kernel
theorem dX12_must_1 : decode cX12_must 1 = .ok (.invokevirtual 252, 3) := by decide +kernel
theorem dX12_must_4 : decode cX12_must 4 = .ok (.aload_n 0, 1) := by decide +kernel
theorem dX12_must_5 : decode cX12_must 5 = .ok (.iload_n 1, 1) := by decide +kernel
theorem dX12_must_6 : decode cX12_must 6 = .ok (.invokevirtual 255, 3) := by decide +kernel
theorem dX12_must_9 : decode cX12_must 9 = .ok (.ifCond .ne 12, 3) := by decide +kernel
theorem dX12_must_12 : decode cX12_must 12 = .ok (.aload_n 0, 1) := by decide +kernel
theorem dX12_must_13 : decode cX12_must 13 = .ok (.iconst 1, 1) := by decide +kernel
theorem dX12_must_14 : decode cX12_must 14 = .ok (.aload_n 0, 1) := by decide +kernel
theorem dX12_must_15 : decode cX12_must 15 = .ok (.getfield 23, 3) := by decide +kernel
theorem dX12_must_18 : decode cX12_must 18 = .ok (.invokevirtual 237, 3) := by decide +kernel
theorem dX12_must_21 : decode cX12_must 21 = .ok (.aload_n 0, 1) := by decide +kernel
theorem dX12_must_22 : decode cX12_must 22 = .ok (.getfield 36, 3) := by decide +kernel
theorem dX12_must_25 : decode cX12_must 25 = .ok (.ifCond .ne 7, 3) := by decide +kernel
theorem dX12_must_28 : decode cX12_must 28 = .ok (.aload_n 0, 1) := by decide +kernel
theorem dX12_must_29 : decode cX12_must 29 = .ok (.invokevirtual 258, 3) := by decide +kernel
theorem dX12_must_32 : decode cX12_must 32 = .ok (.return_, 1) := by decide +kernel
theorem dX12_isOwn_0 : decode cX12_isOwn 0 = .ok (.lload_n 1, 1) := by decide +kernel
theorem dX12_isOwn_1 : decode cX12_isOwn 1 = .ok (.ldc2_w 261, 3) := by decide +kernel
theorem dX12_isOwn_4 : decode cX12_isOwn 4 = .ok (.lcmp, 1) := by decide +kernel
theorem dX12_isOwn_5 : decode cX12_isOwn 5 = .ok (.ifCond .eq 35, 3) := by decide +kernel
theorem dX12_isOwn_8 : decode cX12_isOwn 8 = .ok (.lload_n 1, 1) := by decide +kernel
theorem dX12_isOwn_9 : decode cX12_isOwn 9 = .ok (.ldc2_w 263, 3) := by decide +kernel
theorem dX12_isOwn_12 : decode cX12_isOwn 12 = .ok (.lcmp, 1) := by decide +kernel
theorem dX12_isOwn_13 : decode cX12_isOwn 13 = .ok (.ifCond .eq 27, 3) := by decide +kernel
theorem dX12_isOwn_16 : decode cX12_isOwn 16 = .ok (.lload_n 1, 1) := by decide +kernel
theorem dX12_isOwn_17 : decode cX12_isOwn 17 = .ok (.ldc2_w 265, 3) := by decide +kernel
theorem dX12_isOwn_20 : decode cX12_isOwn 20 = .ok (.lcmp, 1) := by decide +kernel
theorem dX12_isOwn_21 : decode cX12_isOwn 21 = .ok (.ifCond .eq 19, 3) := by decide +kernel
theorem dX12_isOwn_24 : decode cX12_isOwn 24 = .ok (.lload_n 1, 1) := by decide +kernel
theorem dX12_isOwn_25 : decode cX12_isOwn 25 = .ok (.ldc2_w 267, 3) := by decide +kernel
theorem dX12_isOwn_28 : decode cX12_isOwn 28 = .ok (.lcmp, 1) := by decide +kernel
theorem dX12_isOwn_29 : decode cX12_isOwn 29 = .ok (.ifCond .eq 11, 3) := by decide +kernel
theorem dX12_isOwn_32 : decode cX12_isOwn 32 = .ok (.lload_n 1, 1) := by decide +kernel
theorem dX12_isOwn_33 : decode cX12_isOwn 33 = .ok (.ldc2_w 269, 3) := by decide +kernel
theorem dX12_isOwn_36 : decode cX12_isOwn 36 = .ok (.lcmp, 1) := by decide +kernel
theorem dX12_isOwn_37 : decode cX12_isOwn 37 = .ok (.ifCond .ne 5, 3) := by decide +kernel
theorem dX12_isOwn_40 : decode cX12_isOwn 40 = .ok (.iconst 1, 1) := by decide +kernel
theorem dX12_isOwn_41 : decode cX12_isOwn 41 = .ok (.ireturn, 1) := by decide +kernel
theorem dX12_isOwn_42 : decode cX12_isOwn 42 = .ok (.lload_n 1, 1) := by decide +kernel
theorem dX12_isOwn_43 : decode cX12_isOwn 43 = .ok (.ldc2_w 271, 3) := by decide +kernel
theorem dX12_isOwn_46 : decode cX12_isOwn 46 = .ok (.lcmp, 1) := by decide +kernel
theorem dX12_isOwn_47 : decode cX12_isOwn 47 = .ok (.ifCond .eq 35, 3) := by decide +kernel
theorem dX12_isOwn_50 : decode cX12_isOwn 50 = .ok (.lload_n 1, 1) := by decide +kernel
theorem dX12_isOwn_51 : decode cX12_isOwn 51 = .ok (.ldc2_w 273, 3) := by decide +kernel
theorem dX12_isOwn_54 : decode cX12_isOwn 54 = .ok (.lcmp, 1) := by decide +kernel
theorem dX12_isOwn_55 : decode cX12_isOwn 55 = .ok (.ifCond .eq 27, 3) := by decide +kernel
theorem dX12_isOwn_58 : decode cX12_isOwn 58 = .ok (.lload_n 1, 1) := by decide +kernel
theorem dX12_isOwn_59 : decode cX12_isOwn 59 = .ok (.ldc2_w 275, 3) := by decide +kernel
theorem dX12_isOwn_62 : decode cX12_isOwn 62 = .ok (.lcmp, 1) := by decide +kernel
theorem dX12_isOwn_63 : decode cX12_isOwn 63 = .ok (.ifCond .eq 19, 3) := by decide +kernel
theorem dX12_isOwn_66 : decode cX12_isOwn 66 = .ok (.lload_n 1, 1) := by decide +kernel
theorem dX12_isOwn_67 : decode cX12_isOwn 67 = .ok (.ldc2_w 277, 3) := by decide +kernel
theorem dX12_isOwn_70 : decode cX12_isOwn 70 = .ok (.lcmp, 1) := by decide +kernel
theorem dX12_isOwn_71 : decode cX12_isOwn 71 = .ok (.ifCond .eq 11, 3) := by decide +kernel
theorem dX12_isOwn_74 : decode cX12_isOwn 74 = .ok (.lload_n 1, 1) := by decide +kernel
theorem dX12_isOwn_75 : decode cX12_isOwn 75 = .ok (.ldc2_w 279, 3) := by decide +kernel
theorem dX12_isOwn_78 : decode cX12_isOwn 78 = .ok (.lcmp, 1) := by decide +kernel
theorem dX12_isOwn_79 : decode cX12_isOwn 79 = .ok (.ifCond .ne 5, 3) := by decide +kernel
theorem dX12_isOwn_82 : decode cX12_isOwn 82 = .ok (.iconst 1, 1) := by decide +kernel
theorem dX12_isOwn_83 : decode cX12_isOwn 83 = .ok (.ireturn, 1) := by decide +kernel
theorem dX12_isOwn_84 : decode cX12_isOwn 84 = .ok (.lload_n 1, 1) := by decide +kernel
theorem dX12_isOwn_85 : decode cX12_isOwn 85 = .ok (.ldc2_w 281, 3) := by decide +kernel
theorem dX12_isOwn_88 : decode cX12_isOwn 88 = .ok (.lcmp, 1) := by decide +kernel
theorem dX12_isOwn_89 : decode cX12_isOwn 89 = .ok (.ifCond .eq 35, 3) := by decide +kernel
theorem dX12_isOwn_92 : decode cX12_isOwn 92 = .ok (.lload_n 1, 1) := by decide +kernel
theorem dX12_isOwn_93 : decode cX12_isOwn 93 = .ok (.ldc2_w 283, 3) := by decide +kernel
theorem dX12_isOwn_96 : decode cX12_isOwn 96 = .ok (.lcmp, 1) := by decide +kernel
theorem dX12_isOwn_97 : decode cX12_isOwn 97 = .ok (.ifCond .eq 27, 3) := by decide +kernel
theorem dX12_isOwn_100 : decode cX12_isOwn 100 = .ok (.lload_n 1, 1) := by decide +kernel
theorem dX12_isOwn_101 : decode cX12_isOwn 101 = .ok (.ldc2_w 285, 3) := by decide +kernel
theorem dX12_isOwn_104 : decode cX12_isOwn 104 = .ok (.lcmp, 1) := by decide +kernel
theorem dX12_isOwn_105 : decode cX12_isOwn 105 = .ok (.ifCond .eq 19, 3) := by decide +kernel
theorem dX12_isOwn_108 : decode cX12_isOwn 108 = .ok (.lload_n 1, 1) := by decide +kernel
theorem dX12_isOwn_109 : decode cX12_isOwn 109 = .ok (.ldc2_w 287, 3) := by decide +kernel
theorem dX12_isOwn_112 : decode cX12_isOwn 112 = .ok (.lcmp, 1) := by decide +kernel
theorem dX12_isOwn_113 : decode cX12_isOwn 113 = .ok (.ifCond .eq 11, 3) := by decide +kernel
theorem dX12_isOwn_116 : decode cX12_isOwn 116 = .ok (.lload_n 1, 1) := by decide +kernel
theorem dX12_isOwn_117 : decode cX12_isOwn 117 = .ok (.ldc2_w 289, 3) := by decide +kernel
theorem dX12_isOwn_120 : decode cX12_isOwn 120 = .ok (.lcmp, 1) := by decide +kernel
theorem dX12_isOwn_121 : decode cX12_isOwn 121 = .ok (.ifCond .ne 5, 3) := by decide +kernel
theorem dX12_isOwn_124 : decode cX12_isOwn 124 = .ok (.iconst 1, 1) := by decide +kernel
theorem dX12_isOwn_125 : decode cX12_isOwn 125 = .ok (.ireturn, 1) := by decide +kernel
theorem dX12_isOwn_126 : decode cX12_isOwn 126 = .ok (.lload_n 1, 1) := by decide +kernel
theorem dX12_isOwn_127 : decode cX12_isOwn 127 = .ok (.ldc2_w 291, 3) := by decide +kernel
theorem dX12_isOwn_130 : decode cX12_isOwn 130 = .ok (.lcmp, 1) := by decide +kernel
theorem dX12_isOwn_131 : decode cX12_isOwn 131 = .ok (.ifCond .eq 35, 3) := by decide +kernel
theorem dX12_isOwn_134 : decode cX12_isOwn 134 = .ok (.lload_n 1, 1) := by decide +kernel
theorem dX12_isOwn_135 : decode cX12_isOwn 135 = .ok (.ldc2_w 293, 3) := by decide +kernel
theorem dX12_isOwn_138 : decode cX12_isOwn 138 = .ok (.lcmp, 1) := by decide +kernel
theorem dX12_isOwn_139 : decode cX12_isOwn 139 = .ok (.ifCond .eq 27, 3) := by decide +kernel
theorem dX12_isOwn_142 : decode cX12_isOwn 142 = .ok (.lload_n 1, 1) := by decide +kernel
theorem dX12_isOwn_143 : decode cX12_isOwn 143 = .ok (.ldc2_w 295, 3) := by decide +kernel
theorem dX12_isOwn_146 : decode cX12_isOwn 146 = .ok (.lcmp, 1) := by decide +kernel
theorem dX12_isOwn_147 : decode cX12_isOwn 147 = .ok (.ifCond .eq 19, 3) := by decide +kernel
theorem dX12_isOwn_150 : decode cX12_isOwn 150 = .ok (.lload_n 1, 1) := by decide +kernel
theorem dX12_isOwn_151 : decode cX12_isOwn 151 = .ok (.ldc2_w 297, 3) := by decide +kernel
theorem dX12_isOwn_154 : decode cX12_isOwn 154 = .ok (.lcmp, 1) := by decide +kernel
theorem dX12_isOwn_155 : decode cX12_isOwn 155 = .ok (.ifCond .eq 11, 3) := by decide +kernel
theorem dX12_isOwn_158 : decode cX12_isOwn 158 = .ok (.lload_n 1, 1) := by decide +kernel
theorem dX12_isOwn_159 : decode cX12_isOwn 159 = .ok (.ldc2_w 299, 3) := by decide +kernel
theorem dX12_isOwn_162 : decode cX12_isOwn 162 = .ok (.lcmp, 1) := by decide +kernel
theorem dX12_isOwn_163 : decode cX12_isOwn 163 = .ok (.ifCond .ne 5, 3) := by decide +kernel
theorem dX12_isOwn_166 : decode cX12_isOwn 166 = .ok (.iconst 1, 1) := by decide +kernel
theorem dX12_isOwn_167 : decode cX12_isOwn 167 = .ok (.ireturn, 1) := by decide +kernel
theorem dX12_isOwn_168 : decode cX12_isOwn 168 = .ok (.lload_n 1, 1) := by decide +kernel
theorem dX12_isOwn_169 : decode cX12_isOwn 169 = .ok (.ldc2_w 301, 3) := by decide +kernel
theorem dX12_isOwn_172 : decode cX12_isOwn 172 = .ok (.lcmp, 1) := by decide +kernel
theorem dX12_isOwn_173 : decode cX12_isOwn 173 = .ok (.ifCond .eq 35, 3) := by decide +kernel
theorem dX12_isOwn_176 : decode cX12_isOwn 176 = .ok (.lload_n 1, 1) := by decide +kernel
theorem dX12_isOwn_177 : decode cX12_isOwn 177 = .ok (.ldc2_w 303, 3) := by decide +kernel
theorem dX12_isOwn_180 : decode cX12_isOwn 180 = .ok (.lcmp, 1) := by decide +kernel
theorem dX12_isOwn_181 : decode cX12_isOwn 181 = .ok (.ifCond .eq 27, 3) := by decide +kernel
theorem dX12_isOwn_184 : decode cX12_isOwn 184 = .ok (.lload_n 1, 1) := by decide +kernel
theorem dX12_isOwn_185 : decode cX12_isOwn 185 = .ok (.ldc2_w 305, 3) := by decide +kernel
theorem dX12_isOwn_188 : decode cX12_isOwn 188 = .ok (.lcmp, 1) := by decide +kernel
theorem dX12_isOwn_189 : decode cX12_isOwn 189 = .ok (.ifCond .eq 19, 3) := by decide +kernel
theorem dX12_isOwn_192 : decode cX12_isOwn 192 = .ok (.lload_n 1, 1) := by decide +kernel
theorem dX12_isOwn_193 : decode cX12_isOwn 193 = .ok (.ldc2_w 307, 3) := by decide +kernel
theorem dX12_isOwn_196 : decode cX12_isOwn 196 = .ok (.lcmp, 1) := by decide +kernel
theorem dX12_isOwn_197 : decode cX12_isOwn 197 = .ok (.ifCond .eq 11, 3) := by decide +kernel
theorem dX12_isOwn_200 : decode cX12_isOwn 200 = .ok (.lload_n 1, 1) := by decide +kernel
theorem dX12_isOwn_201 : decode cX12_isOwn 201 = .ok (.ldc2_w 309, 3) := by decide +kernel
theorem dX12_isOwn_204 : decode cX12_isOwn 204 = .ok (.lcmp, 1) := by decide +kernel
theorem dX12_isOwn_205 : decode cX12_isOwn 205 = .ok (.ifCond .ne 5, 3) := by decide +kernel
theorem dX12_isOwn_208 : decode cX12_isOwn 208 = .ok (.iconst 1, 1) := by decide +kernel
theorem dX12_isOwn_209 : decode cX12_isOwn 209 = .ok (.ireturn, 1) := by decide +kernel
theorem dX12_isOwn_210 : decode cX12_isOwn 210 = .ok (.iconst 0, 1) := by decide +kernel
theorem dX12_isOwn_211 : decode cX12_isOwn 211 = .ok (.ireturn, 1) := by decide +kernel
theorem dX12_manyOf_0 : decode cX12_manyOf 0 = .ok (.iload_n 2, 1) := by decide +kernel
theorem dX12_manyOf_1 : decode cX12_manyOf 1 = .ok (.ifCond .ne 12, 3) := by decide +kernel
theorem dX12_manyOf_4 : decode cX12_manyOf 4 = .ok (.aload_n 0, 1) := by decide +kernel
theorem dX12_manyOf_5 : decode cX12_manyOf 5 = .ok (.getfield 54, 3) := by decide +kernel
theorem dX12_manyOf_8 : decode cX12_manyOf 8 = .ok (.iload_n 1, 1) := by decide +kernel
theorem dX12_manyOf_9 : decode cX12_manyOf 9 = .ok (.iaload, 1) := by decide +kernel
theorem dX12_manyOf_10 : decode cX12_manyOf 10 = .ok (.goto 23, 3) := by decide +kernel
theorem dX12_manyOf_13 : decode cX12_manyOf 13 = .ok (.iload_n 2, 1) := by decide +kernel
theorem dX12_manyOf_14 : decode cX12_manyOf 14 = .ok (.iconst 1, 1) := by decide +kernel
theorem dX12_manyOf_15 : decode cX12_manyOf 15 = .ok (.if_icmp .ne 12, 3) := by decide +kernel
theorem dX12_manyOf_18 : decode cX12_manyOf 18 = .ok (.aload_n 0, 1) := by decide +kernel
theorem dX12_manyOf_19 : decode cX12_manyOf 19 = .ok (.getfield 63, 3) := by decide +kernel
theorem dX12_manyOf_22 : decode cX12_manyOf 22 = .ok (.iload_n 1, 1) := by decide +kernel
theorem dX12_manyOf_23 : decode cX12_manyOf 23 = .ok (.iaload, 1) := by decide +kernel
theorem dX12_manyOf_24 : decode cX12_manyOf 24 = .ok (.goto 9, 3) := by decide +kernel
theorem dX12_manyOf_27 : decode cX12_manyOf 27 = .ok (.aload_n 0, 1) := by decide +kernel
theorem dX12_manyOf_28 : decode cX12_manyOf 28 = .ok (.getfield 66, 3) := by decide +kernel
theorem dX12_manyOf_31 : decode cX12_manyOf 31 = .ok (.iload_n 1, 1) := by decide +kernel
theorem dX12_manyOf_32 : decode cX12_manyOf 32 = .ok (.iaload, 1) := by decide +kernel
theorem dX12_manyOf_33 : decode cX12_manyOf 33 = .ok (.ireturn, 1) := by decide +kernel
theorem dX12_nameOf_0 : decode cX12_nameOf 0 = .ok (.iload_n 2, 1) := by decide +kernel
theorem dX12_nameOf_1 : decode cX12_nameOf 1 = .ok (.ifCond .ne 17, 3) := by decide +kernel
theorem dX12_nameOf_4 : decode cX12_nameOf 4 = .ok (.aload_n 0, 1) := by decide +kernel
theorem dX12_nameOf_5 : decode cX12_nameOf 5 = .ok (.getfield 99, 3) := by decide +kernel
theorem dX12_nameOf_8 : decode cX12_nameOf 8 = .ok (.bipush 8, 2) := by decide +kernel
theorem dX12_nameOf_10 : decode cX12_nameOf 10 = .ok (.iload_n 1, 1) := by decide +kernel
theorem dX12_nameOf_11 : decode cX12_nameOf 11 = .ok (.imul, 1) := by decide +kernel
theorem dX12_nameOf_12 : decode cX12_nameOf 12 = .ok (.iload_n 3, 1) := by decide +kernel
theorem dX12_nameOf_13 : decode cX12_nameOf 13 = .ok (.iadd, 1) := by decide +kernel
theorem dX12_nameOf_14 : decode cX12_nameOf 14 = .ok (.laload, 1) := by decide +kernel
theorem dX12_nameOf_15 : decode cX12_nameOf 15 = .ok (.goto 33, 3) := by decide +kernel
theorem dX12_nameOf_18 : decode cX12_nameOf 18 = .ok (.iload_n 2, 1) := by decide +kernel
theorem dX12_nameOf_19 : decode cX12_nameOf 19 = .ok (.iconst 1, 1) := by decide +kernel
theorem dX12_nameOf_20 : decode cX12_nameOf 20 = .ok (.if_icmp .ne 17, 3) := by decide +kernel
theorem dX12_nameOf_23 : decode cX12_nameOf 23 = .ok (.aload_n 0, 1) := by decide +kernel
theorem dX12_nameOf_24 : decode cX12_nameOf 24 = .ok (.getfield 103, 3) := by decide +kernel
theorem dX12_nameOf_27 : decode cX12_nameOf 27 = .ok (.bipush 6, 2) := by decide +kernel
theorem dX12_nameOf_29 : decode cX12_nameOf 29 = .ok (.iload_n 1, 1) := by decide +kernel
theorem dX12_nameOf_30 : decode cX12_nameOf 30 = .ok (.imul, 1) := by decide +kernel
theorem dX12_nameOf_31 : decode cX12_nameOf 31 = .ok (.iload_n 3, 1) := by decide +kernel
theorem dX12_nameOf_32 : decode cX12_nameOf 32 = .ok (.iadd, 1) := by decide +kernel
theorem dX12_nameOf_33 : decode cX12_nameOf 33 = .ok (.laload, 1) := by decide +kernel
theorem dX12_nameOf_34 : decode cX12_nameOf 34 = .ok (.goto 14, 3) := by decide +kernel
theorem dX12_nameOf_37 : decode cX12_nameOf 37 = .ok (.aload_n 0, 1) := by decide +kernel
theorem dX12_nameOf_38 : decode cX12_nameOf 38 = .ok (.getfield 106, 3) := by decide +kernel
theorem dX12_nameOf_41 : decode cX12_nameOf 41 = .ok (.bipush 8, 2) := by decide +kernel
theorem dX12_nameOf_43 : decode cX12_nameOf 43 = .ok (.iload_n 1, 1) := by decide +kernel
theorem dX12_nameOf_44 : decode cX12_nameOf 44 = .ok (.imul, 1) := by decide +kernel
theorem dX12_nameOf_45 : decode cX12_nameOf 45 = .ok (.iload_n 3, 1) := by decide +kernel
theorem dX12_nameOf_46 : decode cX12_nameOf 46 = .ok (.iadd, 1) := by decide +kernel
theorem dX12_nameOf_47 : decode cX12_nameOf 47 = .ok (.laload, 1) := by decide +kernel
theorem dX12_nameOf_48 : decode cX12_nameOf 48 = .ok (.lreturn, 1) := by decide +kernel
theorem dX12_named_0 : decode cX12_named 0 = .ok (.iconst 0, 1) := by decide +kernel
theorem dX12_named_1 : decode cX12_named 1 = .ok (.istore 4, 2) := by decide +kernel
theorem dX12_named_3 : decode cX12_named 3 = .ok (.iload 4, 2) := by decide +kernel
theorem dX12_named_5 : decode cX12_named 5 = .ok (.aload_n 0, 1) := by decide +kernel
theorem dX12_named_6 : decode cX12_named 6 = .ok (.aload_n 0, 1) := by decide +kernel
theorem dX12_named_7 : decode cX12_named 7 = .ok (.getfield 112, 3) := by decide +kernel
theorem dX12_named_10 : decode cX12_named 10 = .ok (.iload_n 1, 1) := by decide +kernel
theorem dX12_named_11 : decode cX12_named 11 = .ok (.invokevirtual 311, 3) := by decide +kernel
theorem dX12_named_14 : decode cX12_named 14 = .ok (.if_icmp .ge 28, 3) := by decide +kernel
theorem dX12_named_17 : decode cX12_named 17 = .ok (.aload_n 0, 1) := by decide +kernel
theorem dX12_named_18 : decode cX12_named 18 = .ok (.aload_n 0, 1) := by decide +kernel
theorem dX12_named_19 : decode cX12_named 19 = .ok (.getfield 112, 3) := by decide +kernel
theorem dX12_named_22 : decode cX12_named 22 = .ok (.iload_n 1, 1) := by decide +kernel
theorem dX12_named_23 : decode cX12_named 23 = .ok (.iload 4, 2) := by decide +kernel
theorem dX12_named_25 : decode cX12_named 25 = .ok (.invokevirtual 315, 3) := by decide +kernel
theorem dX12_named_28 : decode cX12_named 28 = .ok (.lload_n 2, 1) := by decide +kernel
theorem dX12_named_29 : decode cX12_named 29 = .ok (.lcmp, 1) := by decide +kernel
theorem dX12_named_30 : decode cX12_named 30 = .ok (.ifCond .ne 6, 3) := by decide +kernel
theorem dX12_named_33 : decode cX12_named 33 = .ok (.iload 4, 2) := by decide +kernel
theorem dX12_named_35 : decode cX12_named 35 = .ok (.ireturn, 1) := by decide +kernel
theorem dX12_named_36 : decode cX12_named 36 = .ok (.iinc 4 1, 3) := by decide +kernel
theorem dX12_named_39 : decode cX12_named 39 = .ok (.goto (-36), 3) := by decide +kernel
theorem dX12_named_42 : decode cX12_named 42 = .ok (.iconst (-1), 1) := by decide +kernel
theorem dX12_named_43 : decode cX12_named 43 = .ok (.ireturn, 1) := by decide +kernel
theorem dX12_number_0 : decode cX12_number 0 = .ok (.aload_n 0, 1) := by decide +kernel
theorem dX12_number_1 : decode cX12_number 1 = .ok (.invokevirtual 252, 3) := by decide +kernel
theorem dX12_number_4 : decode cX12_number 4 = .ok (.aload_n 0, 1) := by decide +kernel
theorem dX12_number_5 : decode cX12_number 5 = .ok (.getfield 36, 3) := by decide +kernel
theorem dX12_number_8 : decode cX12_number 8 = .ok (.ifCond .le 5, 3) := by decide +kernel
theorem dX12_number_11 : decode cX12_number 11 = .ok (.iconst 0, 1) := by decide +kernel
theorem dX12_number_12 : decode cX12_number 12 = .ok (.ireturn, 1) := by decide +kernel
theorem dX12_number_13 : decode cX12_number 13 = .ok (.aload_n 0, 1) := by decide +kernel
theorem dX12_number_14 : decode cX12_number 14 = .ok (.getfield 20, 3) := by decide +kernel
theorem dX12_number_17 : decode cX12_number 17 = .ok (.iconst 2, 1) := by decide +kernel
theorem dX12_number_18 : decode cX12_number 18 = .ok (.if_icmp .eq 12, 3) := by decide +kernel
theorem dX12_number_21 : decode cX12_number 21 = .ok (.aload_n 0, 1) := by decide +kernel
theorem dX12_number_22 : decode cX12_number 22 = .ok (.iconst 1, 1) := by decide +kernel
theorem dX12_number_23 : decode cX12_number 23 = .ok (.aload_n 0, 1) := by decide +kernel
theorem dX12_number_24 : decode cX12_number 24 = .ok (.getfield 23, 3) := by decide +kernel
theorem dX12_number_27 : decode cX12_number 27 = .ok (.invokevirtual 237, 3) := by decide +kernel
theorem dX12_number_30 : decode cX12_number 30 = .ok (.aload_n 0, 1) := by decide +kernel
theorem dX12_number_31 : decode cX12_number 31 = .ok (.getfield 36, 3) := by decide +kernel
theorem dX12_number_34 : decode cX12_number 34 = .ok (.ifCond .ne 24, 3) := by decide +kernel
theorem dX12_number_37 : decode cX12_number 37 = .ok (.aload_n 0, 1) := by decide +kernel
theorem dX12_number_38 : decode cX12_number 38 = .ok (.getfield 29, 3) := by decide +kernel
theorem dX12_number_41 : decode cX12_number 41 = .ok (.iload_n 1, 1) := by decide +kernel
theorem dX12_number_42 : decode cX12_number 42 = .ok (.iload_n 2, 1) := by decide +kernel
theorem dX12_number_43 : decode cX12_number 43 = .ok (.invokestatic 319, 3) := by decide +kernel
theorem dX12_number_46 : decode cX12_number 46 = .ok (.ifCond .ne 12, 3) := by decide +kernel
theorem dX12_number_49 : decode cX12_number 49 = .ok (.aload_n 0, 1) := by decide +kernel
theorem dX12_number_50 : decode cX12_number 50 = .ok (.iconst 4, 1) := by decide +kernel
theorem dX12_number_51 : decode cX12_number 51 = .ok (.aload_n 0, 1) := by decide +kernel
theorem dX12_number_52 : decode cX12_number 52 = .ok (.getfield 23, 3) := by decide +kernel
theorem dX12_number_55 : decode cX12_number 55 = .ok (.invokevirtual 237, 3) := by decide +kernel
theorem dX12_number_58 : decode cX12_number 58 = .ok (.aload_n 0, 1) := by decide +kernel
theorem dX12_number_59 : decode cX12_number 59 = .ok (.getfield 29, 3) := by decide +kernel
theorem dX12_number_62 : decode cX12_number 62 = .ok (.istore_n 3, 1) := by decide +kernel
theorem dX12_number_63 : decode cX12_number 63 = .ok (.aload_n 0, 1) := by decide +kernel
theorem dX12_number_64 : decode cX12_number 64 = .ok (.getfield 36, 3) := by decide +kernel
theorem dX12_number_67 : decode cX12_number 67 = .ok (.ifCond .ne 7, 3) := by decide +kernel
theorem dX12_number_70 : decode cX12_number 70 = .ok (.aload_n 0, 1) := by decide +kernel
theorem dX12_number_71 : decode cX12_number 71 = .ok (.invokevirtual 258, 3) := by decide +kernel
theorem dX12_number_74 : decode cX12_number 74 = .ok (.iload_n 3, 1) := by decide +kernel
theorem dX12_number_75 : decode cX12_number 75 = .ok (.ireturn, 1) := by decide +kernel
theorem dX12_add_0 : decode cX12_add 0 = .ok (.aload_n 0, 1) := by decide +kernel
theorem dX12_add_1 : decode cX12_add 1 = .ok (.getfield 93, 3) := by decide +kernel
theorem dX12_add_4 : decode cX12_add 4 = .ok (.sipush 1600, 3) := by decide +kernel
theorem dX12_add_7 : decode cX12_add 7 = .ok (.aload_n 0, 1) := by decide +kernel
theorem dX12_add_8 : decode cX12_add 8 = .ok (.getfield 112, 3) := by decide +kernel
theorem dX12_add_11 : decode cX12_add 11 = .ok (.imul, 1) := by decide +kernel
theorem dX12_add_12 : decode cX12_add 12 = .ok (.aload_n 0, 1) := by decide +kernel
theorem dX12_add_13 : decode cX12_add 13 = .ok (.getfield 109, 3) := by decide +kernel
theorem dX12_add_16 : decode cX12_add 16 = .ok (.iadd, 1) := by decide +kernel
theorem dX12_add_17 : decode cX12_add 17 = .ok (.iload_n 1, 1) := by decide +kernel
theorem dX12_add_18 : decode cX12_add 18 = .ok (.iastore, 1) := by decide +kernel
theorem dX12_add_19 : decode cX12_add 19 = .ok (.aload_n 0, 1) := by decide +kernel
theorem dX12_add_20 : decode cX12_add 20 = .ok (.getfield 96, 3) := by decide +kernel
theorem dX12_add_23 : decode cX12_add 23 = .ok (.sipush 1600, 3) := by decide +kernel
theorem dX12_add_26 : decode cX12_add 26 = .ok (.aload_n 0, 1) := by decide +kernel
theorem dX12_add_27 : decode cX12_add 27 = .ok (.getfield 112, 3) := by decide +kernel
theorem dX12_add_30 : decode cX12_add 30 = .ok (.imul, 1) := by decide +kernel
theorem dX12_add_31 : decode cX12_add 31 = .ok (.aload_n 0, 1) := by decide +kernel
theorem dX12_add_32 : decode cX12_add 32 = .ok (.getfield 109, 3) := by decide +kernel
theorem dX12_add_35 : decode cX12_add 35 = .ok (.iadd, 1) := by decide +kernel
theorem dX12_add_36 : decode cX12_add 36 = .ok (.iload_n 2, 1) := by decide +kernel
theorem dX12_add_37 : decode cX12_add 37 = .ok (.iastore, 1) := by decide +kernel
theorem dX12_add_38 : decode cX12_add 38 = .ok (.aload_n 0, 1) := by decide +kernel
theorem dX12_add_39 : decode cX12_add 39 = .ok (.dup, 1) := by decide +kernel
theorem dX12_add_40 : decode cX12_add 40 = .ok (.getfield 109, 3) := by decide +kernel
theorem dX12_add_43 : decode cX12_add 43 = .ok (.iconst 1, 1) := by decide +kernel
theorem dX12_add_44 : decode cX12_add 44 = .ok (.iadd, 1) := by decide +kernel
theorem dX12_add_45 : decode cX12_add 45 = .ok (.putfield 109, 3) := by decide +kernel
theorem dX12_add_48 : decode cX12_add 48 = .ok (.return_, 1) := by decide +kernel
theorem dX12_rank_0 : decode cX12_rank 0 = .ok (.iload_n 0, 1) := by decide +kernel
theorem dX12_rank_1 : decode cX12_rank 1 = .ok (.bipush 42, 2) := by decide +kernel
theorem dX12_rank_3 : decode cX12_rank 3 = .ok (.if_icmp .ne 7, 3) := by decide +kernel
theorem dX12_rank_6 : decode cX12_rank 6 = .ok (.iconst 1, 1) := by decide +kernel
theorem dX12_rank_7 : decode cX12_rank 7 = .ok (.goto 63, 3) := by decide +kernel
theorem dX12_rank_10 : decode cX12_rank 10 = .ok (.iload_n 0, 1) := by decide +kernel
theorem dX12_rank_11 : decode cX12_rank 11 = .ok (.bipush 41, 2) := by decide +kernel
theorem dX12_rank_13 : decode cX12_rank 13 = .ok (.if_icmp .ne 7, 3) := by decide +kernel
theorem dX12_rank_16 : decode cX12_rank 16 = .ok (.iconst 2, 1) := by decide +kernel
theorem dX12_rank_17 : decode cX12_rank 17 = .ok (.goto 53, 3) := by decide +kernel
theorem dX12_rank_20 : decode cX12_rank 20 = .ok (.iload_n 0, 1) := by decide +kernel
theorem dX12_rank_21 : decode cX12_rank 21 = .ok (.bipush 43, 2) := by decide +kernel
theorem dX12_rank_23 : decode cX12_rank 23 = .ok (.if_icmp .ne 7, 3) := by decide +kernel
theorem dX12_rank_26 : decode cX12_rank 26 = .ok (.iconst 3, 1) := by decide +kernel
theorem dX12_rank_27 : decode cX12_rank 27 = .ok (.goto 43, 3) := by decide +kernel
theorem dX12_rank_30 : decode cX12_rank 30 = .ok (.iload_n 0, 1) := by decide +kernel
theorem dX12_rank_31 : decode cX12_rank 31 = .ok (.bipush 38, 2) := by decide +kernel
theorem dX12_rank_33 : decode cX12_rank 33 = .ok (.if_icmp .eq 15, 3) := by decide +kernel
theorem dX12_rank_36 : decode cX12_rank 36 = .ok (.iload_n 0, 1) := by decide +kernel
theorem dX12_rank_37 : decode cX12_rank 37 = .ok (.bipush 39, 2) := by decide +kernel
theorem dX12_rank_39 : decode cX12_rank 39 = .ok (.if_icmp .eq 9, 3) := by decide +kernel
theorem dX12_rank_42 : decode cX12_rank 42 = .ok (.iload_n 0, 1) := by decide +kernel
theorem dX12_rank_43 : decode cX12_rank 43 = .ok (.bipush 40, 2) := by decide +kernel
theorem dX12_rank_45 : decode cX12_rank 45 = .ok (.if_icmp .ne 7, 3) := by decide +kernel
theorem dX12_rank_48 : decode cX12_rank 48 = .ok (.iconst 4, 1) := by decide +kernel
theorem dX12_rank_49 : decode cX12_rank 49 = .ok (.goto 21, 3) := by decide +kernel
theorem dX12_rank_52 : decode cX12_rank 52 = .ok (.iload_n 0, 1) := by decide +kernel
theorem dX12_rank_53 : decode cX12_rank 53 = .ok (.bipush 31, 2) := by decide +kernel
theorem dX12_rank_55 : decode cX12_rank 55 = .ok (.if_icmp .eq 9, 3) := by decide +kernel
theorem dX12_rank_58 : decode cX12_rank 58 = .ok (.iload_n 0, 1) := by decide +kernel
theorem dX12_rank_59 : decode cX12_rank 59 = .ok (.bipush 32, 2) := by decide +kernel
theorem dX12_rank_61 : decode cX12_rank 61 = .ok (.if_icmp .ne 7, 3) := by decide +kernel
theorem dX12_rank_64 : decode cX12_rank 64 = .ok (.iconst 5, 1) := by decide +kernel
theorem dX12_rank_65 : decode cX12_rank 65 = .ok (.goto 5, 3) := by decide +kernel
theorem dX12_rank_68 : decode cX12_rank 68 = .ok (.bipush 6, 2) := by decide +kernel
theorem dX12_rank_70 : decode cX12_rank 70 = .ok (.ireturn, 1) := by decide +kernel
theorem dX12_joins_0 : decode cX12_joins 0 = .ok (.aload_n 0, 1) := by decide +kernel
theorem dX12_joins_1 : decode cX12_joins 1 = .ok (.getfield 143, 3) := by decide +kernel
theorem dX12_joins_4 : decode cX12_joins 4 = .ok (.aload_n 0, 1) := by decide +kernel
theorem dX12_joins_5 : decode cX12_joins 5 = .ok (.getfield 131, 3) := by decide +kernel
theorem dX12_joins_8 : decode cX12_joins 8 = .ok (.aload_n 0, 1) := by decide +kernel
theorem dX12_joins_9 : decode cX12_joins 9 = .ok (.getfield 134, 3) := by decide +kernel
theorem dX12_joins_12 : decode cX12_joins 12 = .ok (.iconst 1, 1) := by decide +kernel
theorem dX12_joins_13 : decode cX12_joins 13 = .ok (.isub, 1) := by decide +kernel
theorem dX12_joins_14 : decode cX12_joins 14 = .ok (.iaload, 1) := by decide +kernel
theorem dX12_joins_15 : decode cX12_joins 15 = .ok (.if_icmp .le 72, 3) := by decide +kernel
theorem dX12_joins_18 : decode cX12_joins 18 = .ok (.aload_n 0, 1) := by decide +kernel
theorem dX12_joins_19 : decode cX12_joins 19 = .ok (.getfield 140, 3) := by decide +kernel
theorem dX12_joins_22 : decode cX12_joins 22 = .ok (.aload_n 0, 1) := by decide +kernel
theorem dX12_joins_23 : decode cX12_joins 23 = .ok (.getfield 143, 3) := by decide +kernel
theorem dX12_joins_26 : decode cX12_joins 26 = .ok (.iconst 1, 1) := by decide +kernel
theorem dX12_joins_27 : decode cX12_joins 27 = .ok (.isub, 1) := by decide +kernel
theorem dX12_joins_28 : decode cX12_joins 28 = .ok (.iaload, 1) := by decide +kernel
theorem dX12_joins_29 : decode cX12_joins 29 = .ok (.invokestatic 323, 3) := by decide +kernel
theorem dX12_joins_32 : decode cX12_joins 32 = .ok (.iload_n 1, 1) := by decide +kernel
theorem dX12_joins_33 : decode cX12_joins 33 = .ok (.if_icmp .lt 54, 3) := by decide +kernel
theorem dX12_joins_36 : decode cX12_joins 36 = .ok (.aload_n 0, 1) := by decide +kernel
theorem dX12_joins_37 : decode cX12_joins 37 = .ok (.dup, 1) := by decide +kernel
theorem dX12_joins_38 : decode cX12_joins 38 = .ok (.getfield 143, 3) := by decide +kernel
theorem dX12_joins_41 : decode cX12_joins 41 = .ok (.iconst 1, 1) := by decide +kernel
theorem dX12_joins_42 : decode cX12_joins 42 = .ok (.isub, 1) := by decide +kernel
theorem dX12_joins_43 : decode cX12_joins 43 = .ok (.putfield 143, 3) := by decide +kernel
theorem dX12_joins_46 : decode cX12_joins 46 = .ok (.aload_n 0, 1) := by decide +kernel
theorem dX12_joins_47 : decode cX12_joins 47 = .ok (.aload_n 0, 1) := by decide +kernel
theorem dX12_joins_48 : decode cX12_joins 48 = .ok (.getfield 140, 3) := by decide +kernel
theorem dX12_joins_51 : decode cX12_joins 51 = .ok (.aload_n 0, 1) := by decide +kernel
theorem dX12_joins_52 : decode cX12_joins 52 = .ok (.getfield 143, 3) := by decide +kernel
theorem dX12_joins_55 : decode cX12_joins 55 = .ok (.iaload, 1) := by decide +kernel
theorem dX12_joins_56 : decode cX12_joins 56 = .ok (.iconst 0, 1) := by decide +kernel
theorem dX12_joins_57 : decode cX12_joins 57 = .ok (.invokevirtual 326, 3) := by decide +kernel
theorem dX12_joins_60 : decode cX12_joins 60 = .ok (.aload_n 0, 1) := by decide +kernel
theorem dX12_joins_61 : decode cX12_joins 61 = .ok (.getfield 140, 3) := by decide +kernel
theorem dX12_joins_64 : decode cX12_joins 64 = .ok (.aload_n 0, 1) := by decide +kernel
theorem dX12_joins_65 : decode cX12_joins 65 = .ok (.getfield 143, 3) := by decide +kernel
theorem dX12_joins_68 : decode cX12_joins 68 = .ok (.iaload, 1) := by decide +kernel
theorem dX12_joins_69 : decode cX12_joins 69 = .ok (.bipush 43, 2) := by decide +kernel
theorem dX12_joins_71 : decode cX12_joins 71 = .ok (.if_icmp .ne (-71), 3) := by decide +kernel
theorem dX12_joins_74 : decode cX12_joins 74 = .ok (.aload_n 0, 1) := by decide +kernel
theorem dX12_joins_75 : decode cX12_joins 75 = .ok (.dup, 1) := by decide +kernel
theorem dX12_joins_76 : decode cX12_joins 76 = .ok (.getfield 137, 3) := by decide +kernel
theorem dX12_joins_79 : decode cX12_joins 79 = .ok (.iconst 1, 1) := by decide +kernel
theorem dX12_joins_80 : decode cX12_joins 80 = .ok (.isub, 1) := by decide +kernel
theorem dX12_joins_81 : decode cX12_joins 81 = .ok (.putfield 137, 3) := by decide +kernel
theorem dX12_joins_84 : decode cX12_joins 84 = .ok (.goto (-84), 3) := by decide +kernel
theorem dX12_joins_87 : decode cX12_joins 87 = .ok (.return_, 1) := by decide +kernel
theorem dX12_holdsBack_0 : decode cX12_holdsBack 0 = .ok (.aload_n 0, 1) := by decide +kernel
theorem dX12_holdsBack_1 : decode cX12_holdsBack 1 = .ok (.getfield 140, 3) := by decide +kernel
theorem dX12_holdsBack_4 : decode cX12_holdsBack 4 = .ok (.aload_n 0, 1) := by decide +kernel
theorem dX12_holdsBack_5 : decode cX12_holdsBack 5 = .ok (.getfield 143, 3) := by decide +kernel
theorem dX12_holdsBack_8 : decode cX12_holdsBack 8 = .ok (.iload_n 1, 1) := by decide +kernel
theorem dX12_holdsBack_9 : decode cX12_holdsBack 9 = .ok (.iastore, 1) := by decide +kernel
theorem dX12_holdsBack_10 : decode cX12_holdsBack 10 = .ok (.aload_n 0, 1) := by decide +kernel
theorem dX12_holdsBack_11 : decode cX12_holdsBack 11 = .ok (.dup, 1) := by decide +kernel
theorem dX12_holdsBack_12 : decode cX12_holdsBack 12 = .ok (.getfield 143, 3) := by decide +kernel
theorem dX12_holdsBack_15 : decode cX12_holdsBack 15 = .ok (.iconst 1, 1) := by decide +kernel
theorem dX12_holdsBack_16 : decode cX12_holdsBack 16 = .ok (.iadd, 1) := by decide +kernel
theorem dX12_holdsBack_17 : decode cX12_holdsBack 17 = .ok (.putfield 143, 3) := by decide +kernel
theorem dX12_holdsBack_20 : decode cX12_holdsBack 20 = .ok (.return_, 1) := by decide +kernel
theorem dX12_pushes_0 : decode cX12_pushes 0 = .ok (.aload_n 0, 1) := by decide +kernel
theorem dX12_pushes_1 : decode cX12_pushes 1 = .ok (.getfield 118, 3) := by decide +kernel
theorem dX12_pushes_4 : decode cX12_pushes 4 = .ok (.aload_n 0, 1) := by decide +kernel
theorem dX12_pushes_5 : decode cX12_pushes 5 = .ok (.getfield 134, 3) := by decide +kernel
theorem dX12_pushes_8 : decode cX12_pushes 8 = .ok (.iload_n 1, 1) := by decide +kernel
theorem dX12_pushes_9 : decode cX12_pushes 9 = .ok (.iastore, 1) := by decide +kernel
theorem dX12_pushes_10 : decode cX12_pushes 10 = .ok (.aload_n 0, 1) := by decide +kernel
theorem dX12_pushes_11 : decode cX12_pushes 11 = .ok (.getfield 121, 3) := by decide +kernel
theorem dX12_pushes_14 : decode cX12_pushes 14 = .ok (.aload_n 0, 1) := by decide +kernel
theorem dX12_pushes_15 : decode cX12_pushes 15 = .ok (.getfield 134, 3) := by decide +kernel
theorem dX12_pushes_18 : decode cX12_pushes 18 = .ok (.iconst 0, 1) := by decide +kernel
theorem dX12_pushes_19 : decode cX12_pushes 19 = .ok (.iastore, 1) := by decide +kernel
theorem dX12_pushes_20 : decode cX12_pushes 20 = .ok (.aload_n 0, 1) := by decide +kernel
theorem dX12_pushes_21 : decode cX12_pushes 21 = .ok (.getfield 124, 3) := by decide +kernel
theorem dX12_pushes_24 : decode cX12_pushes 24 = .ok (.aload_n 0, 1) := by decide +kernel
theorem dX12_pushes_25 : decode cX12_pushes 25 = .ok (.getfield 134, 3) := by decide +kernel
theorem dX12_pushes_28 : decode cX12_pushes 28 = .ok (.iconst 1, 1) := by decide +kernel
theorem dX12_pushes_29 : decode cX12_pushes 29 = .ok (.bastore, 1) := by decide +kernel
theorem dX12_pushes_30 : decode cX12_pushes 30 = .ok (.aload_n 0, 1) := by decide +kernel
theorem dX12_pushes_31 : decode cX12_pushes 31 = .ok (.getfield 131, 3) := by decide +kernel
theorem dX12_pushes_34 : decode cX12_pushes 34 = .ok (.aload_n 0, 1) := by decide +kernel
theorem dX12_pushes_35 : decode cX12_pushes 35 = .ok (.getfield 134, 3) := by decide +kernel
theorem dX12_pushes_38 : decode cX12_pushes 38 = .ok (.aload_n 0, 1) := by decide +kernel
theorem dX12_pushes_39 : decode cX12_pushes 39 = .ok (.getfield 143, 3) := by decide +kernel
theorem dX12_pushes_42 : decode cX12_pushes 42 = .ok (.iastore, 1) := by decide +kernel
theorem dX12_pushes_43 : decode cX12_pushes 43 = .ok (.aload_n 0, 1) := by decide +kernel
theorem dX12_pushes_44 : decode cX12_pushes 44 = .ok (.dup, 1) := by decide +kernel
theorem dX12_pushes_45 : decode cX12_pushes 45 = .ok (.getfield 134, 3) := by decide +kernel
theorem dX12_pushes_48 : decode cX12_pushes 48 = .ok (.iconst 1, 1) := by decide +kernel
theorem dX12_pushes_49 : decode cX12_pushes 49 = .ok (.iadd, 1) := by decide +kernel
theorem dX12_pushes_50 : decode cX12_pushes 50 = .ok (.putfield 134, 3) := by decide +kernel
theorem dX12_pushes_53 : decode cX12_pushes 53 = .ok (.return_, 1) := by decide +kernel
theorem dX12_opens_0 : decode cX12_opens 0 = .ok (.aload_n 0, 1) := by decide +kernel
theorem dX12_opens_1 : decode cX12_opens 1 = .ok (.getfield 137, 3) := by decide +kernel
theorem dX12_opens_4 : decode cX12_opens 4 = .ok (.bipush 7, 2) := by decide +kernel
theorem dX12_opens_6 : decode cX12_opens 6 = .ok (.if_icmp .ne 12, 3) := by decide +kernel
theorem dX12_opens_9 : decode cX12_opens 9 = .ok (.aload_n 0, 1) := by decide +kernel
theorem dX12_opens_10 : decode cX12_opens 10 = .ok (.iconst 5, 1) := by decide +kernel
theorem dX12_opens_11 : decode cX12_opens 11 = .ok (.aload_n 0, 1) := by decide +kernel
theorem dX12_opens_12 : decode cX12_opens 12 = .ok (.getfield 23, 3) := by decide +kernel
theorem dX12_opens_15 : decode cX12_opens 15 = .ok (.invokevirtual 237, 3) := by decide +kernel
theorem dX12_opens_18 : decode cX12_opens 18 = .ok (.aload_n 0, 1) := by decide +kernel
theorem dX12_opens_19 : decode cX12_opens 19 = .ok (.getfield 36, 3) := by decide +kernel
theorem dX12_opens_22 : decode cX12_opens 22 = .ok (.ifCond .le 4, 3) := by decide +kernel
theorem dX12_opens_25 : decode cX12_opens 25 = .ok (.return_, 1) := by decide +kernel
theorem dX12_opens_26 : decode cX12_opens 26 = .ok (.aload_n 0, 1) := by decide +kernel
theorem dX12_opens_27 : decode cX12_opens 27 = .ok (.dup, 1) := by decide +kernel
theorem dX12_opens_28 : decode cX12_opens 28 = .ok (.getfield 137, 3) := by decide +kernel
theorem dX12_opens_31 : decode cX12_opens 31 = .ok (.iconst 1, 1) := by decide +kernel
theorem dX12_opens_32 : decode cX12_opens 32 = .ok (.iadd, 1) := by decide +kernel
theorem dX12_opens_33 : decode cX12_opens 33 = .ok (.putfield 137, 3) := by decide +kernel
theorem dX12_opens_36 : decode cX12_opens 36 = .ok (.aload_n 0, 1) := by decide +kernel
theorem dX12_opens_37 : decode cX12_opens 37 = .ok (.invokevirtual 258, 3) := by decide +kernel
theorem dX12_opens_40 : decode cX12_opens 40 = .ok (.aload_n 0, 1) := by decide +kernel
theorem dX12_opens_41 : decode cX12_opens 41 = .ok (.iload_n 1, 1) := by decide +kernel
theorem dX12_opens_42 : decode cX12_opens 42 = .ok (.invokevirtual 329, 3) := by decide +kernel
theorem dX12_opens_45 : decode cX12_opens 45 = .ok (.return_, 1) := by decide +kernel
theorem dX12_isTest_0 : decode cX12_isTest 0 = .ok (.iload_n 0, 1) := by decide +kernel
theorem dX12_isTest_1 : decode cX12_isTest 1 = .ok (.iconst 1, 1) := by decide +kernel
theorem dX12_isTest_2 : decode cX12_isTest 2 = .ok (.if_icmp .eq 14, 3) := by decide +kernel
theorem dX12_isTest_5 : decode cX12_isTest 5 = .ok (.iload_n 0, 1) := by decide +kernel
theorem dX12_isTest_6 : decode cX12_isTest 6 = .ok (.iconst 5, 1) := by decide +kernel
theorem dX12_isTest_7 : decode cX12_isTest 7 = .ok (.if_icmp .eq 9, 3) := by decide +kernel
theorem dX12_isTest_10 : decode cX12_isTest 10 = .ok (.iload_n 0, 1) := by decide +kernel
theorem dX12_isTest_11 : decode cX12_isTest 11 = .ok (.bipush 6, 2) := by decide +kernel
theorem dX12_isTest_13 : decode cX12_isTest 13 = .ok (.if_icmp .ne 7, 3) := by decide +kernel
theorem dX12_isTest_16 : decode cX12_isTest 16 = .ok (.iconst 1, 1) := by decide +kernel
theorem dX12_isTest_17 : decode cX12_isTest 17 = .ok (.goto 4, 3) := by decide +kernel
theorem dX12_isTest_20 : decode cX12_isTest 20 = .ok (.iconst 0, 1) := by decide +kernel
theorem dX12_isTest_21 : decode cX12_isTest 21 = .ok (.ireturn, 1) := by decide +kernel
theorem dX12_operand_0 : decode cX12_operand 0 = .ok (.aload_n 0, 1) := by decide +kernel
theorem dX12_operand_1 : decode cX12_operand 1 = .ok (.invokevirtual 252, 3) := by decide +kernel
theorem dX12_operand_4 : decode cX12_operand 4 = .ok (.aload_n 0, 1) := by decide +kernel
theorem dX12_operand_5 : decode cX12_operand 5 = .ok (.getfield 36, 3) := by decide +kernel
theorem dX12_operand_8 : decode cX12_operand 8 = .ok (.ifCond .le 5, 3) := by decide +kernel
theorem dX12_operand_11 : decode cX12_operand 11 = .ok (.iconst 1, 1) := by decide +kernel
theorem dX12_operand_12 : decode cX12_operand 12 = .ok (.ireturn, 1) := by decide +kernel
theorem dX12_operand_13 : decode cX12_operand 13 = .ok (.aload_n 0, 1) := by decide +kernel
theorem dX12_operand_14 : decode cX12_operand 14 = .ok (.getfield 134, 3) := by decide +kernel
theorem dX12_operand_17 : decode cX12_operand 17 = .ok (.iconst 1, 1) := by decide +kernel
theorem dX12_operand_18 : decode cX12_operand 18 = .ok (.isub, 1) := by decide +kernel
theorem dX12_operand_19 : decode cX12_operand 19 = .ok (.istore_n 1, 1) := by decide +kernel
theorem dX12_operand_20 : decode cX12_operand 20 = .ok (.aload_n 0, 1) := by decide +kernel
theorem dX12_operand_21 : decode cX12_operand 21 = .ok (.getfield 118, 3) := by decide +kernel
theorem dX12_operand_24 : decode cX12_operand 24 = .ok (.iload_n 1, 1) := by decide +kernel
theorem dX12_operand_25 : decode cX12_operand 25 = .ok (.iaload, 1) := by decide +kernel
theorem dX12_operand_26 : decode cX12_operand 26 = .ok (.invokestatic 332, 3) := by decide +kernel
theorem dX12_operand_29 : decode cX12_operand 29 = .ok (.ifCond .eq 16, 3) := by decide +kernel
theorem dX12_operand_32 : decode cX12_operand 32 = .ok (.aload_n 0, 1) := by decide +kernel
theorem dX12_operand_33 : decode cX12_operand 33 = .ok (.getfield 124, 3) := by decide +kernel
theorem dX12_operand_36 : decode cX12_operand 36 = .ok (.iload_n 1, 1) := by decide +kernel
theorem dX12_operand_37 : decode cX12_operand 37 = .ok (.baload, 1) := by decide +kernel
theorem dX12_operand_38 : decode cX12_operand 38 = .ok (.ifCond .eq 7, 3) := by decide +kernel
theorem dX12_operand_41 : decode cX12_operand 41 = .ok (.iconst 1, 1) := by decide +kernel
theorem dX12_operand_42 : decode cX12_operand 42 = .ok (.goto 4, 3) := by decide +kernel
theorem dX12_operand_45 : decode cX12_operand 45 = .ok (.iconst 0, 1) := by decide +kernel
theorem dX12_operand_46 : decode cX12_operand 46 = .ok (.istore_n 2, 1) := by decide +kernel
theorem dX12_operand_47 : decode cX12_operand 47 = .ok (.iload_n 2, 1) := by decide +kernel
theorem dX12_operand_48 : decode cX12_operand 48 = .ok (.ifCond .eq 62, 3) := by decide +kernel
theorem dX12_operand_51 : decode cX12_operand 51 = .ok (.aload_n 0, 1) := by decide +kernel
theorem dX12_operand_52 : decode cX12_operand 52 = .ok (.ldc2_w 301, 3) := by decide +kernel
theorem dX12_operand_55 : decode cX12_operand 55 = .ok (.invokevirtual 335, 3) := by decide +kernel
theorem dX12_operand_58 : decode cX12_operand 58 = .ok (.ifCond .eq 52, 3) := by decide +kernel
theorem dX12_operand_61 : decode cX12_operand 61 = .ok (.aload_n 0, 1) := by decide +kernel
theorem dX12_operand_62 : decode cX12_operand 62 = .ok (.getfield 137, 3) := by decide +kernel
theorem dX12_operand_65 : decode cX12_operand 65 = .ok (.bipush 7, 2) := by decide +kernel
theorem dX12_operand_67 : decode cX12_operand 67 = .ok (.if_icmp .ne 12, 3) := by decide +kernel
theorem dX12_operand_70 : decode cX12_operand 70 = .ok (.aload_n 0, 1) := by decide +kernel
theorem dX12_operand_71 : decode cX12_operand 71 = .ok (.iconst 5, 1) := by decide +kernel
theorem dX12_operand_72 : decode cX12_operand 72 = .ok (.aload_n 0, 1) := by decide +kernel
theorem dX12_operand_73 : decode cX12_operand 73 = .ok (.getfield 23, 3) := by decide +kernel
theorem dX12_operand_76 : decode cX12_operand 76 = .ok (.invokevirtual 237, 3) := by decide +kernel
theorem dX12_operand_79 : decode cX12_operand 79 = .ok (.aload_n 0, 1) := by decide +kernel
theorem dX12_operand_80 : decode cX12_operand 80 = .ok (.getfield 36, 3) := by decide +kernel
theorem dX12_operand_83 : decode cX12_operand 83 = .ok (.ifCond .le 5, 3) := by decide +kernel
theorem dX12_operand_86 : decode cX12_operand 86 = .ok (.iconst 1, 1) := by decide +kernel
theorem dX12_operand_87 : decode cX12_operand 87 = .ok (.ireturn, 1) := by decide +kernel
theorem dX12_operand_88 : decode cX12_operand 88 = .ok (.aload_n 0, 1) := by decide +kernel
theorem dX12_operand_89 : decode cX12_operand 89 = .ok (.dup, 1) := by decide +kernel
theorem dX12_operand_90 : decode cX12_operand 90 = .ok (.getfield 137, 3) := by decide +kernel
theorem dX12_operand_93 : decode cX12_operand 93 = .ok (.iconst 1, 1) := by decide +kernel
theorem dX12_operand_94 : decode cX12_operand 94 = .ok (.iadd, 1) := by decide +kernel
theorem dX12_operand_95 : decode cX12_operand 95 = .ok (.putfield 137, 3) := by decide +kernel
theorem dX12_operand_98 : decode cX12_operand 98 = .ok (.aload_n 0, 1) := by decide +kernel
theorem dX12_operand_99 : decode cX12_operand 99 = .ok (.bipush 43, 2) := by decide +kernel
theorem dX12_operand_101 : decode cX12_operand 101 = .ok (.invokevirtual 338, 3) := by decide +kernel
theorem dX12_operand_104 : decode cX12_operand 104 = .ok (.aload_n 0, 1) := by decide +kernel
theorem dX12_operand_105 : decode cX12_operand 105 = .ok (.invokevirtual 258, 3) := by decide +kernel
theorem dX12_operand_108 : decode cX12_operand 108 = .ok (.iconst 0, 1) := by decide +kernel
theorem dX12_operand_109 : decode cX12_operand 109 = .ok (.ireturn, 1) := by decide +kernel
theorem dX12_operand_110 : decode cX12_operand 110 = .ok (.aload_n 0, 1) := by decide +kernel
theorem dX12_operand_111 : decode cX12_operand 111 = .ok (.getfield 124, 3) := by decide +kernel
theorem dX12_operand_114 : decode cX12_operand 114 = .ok (.iload_n 1, 1) := by decide +kernel
theorem dX12_operand_115 : decode cX12_operand 115 = .ok (.iconst 0, 1) := by decide +kernel
theorem dX12_operand_116 : decode cX12_operand 116 = .ok (.bastore, 1) := by decide +kernel
theorem dX12_operand_117 : decode cX12_operand 117 = .ok (.iload_n 2, 1) := by decide +kernel
theorem dX12_operand_118 : decode cX12_operand 118 = .ok (.ifCond .eq 19, 3) := by decide +kernel
theorem dX12_operand_121 : decode cX12_operand 121 = .ok (.aload_n 0, 1) := by decide +kernel
theorem dX12_operand_122 : decode cX12_operand 122 = .ok (.bipush 91, 2) := by decide +kernel
theorem dX12_operand_124 : decode cX12_operand 124 = .ok (.invokevirtual 255, 3) := by decide +kernel
theorem dX12_operand_127 : decode cX12_operand 127 = .ok (.ifCond .eq 10, 3) := by decide +kernel
theorem dX12_operand_130 : decode cX12_operand 130 = .ok (.aload_n 0, 1) := by decide +kernel
theorem dX12_operand_131 : decode cX12_operand 131 = .ok (.iconst 5, 1) := by decide +kernel
theorem dX12_operand_132 : decode cX12_operand 132 = .ok (.invokevirtual 341, 3) := by decide +kernel
theorem dX12_operand_135 : decode cX12_operand 135 = .ok (.iconst 0, 1) := by decide +kernel
theorem dX12_operand_136 : decode cX12_operand 136 = .ok (.ireturn, 1) := by decide +kernel
theorem dX12_operand_137 : decode cX12_operand 137 = .ok (.iload_n 2, 1) := by decide +kernel
theorem dX12_operand_138 : decode cX12_operand 138 = .ok (.ifCond .eq 33, 3) := by decide +kernel
theorem dX12_operand_141 : decode cX12_operand 141 = .ok (.aload_n 0, 1) := by decide +kernel
theorem dX12_operand_142 : decode cX12_operand 142 = .ok (.ldc2_w 303, 3) := by decide +kernel
theorem dX12_operand_145 : decode cX12_operand 145 = .ok (.invokevirtual 335, 3) := by decide +kernel
theorem dX12_operand_148 : decode cX12_operand 148 = .ok (.ifCond .eq 23, 3) := by decide +kernel
theorem dX12_operand_151 : decode cX12_operand 151 = .ok (.aload_n 0, 1) := by decide +kernel
theorem dX12_operand_152 : decode cX12_operand 152 = .ok (.bipush 30, 2) := by decide +kernel
theorem dX12_operand_154 : decode cX12_operand 154 = .ok (.iconst 0, 1) := by decide +kernel
theorem dX12_operand_155 : decode cX12_operand 155 = .ok (.invokevirtual 326, 3) := by decide +kernel
theorem dX12_operand_158 : decode cX12_operand 158 = .ok (.aload_n 0, 1) := by decide +kernel
theorem dX12_operand_159 : decode cX12_operand 159 = .ok (.getfield 121, 3) := by decide +kernel
theorem dX12_operand_162 : decode cX12_operand 162 = .ok (.iload_n 1, 1) := by decide +kernel
theorem dX12_operand_163 : decode cX12_operand 163 = .ok (.iconst 2, 1) := by decide +kernel
theorem dX12_operand_164 : decode cX12_operand 164 = .ok (.iastore, 1) := by decide +kernel
theorem dX12_operand_165 : decode cX12_operand 165 = .ok (.aload_n 0, 1) := by decide +kernel
theorem dX12_operand_166 : decode cX12_operand 166 = .ok (.invokevirtual 258, 3) := by decide +kernel
theorem dX12_operand_169 : decode cX12_operand 169 = .ok (.iconst 1, 1) := by decide +kernel
theorem dX12_operand_170 : decode cX12_operand 170 = .ok (.ireturn, 1) := by decide +kernel
theorem dX12_operand_171 : decode cX12_operand 171 = .ok (.aload_n 0, 1) := by decide +kernel
theorem dX12_operand_172 : decode cX12_operand 172 = .ok (.bipush 40, 2) := by decide +kernel
theorem dX12_operand_174 : decode cX12_operand 174 = .ok (.invokevirtual 255, 3) := by decide +kernel
theorem dX12_operand_177 : decode cX12_operand 177 = .ok (.ifCond .eq 10, 3) := by decide +kernel
theorem dX12_operand_180 : decode cX12_operand 180 = .ok (.aload_n 0, 1) := by decide +kernel
theorem dX12_operand_181 : decode cX12_operand 181 = .ok (.iconst 2, 1) := by decide +kernel
theorem dX12_operand_182 : decode cX12_operand 182 = .ok (.invokevirtual 341, 3) := by decide +kernel
theorem dX12_operand_185 : decode cX12_operand 185 = .ok (.iconst 0, 1) := by decide +kernel
theorem dX12_operand_186 : decode cX12_operand 186 = .ok (.ireturn, 1) := by decide +kernel
theorem dX12_operand_187 : decode cX12_operand 187 = .ok (.aload_n 0, 1) := by decide +kernel
theorem dX12_operand_188 : decode cX12_operand 188 = .ok (.ldc2_w 305, 3) := by decide +kernel
theorem dX12_operand_191 : decode cX12_operand 191 = .ok (.invokevirtual 335, 3) := by decide +kernel
theorem dX12_operand_194 : decode cX12_operand 194 = .ok (.ifCond .ne 23, 3) := by decide +kernel
theorem dX12_operand_197 : decode cX12_operand 197 = .ok (.aload_n 0, 1) := by decide +kernel
theorem dX12_operand_198 : decode cX12_operand 198 = .ok (.ldc2_w 307, 3) := by decide +kernel
theorem dX12_operand_201 : decode cX12_operand 201 = .ok (.invokevirtual 335, 3) := by decide +kernel
theorem dX12_operand_204 : decode cX12_operand 204 = .ok (.ifCond .ne 13, 3) := by decide +kernel
theorem dX12_operand_207 : decode cX12_operand 207 = .ok (.aload_n 0, 1) := by decide +kernel
theorem dX12_operand_208 : decode cX12_operand 208 = .ok (.ldc2_w 295, 3) := by decide +kernel
theorem dX12_operand_211 : decode cX12_operand 211 = .ok (.invokevirtual 335, 3) := by decide +kernel
theorem dX12_operand_214 : decode cX12_operand 214 = .ok (.ifCond .eq 99, 3) := by decide +kernel
theorem dX12_operand_217 : decode cX12_operand 217 = .ok (.aload_n 0, 1) := by decide +kernel
theorem dX12_operand_218 : decode cX12_operand 218 = .ok (.ldc2_w 305, 3) := by decide +kernel
theorem dX12_operand_221 : decode cX12_operand 221 = .ok (.invokevirtual 335, 3) := by decide +kernel
theorem dX12_operand_224 : decode cX12_operand 224 = .ok (.ifCond .eq 8, 3) := by decide +kernel
theorem dX12_operand_227 : decode cX12_operand 227 = .ok (.bipush 36, 2) := by decide +kernel
theorem dX12_operand_229 : decode cX12_operand 229 = .ok (.goto 20, 3) := by decide +kernel
theorem dX12_operand_232 : decode cX12_operand 232 = .ok (.aload_n 0, 1) := by decide +kernel
theorem dX12_operand_233 : decode cX12_operand 233 = .ok (.ldc2_w 307, 3) := by decide +kernel
theorem dX12_operand_236 : decode cX12_operand 236 = .ok (.invokevirtual 335, 3) := by decide +kernel
theorem dX12_operand_239 : decode cX12_operand 239 = .ok (.ifCond .eq 8, 3) := by decide +kernel
theorem dX12_operand_242 : decode cX12_operand 242 = .ok (.bipush 37, 2) := by decide +kernel
theorem dX12_operand_244 : decode cX12_operand 244 = .ok (.goto 5, 3) := by decide +kernel
theorem dX12_operand_247 : decode cX12_operand 247 = .ok (.bipush 44, 2) := by decide +kernel
theorem dX12_operand_249 : decode cX12_operand 249 = .ok (.istore_n 3, 1) := by decide +kernel
theorem dX12_operand_250 : decode cX12_operand 250 = .ok (.aload_n 0, 1) := by decide +kernel
theorem dX12_operand_251 : decode cX12_operand 251 = .ok (.invokevirtual 258, 3) := by decide +kernel
theorem dX12_operand_254 : decode cX12_operand 254 = .ok (.aload_n 0, 1) := by decide +kernel
theorem dX12_operand_255 : decode cX12_operand 255 = .ok (.invokevirtual 252, 3) := by decide +kernel
theorem dX12_operand_258 : decode cX12_operand 258 = .ok (.aload_n 0, 1) := by decide +kernel
theorem dX12_operand_259 : decode cX12_operand 259 = .ok (.bipush 40, 2) := by decide +kernel
theorem dX12_operand_261 : decode cX12_operand 261 = .ok (.invokevirtual 255, 3) := by decide +kernel
theorem dX12_operand_264 : decode cX12_operand 264 = .ok (.ifCond .ne 12, 3) := by decide +kernel
theorem dX12_operand_267 : decode cX12_operand 267 = .ok (.aload_n 0, 1) := by decide +kernel
theorem dX12_operand_268 : decode cX12_operand 268 = .ok (.iconst 1, 1) := by decide +kernel
theorem dX12_operand_269 : decode cX12_operand 269 = .ok (.aload_n 0, 1) := by decide +kernel
theorem dX12_operand_270 : decode cX12_operand 270 = .ok (.getfield 23, 3) := by decide +kernel
theorem dX12_operand_273 : decode cX12_operand 273 = .ok (.invokevirtual 237, 3) := by decide +kernel
theorem dX12_operand_276 : decode cX12_operand 276 = .ok (.aload_n 0, 1) := by decide +kernel
theorem dX12_operand_277 : decode cX12_operand 277 = .ok (.iload_n 3, 1) := by decide +kernel
theorem dX12_operand_278 : decode cX12_operand 278 = .ok (.bipush 44, 2) := by decide +kernel
theorem dX12_operand_280 : decode cX12_operand 280 = .ok (.if_icmp .ne 8, 3) := by decide +kernel
theorem dX12_operand_283 : decode cX12_operand 283 = .ok (.bipush 6, 2) := by decide +kernel
theorem dX12_operand_285 : decode cX12_operand 285 = .ok (.goto 4, 3) := by decide +kernel
theorem dX12_operand_288 : decode cX12_operand 288 = .ok (.iconst 3, 1) := by decide +kernel
theorem dX12_operand_289 : decode cX12_operand 289 = .ok (.invokevirtual 341, 3) := by decide +kernel
theorem dX12_operand_292 : decode cX12_operand 292 = .ok (.aload_n 0, 1) := by decide +kernel
theorem dX12_operand_293 : decode cX12_operand 293 = .ok (.getfield 36, 3) := by decide +kernel
theorem dX12_operand_296 : decode cX12_operand 296 = .ok (.ifCond .ne 15, 3) := by decide +kernel
theorem dX12_operand_299 : decode cX12_operand 299 = .ok (.aload_n 0, 1) := by decide +kernel
theorem dX12_operand_300 : decode cX12_operand 300 = .ok (.getfield 128, 3) := by decide +kernel
theorem dX12_operand_303 : decode cX12_operand 303 = .ok (.aload_n 0, 1) := by decide +kernel
theorem dX12_operand_304 : decode cX12_operand 304 = .ok (.getfield 134, 3) := by decide +kernel
theorem dX12_operand_307 : decode cX12_operand 307 = .ok (.iconst 1, 1) := by decide +kernel
theorem dX12_operand_308 : decode cX12_operand 308 = .ok (.isub, 1) := by decide +kernel
theorem dX12_operand_309 : decode cX12_operand 309 = .ok (.iload_n 3, 1) := by decide +kernel
theorem dX12_operand_310 : decode cX12_operand 310 = .ok (.iastore, 1) := by decide +kernel
theorem dX12_operand_311 : decode cX12_operand 311 = .ok (.iconst 0, 1) := by decide +kernel
theorem dX12_operand_312 : decode cX12_operand 312 = .ok (.ireturn, 1) := by decide +kernel
theorem dX12_operand_313 : decode cX12_operand 313 = .ok (.aload_n 0, 1) := by decide +kernel
theorem dX12_operand_314 : decode cX12_operand 314 = .ok (.getfield 20, 3) := by decide +kernel
theorem dX12_operand_317 : decode cX12_operand 317 = .ok (.iconst 2, 1) := by decide +kernel
theorem dX12_operand_318 : decode cX12_operand 318 = .ok (.if_icmp .ne 7, 3) := by decide +kernel
theorem dX12_operand_321 : decode cX12_operand 321 = .ok (.iconst 0, 1) := by decide +kernel
theorem dX12_operand_322 : decode cX12_operand 322 = .ok (.goto 89, 3) := by decide +kernel
theorem dX12_operand_325 : decode cX12_operand 325 = .ok (.aload_n 0, 1) := by decide +kernel
theorem dX12_operand_326 : decode cX12_operand 326 = .ok (.ldc2_w 271, 3) := by decide +kernel
theorem dX12_operand_329 : decode cX12_operand 329 = .ok (.invokevirtual 335, 3) := by decide +kernel
theorem dX12_operand_332 : decode cX12_operand 332 = .ok (.ifCond .eq 7, 3) := by decide +kernel
theorem dX12_operand_335 : decode cX12_operand 335 = .ok (.iconst 1, 1) := by decide +kernel
theorem dX12_operand_336 : decode cX12_operand 336 = .ok (.goto 75, 3) := by decide +kernel
theorem dX12_operand_339 : decode cX12_operand 339 = .ok (.aload_n 0, 1) := by decide +kernel
theorem dX12_operand_340 : decode cX12_operand 340 = .ok (.ldc2_w 287, 3) := by decide +kernel
theorem dX12_operand_343 : decode cX12_operand 343 = .ok (.invokevirtual 335, 3) := by decide +kernel
theorem dX12_operand_346 : decode cX12_operand 346 = .ok (.ifCond .eq 7, 3) := by decide +kernel
theorem dX12_operand_349 : decode cX12_operand 349 = .ok (.iconst 2, 1) := by decide +kernel
theorem dX12_operand_350 : decode cX12_operand 350 = .ok (.goto 61, 3) := by decide +kernel
theorem dX12_operand_353 : decode cX12_operand 353 = .ok (.aload_n 0, 1) := by decide +kernel
theorem dX12_operand_354 : decode cX12_operand 354 = .ok (.ldc2_w 289, 3) := by decide +kernel
theorem dX12_operand_357 : decode cX12_operand 357 = .ok (.invokevirtual 335, 3) := by decide +kernel
theorem dX12_operand_360 : decode cX12_operand 360 = .ok (.ifCond .eq 7, 3) := by decide +kernel
theorem dX12_operand_363 : decode cX12_operand 363 = .ok (.iconst 3, 1) := by decide +kernel
theorem dX12_operand_364 : decode cX12_operand 364 = .ok (.goto 47, 3) := by decide +kernel
theorem dX12_operand_367 : decode cX12_operand 367 = .ok (.aload_n 0, 1) := by decide +kernel
theorem dX12_operand_368 : decode cX12_operand 368 = .ok (.ldc2_w 309, 3) := by decide +kernel
theorem dX12_operand_371 : decode cX12_operand 371 = .ok (.invokevirtual 335, 3) := by decide +kernel
theorem dX12_operand_374 : decode cX12_operand 374 = .ok (.ifCond .eq 7, 3) := by decide +kernel
theorem dX12_operand_377 : decode cX12_operand 377 = .ok (.iconst 4, 1) := by decide +kernel
theorem dX12_operand_378 : decode cX12_operand 378 = .ok (.goto 33, 3) := by decide +kernel
theorem dX12_operand_381 : decode cX12_operand 381 = .ok (.aload_n 0, 1) := by decide +kernel
theorem dX12_operand_382 : decode cX12_operand 382 = .ok (.ldc2_w 291, 3) := by decide +kernel
theorem dX12_operand_385 : decode cX12_operand 385 = .ok (.invokevirtual 335, 3) := by decide +kernel
theorem dX12_operand_388 : decode cX12_operand 388 = .ok (.ifCond .eq 7, 3) := by decide +kernel
theorem dX12_operand_391 : decode cX12_operand 391 = .ok (.iconst 5, 1) := by decide +kernel
theorem dX12_operand_392 : decode cX12_operand 392 = .ok (.goto 19, 3) := by decide +kernel
theorem dX12_operand_395 : decode cX12_operand 395 = .ok (.aload_n 0, 1) := by decide +kernel
theorem dX12_operand_396 : decode cX12_operand 396 = .ok (.ldc2_w 293, 3) := by decide +kernel
theorem dX12_operand_399 : decode cX12_operand 399 = .ok (.invokevirtual 335, 3) := by decide +kernel
theorem dX12_operand_402 : decode cX12_operand 402 = .ok (.ifCond .eq 8, 3) := by decide +kernel
theorem dX12_operand_405 : decode cX12_operand 405 = .ok (.bipush 6, 2) := by decide +kernel
theorem dX12_operand_407 : decode cX12_operand 407 = .ok (.goto 4, 3) := by decide +kernel
theorem dX12_operand_410 : decode cX12_operand 410 = .ok (.iconst (-1), 1) := by decide +kernel
theorem dX12_operand_411 : decode cX12_operand 411 = .ok (.istore_n 3, 1) := by decide +kernel
theorem dX12_operand_412 : decode cX12_operand 412 = .ok (.iload_n 3, 1) := by decide +kernel
theorem dX12_operand_413 : decode cX12_operand 413 = .ok (.ifCond .le 16, 3) := by decide +kernel
theorem dX12_operand_416 : decode cX12_operand 416 = .ok (.aload_n 0, 1) := by decide +kernel
theorem dX12_operand_417 : decode cX12_operand 417 = .ok (.getfield 115, 3) := by decide +kernel
theorem dX12_operand_420 : decode cX12_operand 420 = .ok (.iload_n 3, 1) := by decide +kernel
theorem dX12_operand_421 : decode cX12_operand 421 = .ok (.ishr, 1) := by decide +kernel
theorem dX12_operand_422 : decode cX12_operand 422 = .ok (.iconst 1, 1) := by decide +kernel
theorem dX12_operand_423 : decode cX12_operand 423 = .ok (.iand, 1) := by decide +kernel
theorem dX12_operand_424 : decode cX12_operand 424 = .ok (.ifCond .ne 5, 3) := by decide +kernel
theorem dX12_operand_427 : decode cX12_operand 427 = .ok (.iconst (-1), 1) := by decide +kernel
theorem dX12_operand_428 : decode cX12_operand 428 = .ok (.istore_n 3, 1) := by decide +kernel
theorem dX12_operand_429 : decode cX12_operand 429 = .ok (.iload_n 3, 1) := by decide +kernel
theorem dX12_operand_430 : decode cX12_operand 430 = .ok (.iconst (-1), 1) := by decide +kernel
theorem dX12_operand_431 : decode cX12_operand 431 = .ok (.if_icmp .ne 12, 3) := by decide +kernel
theorem dX12_operand_434 : decode cX12_operand 434 = .ok (.aload_n 0, 1) := by decide +kernel
theorem dX12_operand_435 : decode cX12_operand 435 = .ok (.iconst 1, 1) := by decide +kernel
theorem dX12_operand_436 : decode cX12_operand 436 = .ok (.aload_n 0, 1) := by decide +kernel
theorem dX12_operand_437 : decode cX12_operand 437 = .ok (.getfield 23, 3) := by decide +kernel
theorem dX12_operand_440 : decode cX12_operand 440 = .ok (.invokevirtual 237, 3) := by decide +kernel
theorem dX12_operand_443 : decode cX12_operand 443 = .ok (.aload_n 0, 1) := by decide +kernel
theorem dX12_operand_444 : decode cX12_operand 444 = .ok (.getfield 36, 3) := by decide +kernel
theorem dX12_operand_447 : decode cX12_operand 447 = .ok (.ifCond .le 5, 3) := by decide +kernel
theorem dX12_operand_450 : decode cX12_operand 450 = .ok (.iconst 1, 1) := by decide +kernel
theorem dX12_operand_451 : decode cX12_operand 451 = .ok (.ireturn, 1) := by decide +kernel
theorem dX12_operand_452 : decode cX12_operand 452 = .ok (.aload_n 0, 1) := by decide +kernel
theorem dX12_operand_453 : decode cX12_operand 453 = .ok (.iload_n 3, 1) := by decide +kernel
theorem dX12_operand_454 : decode cX12_operand 454 = .ok (.aload_n 0, 1) := by decide +kernel
theorem dX12_operand_455 : decode cX12_operand 455 = .ok (.getfield 29, 3) := by decide +kernel
theorem dX12_operand_458 : decode cX12_operand 458 = .ok (.invokevirtual 326, 3) := by decide +kernel
theorem dX12_operand_461 : decode cX12_operand 461 = .ok (.aload_n 0, 1) := by decide +kernel
theorem dX12_operand_462 : decode cX12_operand 462 = .ok (.invokevirtual 258, 3) := by decide +kernel
theorem dX12_operand_465 : decode cX12_operand 465 = .ok (.iconst 1, 1) := by decide +kernel
theorem dX12_operand_466 : decode cX12_operand 466 = .ok (.ireturn, 1) := by decide +kernel
theorem dX12_goesOn_0 : decode cX12_goesOn 0 = .ok (.aload_n 0, 1) := by decide +kernel
theorem dX12_goesOn_1 : decode cX12_goesOn 1 = .ok (.invokevirtual 252, 3) := by decide +kernel
theorem dX12_goesOn_4 : decode cX12_goesOn 4 = .ok (.aload_n 0, 1) := by decide +kernel
theorem dX12_goesOn_5 : decode cX12_goesOn 5 = .ok (.getfield 36, 3) := by decide +kernel
theorem dX12_goesOn_8 : decode cX12_goesOn 8 = .ok (.ifCond .le 5, 3) := by decide +kernel
theorem dX12_goesOn_11 : decode cX12_goesOn 11 = .ok (.iconst 0, 1) := by decide +kernel
theorem dX12_goesOn_12 : decode cX12_goesOn 12 = .ok (.ireturn, 1) := by decide +kernel
theorem dX12_goesOn_13 : decode cX12_goesOn 13 = .ok (.aload_n 0, 1) := by decide +kernel
theorem dX12_goesOn_14 : decode cX12_goesOn 14 = .ok (.getfield 134, 3) := by decide +kernel
theorem dX12_goesOn_17 : decode cX12_goesOn 17 = .ok (.iconst 1, 1) := by decide +kernel
theorem dX12_goesOn_18 : decode cX12_goesOn 18 = .ok (.isub, 1) := by decide +kernel
theorem dX12_goesOn_19 : decode cX12_goesOn 19 = .ok (.istore_n 1, 1) := by decide +kernel
theorem dX12_goesOn_20 : decode cX12_goesOn 20 = .ok (.aload_n 0, 1) := by decide +kernel
theorem dX12_goesOn_21 : decode cX12_goesOn 21 = .ok (.getfield 118, 3) := by decide +kernel
theorem dX12_goesOn_24 : decode cX12_goesOn 24 = .ok (.iload_n 1, 1) := by decide +kernel
theorem dX12_goesOn_25 : decode cX12_goesOn 25 = .ok (.iaload, 1) := by decide +kernel
theorem dX12_goesOn_26 : decode cX12_goesOn 26 = .ok (.istore_n 2, 1) := by decide +kernel
theorem dX12_goesOn_27 : decode cX12_goesOn 27 = .ok (.iload_n 2, 1) := by decide +kernel
theorem dX12_goesOn_28 : decode cX12_goesOn 28 = .ok (.invokestatic 332, 3) := by decide +kernel
theorem dX12_goesOn_31 : decode cX12_goesOn 31 = .ok (.istore_n 3, 1) := by decide +kernel
theorem dX12_goesOn_32 : decode cX12_goesOn 32 = .ok (.aload_n 0, 1) := by decide +kernel
theorem dX12_goesOn_33 : decode cX12_goesOn 33 = .ok (.getfield 121, 3) := by decide +kernel
theorem dX12_goesOn_36 : decode cX12_goesOn 36 = .ok (.iload_n 1, 1) := by decide +kernel
theorem dX12_goesOn_37 : decode cX12_goesOn 37 = .ok (.iaload, 1) := by decide +kernel
theorem dX12_goesOn_38 : decode cX12_goesOn 38 = .ok (.iconst 2, 1) := by decide +kernel
theorem dX12_goesOn_39 : decode cX12_goesOn 39 = .ok (.if_icmp .ge 149, 3) := by decide +kernel
theorem dX12_goesOn_42 : decode cX12_goesOn 42 = .ok (.aload_n 0, 1) := by decide +kernel
theorem dX12_goesOn_43 : decode cX12_goesOn 43 = .ok (.bipush 43, 2) := by decide +kernel
theorem dX12_goesOn_45 : decode cX12_goesOn 45 = .ok (.invokevirtual 255, 3) := by decide +kernel
theorem dX12_goesOn_48 : decode cX12_goesOn 48 = .ok (.ifCond .ne 39, 3) := by decide +kernel
theorem dX12_goesOn_51 : decode cX12_goesOn 51 = .ok (.aload_n 0, 1) := by decide +kernel
theorem dX12_goesOn_52 : decode cX12_goesOn 52 = .ok (.bipush 45, 2) := by decide +kernel
theorem dX12_goesOn_54 : decode cX12_goesOn 54 = .ok (.invokevirtual 255, 3) := by decide +kernel
theorem dX12_goesOn_57 : decode cX12_goesOn 57 = .ok (.ifCond .ne 30, 3) := by decide +kernel
theorem dX12_goesOn_60 : decode cX12_goesOn 60 = .ok (.aload_n 0, 1) := by decide +kernel
theorem dX12_goesOn_61 : decode cX12_goesOn 61 = .ok (.bipush 42, 2) := by decide +kernel
theorem dX12_goesOn_63 : decode cX12_goesOn 63 = .ok (.invokevirtual 255, 3) := by decide +kernel
theorem dX12_goesOn_66 : decode cX12_goesOn 66 = .ok (.ifCond .ne 21, 3) := by decide +kernel
theorem dX12_goesOn_69 : decode cX12_goesOn 69 = .ok (.aload_n 0, 1) := by decide +kernel
theorem dX12_goesOn_70 : decode cX12_goesOn 70 = .ok (.bipush 47, 2) := by decide +kernel
theorem dX12_goesOn_72 : decode cX12_goesOn 72 = .ok (.invokevirtual 255, 3) := by decide +kernel
theorem dX12_goesOn_75 : decode cX12_goesOn 75 = .ok (.ifCond .ne 12, 3) := by decide +kernel
theorem dX12_goesOn_78 : decode cX12_goesOn 78 = .ok (.aload_n 0, 1) := by decide +kernel
theorem dX12_goesOn_79 : decode cX12_goesOn 79 = .ok (.bipush 37, 2) := by decide +kernel
theorem dX12_goesOn_81 : decode cX12_goesOn 81 = .ok (.invokevirtual 255, 3) := by decide +kernel
theorem dX12_goesOn_84 : decode cX12_goesOn 84 = .ok (.ifCond .eq 104, 3) := by decide +kernel
theorem dX12_goesOn_87 : decode cX12_goesOn 87 = .ok (.aload_n 0, 1) := by decide +kernel
theorem dX12_goesOn_88 : decode cX12_goesOn 88 = .ok (.aload_n 0, 1) := by decide +kernel
theorem dX12_goesOn_89 : decode cX12_goesOn 89 = .ok (.bipush 43, 2) := by decide +kernel
theorem dX12_goesOn_91 : decode cX12_goesOn 91 = .ok (.invokevirtual 255, 3) := by decide +kernel
theorem dX12_goesOn_94 : decode cX12_goesOn 94 = .ok (.ifCond .ne 12, 3) := by decide +kernel
theorem dX12_goesOn_97 : decode cX12_goesOn 97 = .ok (.aload_n 0, 1) := by decide +kernel
theorem dX12_goesOn_98 : decode cX12_goesOn 98 = .ok (.bipush 45, 2) := by decide +kernel
theorem dX12_goesOn_100 : decode cX12_goesOn 100 = .ok (.invokevirtual 255, 3) := by decide +kernel
theorem dX12_goesOn_103 : decode cX12_goesOn 103 = .ok (.ifCond .eq 7, 3) := by decide +kernel
theorem dX12_goesOn_106 : decode cX12_goesOn 106 = .ok (.iconst 5, 1) := by decide +kernel
theorem dX12_goesOn_107 : decode cX12_goesOn 107 = .ok (.goto 5, 3) := by decide +kernel
theorem dX12_goesOn_110 : decode cX12_goesOn 110 = .ok (.bipush 6, 2) := by decide +kernel
theorem dX12_goesOn_112 : decode cX12_goesOn 112 = .ok (.invokevirtual 344, 3) := by decide +kernel
theorem dX12_goesOn_115 : decode cX12_goesOn 115 = .ok (.aload_n 0, 1) := by decide +kernel
theorem dX12_goesOn_116 : decode cX12_goesOn 116 = .ok (.aload_n 0, 1) := by decide +kernel
theorem dX12_goesOn_117 : decode cX12_goesOn 117 = .ok (.bipush 43, 2) := by decide +kernel
theorem dX12_goesOn_119 : decode cX12_goesOn 119 = .ok (.invokevirtual 255, 3) := by decide +kernel
theorem dX12_goesOn_122 : decode cX12_goesOn 122 = .ok (.ifCond .eq 8, 3) := by decide +kernel
theorem dX12_goesOn_125 : decode cX12_goesOn 125 = .ok (.bipush 31, 2) := by decide +kernel
theorem dX12_goesOn_127 : decode cX12_goesOn 127 = .ok (.goto 47, 3) := by decide +kernel
theorem dX12_goesOn_130 : decode cX12_goesOn 130 = .ok (.aload_n 0, 1) := by decide +kernel
theorem dX12_goesOn_131 : decode cX12_goesOn 131 = .ok (.bipush 45, 2) := by decide +kernel
theorem dX12_goesOn_133 : decode cX12_goesOn 133 = .ok (.invokevirtual 255, 3) := by decide +kernel
theorem dX12_goesOn_136 : decode cX12_goesOn 136 = .ok (.ifCond .eq 8, 3) := by decide +kernel
theorem dX12_goesOn_139 : decode cX12_goesOn 139 = .ok (.bipush 32, 2) := by decide +kernel
theorem dX12_goesOn_141 : decode cX12_goesOn 141 = .ok (.goto 33, 3) := by decide +kernel
theorem dX12_goesOn_144 : decode cX12_goesOn 144 = .ok (.aload_n 0, 1) := by decide +kernel
theorem dX12_goesOn_145 : decode cX12_goesOn 145 = .ok (.bipush 42, 2) := by decide +kernel
theorem dX12_goesOn_147 : decode cX12_goesOn 147 = .ok (.invokevirtual 255, 3) := by decide +kernel
theorem dX12_goesOn_150 : decode cX12_goesOn 150 = .ok (.ifCond .eq 8, 3) := by decide +kernel
theorem dX12_goesOn_153 : decode cX12_goesOn 153 = .ok (.bipush 33, 2) := by decide +kernel
theorem dX12_goesOn_155 : decode cX12_goesOn 155 = .ok (.goto 19, 3) := by decide +kernel
theorem dX12_goesOn_158 : decode cX12_goesOn 158 = .ok (.aload_n 0, 1) := by decide +kernel
theorem dX12_goesOn_159 : decode cX12_goesOn 159 = .ok (.bipush 47, 2) := by decide +kernel
theorem dX12_goesOn_161 : decode cX12_goesOn 161 = .ok (.invokevirtual 255, 3) := by decide +kernel
theorem dX12_goesOn_164 : decode cX12_goesOn 164 = .ok (.ifCond .eq 8, 3) := by decide +kernel
theorem dX12_goesOn_167 : decode cX12_goesOn 167 = .ok (.bipush 34, 2) := by decide +kernel
theorem dX12_goesOn_169 : decode cX12_goesOn 169 = .ok (.goto 5, 3) := by decide +kernel
theorem dX12_goesOn_172 : decode cX12_goesOn 172 = .ok (.bipush 35, 2) := by decide +kernel
theorem dX12_goesOn_174 : decode cX12_goesOn 174 = .ok (.invokevirtual 338, 3) := by decide +kernel
theorem dX12_goesOn_177 : decode cX12_goesOn 177 = .ok (.aload_n 0, 1) := by decide +kernel
theorem dX12_goesOn_178 : decode cX12_goesOn 178 = .ok (.invokevirtual 258, 3) := by decide +kernel
theorem dX12_goesOn_181 : decode cX12_goesOn 181 = .ok (.aload_n 0, 1) := by decide +kernel
theorem dX12_goesOn_182 : decode cX12_goesOn 182 = .ok (.iconst 0, 1) := by decide +kernel
theorem dX12_goesOn_183 : decode cX12_goesOn 183 = .ok (.putfield 146, 3) := by decide +kernel
theorem dX12_goesOn_186 : decode cX12_goesOn 186 = .ok (.iconst 1, 1) := by decide +kernel
theorem dX12_goesOn_187 : decode cX12_goesOn 187 = .ok (.ireturn, 1) := by decide +kernel
theorem dX12_goesOn_188 : decode cX12_goesOn 188 = .ok (.iload_n 3, 1) := by decide +kernel
theorem dX12_goesOn_189 : decode cX12_goesOn 189 = .ok (.ifCond .eq 96, 3) := by decide +kernel
theorem dX12_goesOn_192 : decode cX12_goesOn 192 = .ok (.aload_n 0, 1) := by decide +kernel
theorem dX12_goesOn_193 : decode cX12_goesOn 193 = .ok (.getfield 121, 3) := by decide +kernel
theorem dX12_goesOn_196 : decode cX12_goesOn 196 = .ok (.iload_n 1, 1) := by decide +kernel
theorem dX12_goesOn_197 : decode cX12_goesOn 197 = .ok (.iaload, 1) := by decide +kernel
theorem dX12_goesOn_198 : decode cX12_goesOn 198 = .ok (.ifCond .ne 87, 3) := by decide +kernel
theorem dX12_goesOn_201 : decode cX12_goesOn 201 = .ok (.aload_n 0, 1) := by decide +kernel
theorem dX12_goesOn_202 : decode cX12_goesOn 202 = .ok (.bipush 60, 2) := by decide +kernel
theorem dX12_goesOn_204 : decode cX12_goesOn 204 = .ok (.invokevirtual 255, 3) := by decide +kernel
theorem dX12_goesOn_207 : decode cX12_goesOn 207 = .ok (.ifCond .ne 21, 3) := by decide +kernel
theorem dX12_goesOn_210 : decode cX12_goesOn 210 = .ok (.aload_n 0, 1) := by decide +kernel
theorem dX12_goesOn_211 : decode cX12_goesOn 211 = .ok (.bipush 62, 2) := by decide +kernel
theorem dX12_goesOn_213 : decode cX12_goesOn 213 = .ok (.invokevirtual 255, 3) := by decide +kernel
theorem dX12_goesOn_216 : decode cX12_goesOn 216 = .ok (.ifCond .ne 12, 3) := by decide +kernel
theorem dX12_goesOn_219 : decode cX12_goesOn 219 = .ok (.aload_n 0, 1) := by decide +kernel
theorem dX12_goesOn_220 : decode cX12_goesOn 220 = .ok (.bipush 61, 2) := by decide +kernel
theorem dX12_goesOn_222 : decode cX12_goesOn 222 = .ok (.invokevirtual 255, 3) := by decide +kernel
theorem dX12_goesOn_225 : decode cX12_goesOn 225 = .ok (.ifCond .eq 60, 3) := by decide +kernel
theorem dX12_goesOn_228 : decode cX12_goesOn 228 = .ok (.aload_n 0, 1) := by decide +kernel
theorem dX12_goesOn_229 : decode cX12_goesOn 229 = .ok (.iconst 5, 1) := by decide +kernel
theorem dX12_goesOn_230 : decode cX12_goesOn 230 = .ok (.invokevirtual 344, 3) := by decide +kernel
theorem dX12_goesOn_233 : decode cX12_goesOn 233 = .ok (.aload_n 0, 1) := by decide +kernel
theorem dX12_goesOn_234 : decode cX12_goesOn 234 = .ok (.aload_n 0, 1) := by decide +kernel
theorem dX12_goesOn_235 : decode cX12_goesOn 235 = .ok (.bipush 60, 2) := by decide +kernel
theorem dX12_goesOn_237 : decode cX12_goesOn 237 = .ok (.invokevirtual 255, 3) := by decide +kernel
theorem dX12_goesOn_240 : decode cX12_goesOn 240 = .ok (.ifCond .eq 8, 3) := by decide +kernel
theorem dX12_goesOn_243 : decode cX12_goesOn 243 = .ok (.bipush 38, 2) := by decide +kernel
theorem dX12_goesOn_245 : decode cX12_goesOn 245 = .ok (.goto 19, 3) := by decide +kernel
theorem dX12_goesOn_248 : decode cX12_goesOn 248 = .ok (.aload_n 0, 1) := by decide +kernel
theorem dX12_goesOn_249 : decode cX12_goesOn 249 = .ok (.bipush 62, 2) := by decide +kernel
theorem dX12_goesOn_251 : decode cX12_goesOn 251 = .ok (.invokevirtual 255, 3) := by decide +kernel
theorem dX12_goesOn_254 : decode cX12_goesOn 254 = .ok (.ifCond .eq 8, 3) := by decide +kernel
theorem dX12_goesOn_257 : decode cX12_goesOn 257 = .ok (.bipush 39, 2) := by decide +kernel
theorem dX12_goesOn_259 : decode cX12_goesOn 259 = .ok (.goto 5, 3) := by decide +kernel
theorem dX12_goesOn_262 : decode cX12_goesOn 262 = .ok (.bipush 40, 2) := by decide +kernel
theorem dX12_goesOn_264 : decode cX12_goesOn 264 = .ok (.invokevirtual 338, 3) := by decide +kernel
theorem dX12_goesOn_267 : decode cX12_goesOn 267 = .ok (.aload_n 0, 1) := by decide +kernel
theorem dX12_goesOn_268 : decode cX12_goesOn 268 = .ok (.getfield 121, 3) := by decide +kernel
theorem dX12_goesOn_271 : decode cX12_goesOn 271 = .ok (.iload_n 1, 1) := by decide +kernel
theorem dX12_goesOn_272 : decode cX12_goesOn 272 = .ok (.iconst 1, 1) := by decide +kernel
theorem dX12_goesOn_273 : decode cX12_goesOn 273 = .ok (.iastore, 1) := by decide +kernel
theorem dX12_goesOn_274 : decode cX12_goesOn 274 = .ok (.aload_n 0, 1) := by decide +kernel
theorem dX12_goesOn_275 : decode cX12_goesOn 275 = .ok (.invokevirtual 258, 3) := by decide +kernel
theorem dX12_goesOn_278 : decode cX12_goesOn 278 = .ok (.aload_n 0, 1) := by decide +kernel
theorem dX12_goesOn_279 : decode cX12_goesOn 279 = .ok (.iconst 0, 1) := by decide +kernel
theorem dX12_goesOn_280 : decode cX12_goesOn 280 = .ok (.putfield 146, 3) := by decide +kernel
theorem dX12_goesOn_283 : decode cX12_goesOn 283 = .ok (.iconst 1, 1) := by decide +kernel
theorem dX12_goesOn_284 : decode cX12_goesOn 284 = .ok (.ireturn, 1) := by decide +kernel
theorem dX12_goesOn_285 : decode cX12_goesOn 285 = .ok (.iload_n 3, 1) := by decide +kernel
theorem dX12_goesOn_286 : decode cX12_goesOn 286 = .ok (.ifCond .eq 114, 3) := by decide +kernel
theorem dX12_goesOn_289 : decode cX12_goesOn 289 = .ok (.aload_n 0, 1) := by decide +kernel
theorem dX12_goesOn_290 : decode cX12_goesOn 290 = .ok (.ldc2_w 299, 3) := by decide +kernel
theorem dX12_goesOn_293 : decode cX12_goesOn 293 = .ok (.invokevirtual 335, 3) := by decide +kernel
theorem dX12_goesOn_296 : decode cX12_goesOn 296 = .ok (.ifCond .ne 13, 3) := by decide +kernel
theorem dX12_goesOn_299 : decode cX12_goesOn 299 = .ok (.aload_n 0, 1) := by decide +kernel
theorem dX12_goesOn_300 : decode cX12_goesOn 300 = .ok (.ldc2_w 297, 3) := by decide +kernel
theorem dX12_goesOn_303 : decode cX12_goesOn 303 = .ok (.invokevirtual 335, 3) := by decide +kernel
theorem dX12_goesOn_306 : decode cX12_goesOn 306 = .ok (.ifCond .eq 94, 3) := by decide +kernel
theorem dX12_goesOn_309 : decode cX12_goesOn 309 = .ok (.aload_n 0, 1) := by decide +kernel
theorem dX12_goesOn_310 : decode cX12_goesOn 310 = .ok (.getfield 121, 3) := by decide +kernel
theorem dX12_goesOn_313 : decode cX12_goesOn 313 = .ok (.iload_n 1, 1) := by decide +kernel
theorem dX12_goesOn_314 : decode cX12_goesOn 314 = .ok (.iaload, 1) := by decide +kernel
theorem dX12_goesOn_315 : decode cX12_goesOn 315 = .ok (.ifCond .ne 12, 3) := by decide +kernel
theorem dX12_goesOn_318 : decode cX12_goesOn 318 = .ok (.aload_n 0, 1) := by decide +kernel
theorem dX12_goesOn_319 : decode cX12_goesOn 319 = .ok (.iconst 1, 1) := by decide +kernel
theorem dX12_goesOn_320 : decode cX12_goesOn 320 = .ok (.aload_n 0, 1) := by decide +kernel
theorem dX12_goesOn_321 : decode cX12_goesOn 321 = .ok (.getfield 23, 3) := by decide +kernel
theorem dX12_goesOn_324 : decode cX12_goesOn 324 = .ok (.invokevirtual 237, 3) := by decide +kernel
theorem dX12_goesOn_327 : decode cX12_goesOn 327 = .ok (.aload_n 0, 1) := by decide +kernel
theorem dX12_goesOn_328 : decode cX12_goesOn 328 = .ok (.getfield 36, 3) := by decide +kernel
theorem dX12_goesOn_331 : decode cX12_goesOn 331 = .ok (.ifCond .le 5, 3) := by decide +kernel
theorem dX12_goesOn_334 : decode cX12_goesOn 334 = .ok (.iconst 0, 1) := by decide +kernel
theorem dX12_goesOn_335 : decode cX12_goesOn 335 = .ok (.ireturn, 1) := by decide +kernel
theorem dX12_goesOn_336 : decode cX12_goesOn 336 = .ok (.aload_n 0, 1) := by decide +kernel
theorem dX12_goesOn_337 : decode cX12_goesOn 337 = .ok (.ldc2_w 299, 3) := by decide +kernel
theorem dX12_goesOn_340 : decode cX12_goesOn 340 = .ok (.invokevirtual 335, 3) := by decide +kernel
theorem dX12_goesOn_343 : decode cX12_goesOn 343 = .ok (.istore 4, 2) := by decide +kernel
theorem dX12_goesOn_345 : decode cX12_goesOn 345 = .ok (.aload_n 0, 1) := by decide +kernel
theorem dX12_goesOn_346 : decode cX12_goesOn 346 = .ok (.iload 4, 2) := by decide +kernel
theorem dX12_goesOn_348 : decode cX12_goesOn 348 = .ok (.ifCond .eq 7, 3) := by decide +kernel
theorem dX12_goesOn_351 : decode cX12_goesOn 351 = .ok (.iconst 2, 1) := by decide +kernel
theorem dX12_goesOn_352 : decode cX12_goesOn 352 = .ok (.goto 4, 3) := by decide +kernel
theorem dX12_goesOn_355 : decode cX12_goesOn 355 = .ok (.iconst 1, 1) := by decide +kernel
theorem dX12_goesOn_356 : decode cX12_goesOn 356 = .ok (.invokevirtual 344, 3) := by decide +kernel
theorem dX12_goesOn_359 : decode cX12_goesOn 359 = .ok (.aload_n 0, 1) := by decide +kernel
theorem dX12_goesOn_360 : decode cX12_goesOn 360 = .ok (.iload 4, 2) := by decide +kernel
theorem dX12_goesOn_362 : decode cX12_goesOn 362 = .ok (.ifCond .eq 8, 3) := by decide +kernel
theorem dX12_goesOn_365 : decode cX12_goesOn 365 = .ok (.bipush 41, 2) := by decide +kernel
theorem dX12_goesOn_367 : decode cX12_goesOn 367 = .ok (.goto 5, 3) := by decide +kernel
theorem dX12_goesOn_370 : decode cX12_goesOn 370 = .ok (.bipush 42, 2) := by decide +kernel
theorem dX12_goesOn_372 : decode cX12_goesOn 372 = .ok (.invokevirtual 338, 3) := by decide +kernel
theorem dX12_goesOn_375 : decode cX12_goesOn 375 = .ok (.aload_n 0, 1) := by decide +kernel
theorem dX12_goesOn_376 : decode cX12_goesOn 376 = .ok (.getfield 121, 3) := by decide +kernel
theorem dX12_goesOn_379 : decode cX12_goesOn 379 = .ok (.iload_n 1, 1) := by decide +kernel
theorem dX12_goesOn_380 : decode cX12_goesOn 380 = .ok (.iconst 0, 1) := by decide +kernel
theorem dX12_goesOn_381 : decode cX12_goesOn 381 = .ok (.iastore, 1) := by decide +kernel
theorem dX12_goesOn_382 : decode cX12_goesOn 382 = .ok (.aload_n 0, 1) := by decide +kernel
theorem dX12_goesOn_383 : decode cX12_goesOn 383 = .ok (.getfield 124, 3) := by decide +kernel
theorem dX12_goesOn_386 : decode cX12_goesOn 386 = .ok (.iload_n 1, 1) := by decide +kernel
theorem dX12_goesOn_387 : decode cX12_goesOn 387 = .ok (.iconst 1, 1) := by decide +kernel
theorem dX12_goesOn_388 : decode cX12_goesOn 388 = .ok (.bastore, 1) := by decide +kernel
theorem dX12_goesOn_389 : decode cX12_goesOn 389 = .ok (.aload_n 0, 1) := by decide +kernel
theorem dX12_goesOn_390 : decode cX12_goesOn 390 = .ok (.invokevirtual 258, 3) := by decide +kernel
theorem dX12_goesOn_393 : decode cX12_goesOn 393 = .ok (.aload_n 0, 1) := by decide +kernel
theorem dX12_goesOn_394 : decode cX12_goesOn 394 = .ok (.iconst 0, 1) := by decide +kernel
theorem dX12_goesOn_395 : decode cX12_goesOn 395 = .ok (.putfield 146, 3) := by decide +kernel
theorem dX12_goesOn_398 : decode cX12_goesOn 398 = .ok (.iconst 1, 1) := by decide +kernel
theorem dX12_goesOn_399 : decode cX12_goesOn 399 = .ok (.ireturn, 1) := by decide +kernel
theorem dX12_goesOn_400 : decode cX12_goesOn 400 = .ok (.iload_n 3, 1) := by decide +kernel
theorem dX12_goesOn_401 : decode cX12_goesOn 401 = .ok (.ifCond .eq 21, 3) := by decide +kernel
theorem dX12_goesOn_404 : decode cX12_goesOn 404 = .ok (.aload_n 0, 1) := by decide +kernel
theorem dX12_goesOn_405 : decode cX12_goesOn 405 = .ok (.getfield 121, 3) := by decide +kernel
theorem dX12_goesOn_408 : decode cX12_goesOn 408 = .ok (.iload_n 1, 1) := by decide +kernel
theorem dX12_goesOn_409 : decode cX12_goesOn 409 = .ok (.iaload, 1) := by decide +kernel
theorem dX12_goesOn_410 : decode cX12_goesOn 410 = .ok (.ifCond .ne 12, 3) := by decide +kernel
theorem dX12_goesOn_413 : decode cX12_goesOn 413 = .ok (.aload_n 0, 1) := by decide +kernel
theorem dX12_goesOn_414 : decode cX12_goesOn 414 = .ok (.iconst 1, 1) := by decide +kernel
theorem dX12_goesOn_415 : decode cX12_goesOn 415 = .ok (.aload_n 0, 1) := by decide +kernel
theorem dX12_goesOn_416 : decode cX12_goesOn 416 = .ok (.getfield 23, 3) := by decide +kernel
theorem dX12_goesOn_419 : decode cX12_goesOn 419 = .ok (.invokevirtual 237, 3) := by decide +kernel
theorem dX12_goesOn_422 : decode cX12_goesOn 422 = .ok (.iload_n 2, 1) := by decide +kernel
theorem dX12_goesOn_423 : decode cX12_goesOn 423 = .ok (.iconst 2, 1) := by decide +kernel
theorem dX12_goesOn_424 : decode cX12_goesOn 424 = .ok (.if_icmp .ge 17, 3) := by decide +kernel
theorem dX12_goesOn_427 : decode cX12_goesOn 427 = .ok (.aload_n 0, 1) := by decide +kernel
theorem dX12_goesOn_428 : decode cX12_goesOn 428 = .ok (.getfield 36, 3) := by decide +kernel
theorem dX12_goesOn_431 : decode cX12_goesOn 431 = .ok (.ifCond .ne 8, 3) := by decide +kernel
theorem dX12_goesOn_434 : decode cX12_goesOn 434 = .ok (.aload_n 0, 1) := by decide +kernel
theorem dX12_goesOn_435 : decode cX12_goesOn 435 = .ok (.iconst 1, 1) := by decide +kernel
theorem dX12_goesOn_436 : decode cX12_goesOn 436 = .ok (.invokevirtual 344, 3) := by decide +kernel
theorem dX12_goesOn_439 : decode cX12_goesOn 439 = .ok (.iconst 0, 1) := by decide +kernel
theorem dX12_goesOn_440 : decode cX12_goesOn 440 = .ok (.ireturn, 1) := by decide +kernel
theorem dX12_goesOn_441 : decode cX12_goesOn 441 = .ok (.iload_n 2, 1) := by decide +kernel
theorem dX12_goesOn_442 : decode cX12_goesOn 442 = .ok (.iconst 3, 1) := by decide +kernel
theorem dX12_goesOn_443 : decode cX12_goesOn 443 = .ok (.if_icmp .eq 9, 3) := by decide +kernel
theorem dX12_goesOn_446 : decode cX12_goesOn 446 = .ok (.iload_n 2, 1) := by decide +kernel
theorem dX12_goesOn_447 : decode cX12_goesOn 447 = .ok (.bipush 6, 2) := by decide +kernel
theorem dX12_goesOn_449 : decode cX12_goesOn 449 = .ok (.if_icmp .ne 69, 3) := by decide +kernel
theorem dX12_goesOn_452 : decode cX12_goesOn 452 = .ok (.aload_n 0, 1) := by decide +kernel
theorem dX12_goesOn_453 : decode cX12_goesOn 453 = .ok (.bipush 44, 2) := by decide +kernel
theorem dX12_goesOn_455 : decode cX12_goesOn 455 = .ok (.invokevirtual 255, 3) := by decide +kernel
theorem dX12_goesOn_458 : decode cX12_goesOn 458 = .ok (.ifCond .ne 12, 3) := by decide +kernel
theorem dX12_goesOn_461 : decode cX12_goesOn 461 = .ok (.aload_n 0, 1) := by decide +kernel
theorem dX12_goesOn_462 : decode cX12_goesOn 462 = .ok (.iconst 1, 1) := by decide +kernel
theorem dX12_goesOn_463 : decode cX12_goesOn 463 = .ok (.aload_n 0, 1) := by decide +kernel
theorem dX12_goesOn_464 : decode cX12_goesOn 464 = .ok (.getfield 23, 3) := by decide +kernel
theorem dX12_goesOn_467 : decode cX12_goesOn 467 = .ok (.invokevirtual 237, 3) := by decide +kernel
theorem dX12_goesOn_470 : decode cX12_goesOn 470 = .ok (.aload_n 0, 1) := by decide +kernel
theorem dX12_goesOn_471 : decode cX12_goesOn 471 = .ok (.getfield 36, 3) := by decide +kernel
theorem dX12_goesOn_474 : decode cX12_goesOn 474 = .ok (.ifCond .le 5, 3) := by decide +kernel
theorem dX12_goesOn_477 : decode cX12_goesOn 477 = .ok (.iconst 0, 1) := by decide +kernel
theorem dX12_goesOn_478 : decode cX12_goesOn 478 = .ok (.ireturn, 1) := by decide +kernel
theorem dX12_goesOn_479 : decode cX12_goesOn 479 = .ok (.aload_n 0, 1) := by decide +kernel
theorem dX12_goesOn_480 : decode cX12_goesOn 480 = .ok (.iconst 1, 1) := by decide +kernel
theorem dX12_goesOn_481 : decode cX12_goesOn 481 = .ok (.invokevirtual 344, 3) := by decide +kernel
theorem dX12_goesOn_484 : decode cX12_goesOn 484 = .ok (.aload_n 0, 1) := by decide +kernel
theorem dX12_goesOn_485 : decode cX12_goesOn 485 = .ok (.getfield 118, 3) := by decide +kernel
theorem dX12_goesOn_488 : decode cX12_goesOn 488 = .ok (.iload_n 1, 1) := by decide +kernel
theorem dX12_goesOn_489 : decode cX12_goesOn 489 = .ok (.iload_n 2, 1) := by decide +kernel
theorem dX12_goesOn_490 : decode cX12_goesOn 490 = .ok (.iconst 3, 1) := by decide +kernel
theorem dX12_goesOn_491 : decode cX12_goesOn 491 = .ok (.if_icmp .ne 7, 3) := by decide +kernel
theorem dX12_goesOn_494 : decode cX12_goesOn 494 = .ok (.iconst 4, 1) := by decide +kernel
theorem dX12_goesOn_495 : decode cX12_goesOn 495 = .ok (.goto 4, 3) := by decide +kernel
theorem dX12_goesOn_498 : decode cX12_goesOn 498 = .ok (.iconst 3, 1) := by decide +kernel
theorem dX12_goesOn_499 : decode cX12_goesOn 499 = .ok (.iastore, 1) := by decide +kernel
theorem dX12_goesOn_500 : decode cX12_goesOn 500 = .ok (.aload_n 0, 1) := by decide +kernel
theorem dX12_goesOn_501 : decode cX12_goesOn 501 = .ok (.getfield 121, 3) := by decide +kernel
theorem dX12_goesOn_504 : decode cX12_goesOn 504 = .ok (.iload_n 1, 1) := by decide +kernel
theorem dX12_goesOn_505 : decode cX12_goesOn 505 = .ok (.iconst 0, 1) := by decide +kernel
theorem dX12_goesOn_506 : decode cX12_goesOn 506 = .ok (.iastore, 1) := by decide +kernel
theorem dX12_goesOn_507 : decode cX12_goesOn 507 = .ok (.aload_n 0, 1) := by decide +kernel
theorem dX12_goesOn_508 : decode cX12_goesOn 508 = .ok (.invokevirtual 258, 3) := by decide +kernel
theorem dX12_goesOn_511 : decode cX12_goesOn 511 = .ok (.aload_n 0, 1) := by decide +kernel
theorem dX12_goesOn_512 : decode cX12_goesOn 512 = .ok (.iconst 0, 1) := by decide +kernel
theorem dX12_goesOn_513 : decode cX12_goesOn 513 = .ok (.putfield 146, 3) := by decide +kernel
theorem dX12_goesOn_516 : decode cX12_goesOn 516 = .ok (.iconst 1, 1) := by decide +kernel
theorem dX12_goesOn_517 : decode cX12_goesOn 517 = .ok (.ireturn, 1) := by decide +kernel
theorem dX12_goesOn_518 : decode cX12_goesOn 518 = .ok (.aload_n 0, 1) := by decide +kernel
theorem dX12_goesOn_519 : decode cX12_goesOn 519 = .ok (.iload_n 2, 1) := by decide +kernel
theorem dX12_goesOn_520 : decode cX12_goesOn 520 = .ok (.iconst 5, 1) := by decide +kernel
theorem dX12_goesOn_521 : decode cX12_goesOn 521 = .ok (.if_icmp .ne 8, 3) := by decide +kernel
theorem dX12_goesOn_524 : decode cX12_goesOn 524 = .ok (.bipush 93, 2) := by decide +kernel
theorem dX12_goesOn_526 : decode cX12_goesOn 526 = .ok (.goto 5, 3) := by decide +kernel
theorem dX12_goesOn_529 : decode cX12_goesOn 529 = .ok (.bipush 41, 2) := by decide +kernel
theorem dX12_goesOn_531 : decode cX12_goesOn 531 = .ok (.invokevirtual 255, 3) := by decide +kernel
theorem dX12_goesOn_534 : decode cX12_goesOn 534 = .ok (.ifCond .ne 12, 3) := by decide +kernel
theorem dX12_goesOn_537 : decode cX12_goesOn 537 = .ok (.aload_n 0, 1) := by decide +kernel
theorem dX12_goesOn_538 : decode cX12_goesOn 538 = .ok (.iconst 1, 1) := by decide +kernel
theorem dX12_goesOn_539 : decode cX12_goesOn 539 = .ok (.aload_n 0, 1) := by decide +kernel
theorem dX12_goesOn_540 : decode cX12_goesOn 540 = .ok (.getfield 23, 3) := by decide +kernel
theorem dX12_goesOn_543 : decode cX12_goesOn 543 = .ok (.invokevirtual 237, 3) := by decide +kernel
theorem dX12_goesOn_546 : decode cX12_goesOn 546 = .ok (.aload_n 0, 1) := by decide +kernel
theorem dX12_goesOn_547 : decode cX12_goesOn 547 = .ok (.getfield 36, 3) := by decide +kernel
theorem dX12_goesOn_550 : decode cX12_goesOn 550 = .ok (.ifCond .le 5, 3) := by decide +kernel
theorem dX12_goesOn_553 : decode cX12_goesOn 553 = .ok (.iconst 0, 1) := by decide +kernel
theorem dX12_goesOn_554 : decode cX12_goesOn 554 = .ok (.ireturn, 1) := by decide +kernel
theorem dX12_goesOn_555 : decode cX12_goesOn 555 = .ok (.aload_n 0, 1) := by decide +kernel
theorem dX12_goesOn_556 : decode cX12_goesOn 556 = .ok (.iconst 1, 1) := by decide +kernel
theorem dX12_goesOn_557 : decode cX12_goesOn 557 = .ok (.invokevirtual 344, 3) := by decide +kernel
theorem dX12_goesOn_560 : decode cX12_goesOn 560 = .ok (.aload_n 0, 1) := by decide +kernel
theorem dX12_goesOn_561 : decode cX12_goesOn 561 = .ok (.dup, 1) := by decide +kernel
theorem dX12_goesOn_562 : decode cX12_goesOn 562 = .ok (.getfield 134, 3) := by decide +kernel
theorem dX12_goesOn_565 : decode cX12_goesOn 565 = .ok (.iconst 1, 1) := by decide +kernel
theorem dX12_goesOn_566 : decode cX12_goesOn 566 = .ok (.isub, 1) := by decide +kernel
theorem dX12_goesOn_567 : decode cX12_goesOn 567 = .ok (.putfield 134, 3) := by decide +kernel
theorem dX12_goesOn_570 : decode cX12_goesOn 570 = .ok (.aload_n 0, 1) := by decide +kernel
theorem dX12_goesOn_571 : decode cX12_goesOn 571 = .ok (.dup, 1) := by decide +kernel
theorem dX12_goesOn_572 : decode cX12_goesOn 572 = .ok (.getfield 137, 3) := by decide +kernel
theorem dX12_goesOn_575 : decode cX12_goesOn 575 = .ok (.iconst 1, 1) := by decide +kernel
theorem dX12_goesOn_576 : decode cX12_goesOn 576 = .ok (.isub, 1) := by decide +kernel
theorem dX12_goesOn_577 : decode cX12_goesOn 577 = .ok (.putfield 137, 3) := by decide +kernel
theorem dX12_goesOn_580 : decode cX12_goesOn 580 = .ok (.iload_n 2, 1) := by decide +kernel
theorem dX12_goesOn_581 : decode cX12_goesOn 581 = .ok (.iconst 4, 1) := by decide +kernel
theorem dX12_goesOn_582 : decode cX12_goesOn 582 = .ok (.if_icmp .ne 14, 3) := by decide +kernel
theorem dX12_goesOn_585 : decode cX12_goesOn 585 = .ok (.aload_n 0, 1) := by decide +kernel
theorem dX12_goesOn_586 : decode cX12_goesOn 586 = .ok (.aload_n 0, 1) := by decide +kernel
theorem dX12_goesOn_587 : decode cX12_goesOn 587 = .ok (.getfield 128, 3) := by decide +kernel
theorem dX12_goesOn_590 : decode cX12_goesOn 590 = .ok (.iload_n 1, 1) := by decide +kernel
theorem dX12_goesOn_591 : decode cX12_goesOn 591 = .ok (.iaload, 1) := by decide +kernel
theorem dX12_goesOn_592 : decode cX12_goesOn 592 = .ok (.iconst 0, 1) := by decide +kernel
theorem dX12_goesOn_593 : decode cX12_goesOn 593 = .ok (.invokevirtual 326, 3) := by decide +kernel
theorem dX12_goesOn_596 : decode cX12_goesOn 596 = .ok (.iload_n 2, 1) := by decide +kernel
theorem dX12_goesOn_597 : decode cX12_goesOn 597 = .ok (.iconst 5, 1) := by decide +kernel
theorem dX12_goesOn_598 : decode cX12_goesOn 598 = .ok (.if_icmp .ne 15, 3) := by decide +kernel
theorem dX12_goesOn_601 : decode cX12_goesOn 601 = .ok (.aload_n 0, 1) := by decide +kernel
theorem dX12_goesOn_602 : decode cX12_goesOn 602 = .ok (.getfield 121, 3) := by decide +kernel
theorem dX12_goesOn_605 : decode cX12_goesOn 605 = .ok (.aload_n 0, 1) := by decide +kernel
theorem dX12_goesOn_606 : decode cX12_goesOn 606 = .ok (.getfield 134, 3) := by decide +kernel
theorem dX12_goesOn_609 : decode cX12_goesOn 609 = .ok (.iconst 1, 1) := by decide +kernel
theorem dX12_goesOn_610 : decode cX12_goesOn 610 = .ok (.isub, 1) := by decide +kernel
theorem dX12_goesOn_611 : decode cX12_goesOn 611 = .ok (.iconst 2, 1) := by decide +kernel
theorem dX12_goesOn_612 : decode cX12_goesOn 612 = .ok (.iastore, 1) := by decide +kernel
theorem dX12_goesOn_613 : decode cX12_goesOn 613 = .ok (.aload_n 0, 1) := by decide +kernel
theorem dX12_goesOn_614 : decode cX12_goesOn 614 = .ok (.invokevirtual 258, 3) := by decide +kernel
theorem dX12_goesOn_617 : decode cX12_goesOn 617 = .ok (.iconst 1, 1) := by decide +kernel
theorem dX12_goesOn_618 : decode cX12_goesOn 618 = .ok (.ireturn, 1) := by decide +kernel
theorem dX12_reads_0 : decode cX12_reads 0 = .ok (.aload_n 0, 1) := by decide +kernel
theorem dX12_reads_1 : decode cX12_reads 1 = .ok (.getfield 36, 3) := by decide +kernel
theorem dX12_reads_4 : decode cX12_reads 4 = .ok (.ifCond .le 4, 3) := by decide +kernel
theorem dX12_reads_7 : decode cX12_reads 7 = .ok (.return_, 1) := by decide +kernel
theorem dX12_reads_8 : decode cX12_reads 8 = .ok (.aload_n 0, 1) := by decide +kernel
theorem dX12_reads_9 : decode cX12_reads 9 = .ok (.iconst 0, 1) := by decide +kernel
theorem dX12_reads_10 : decode cX12_reads 10 = .ok (.putfield 134, 3) := by decide +kernel
theorem dX12_reads_13 : decode cX12_reads 13 = .ok (.aload_n 0, 1) := by decide +kernel
theorem dX12_reads_14 : decode cX12_reads 14 = .ok (.iconst 0, 1) := by decide +kernel
theorem dX12_reads_15 : decode cX12_reads 15 = .ok (.putfield 137, 3) := by decide +kernel
theorem dX12_reads_18 : decode cX12_reads 18 = .ok (.aload_n 0, 1) := by decide +kernel
theorem dX12_reads_19 : decode cX12_reads 19 = .ok (.iconst 0, 1) := by decide +kernel
theorem dX12_reads_20 : decode cX12_reads 20 = .ok (.putfield 143, 3) := by decide +kernel
theorem dX12_reads_23 : decode cX12_reads 23 = .ok (.aload_n 0, 1) := by decide +kernel
theorem dX12_reads_24 : decode cX12_reads 24 = .ok (.iconst 0, 1) := by decide +kernel
theorem dX12_reads_25 : decode cX12_reads 25 = .ok (.putfield 146, 3) := by decide +kernel
theorem dX12_reads_28 : decode cX12_reads 28 = .ok (.aload_n 0, 1) := by decide +kernel
theorem dX12_reads_29 : decode cX12_reads 29 = .ok (.iload_n 1, 1) := by decide +kernel
theorem dX12_reads_30 : decode cX12_reads 30 = .ok (.ifCond .eq 7, 3) := by decide +kernel
theorem dX12_reads_33 : decode cX12_reads 33 = .ok (.iconst 1, 1) := by decide +kernel
theorem dX12_reads_34 : decode cX12_reads 34 = .ok (.goto 4, 3) := by decide +kernel
theorem dX12_reads_37 : decode cX12_reads 37 = .ok (.iconst 0, 1) := by decide +kernel
theorem dX12_reads_38 : decode cX12_reads 38 = .ok (.invokevirtual 329, 3) := by decide +kernel
theorem dX12_reads_41 : decode cX12_reads 41 = .ok (.iconst 1, 1) := by decide +kernel
theorem dX12_reads_42 : decode cX12_reads 42 = .ok (.istore_n 2, 1) := by decide +kernel
theorem dX12_reads_43 : decode cX12_reads 43 = .ok (.iload_n 2, 1) := by decide +kernel
theorem dX12_reads_44 : decode cX12_reads 44 = .ok (.ifCond .eq 46, 3) := by decide +kernel
theorem dX12_reads_47 : decode cX12_reads 47 = .ok (.aload_n 0, 1) := by decide +kernel
theorem dX12_reads_48 : decode cX12_reads 48 = .ok (.getfield 146, 3) := by decide +kernel
theorem dX12_reads_51 : decode cX12_reads 51 = .ok (.ifCond .ne 14, 3) := by decide +kernel
theorem dX12_reads_54 : decode cX12_reads 54 = .ok (.aload_n 0, 1) := by decide +kernel
theorem dX12_reads_55 : decode cX12_reads 55 = .ok (.aload_n 0, 1) := by decide +kernel
theorem dX12_reads_56 : decode cX12_reads 56 = .ok (.invokevirtual 347, 3) := by decide +kernel
theorem dX12_reads_59 : decode cX12_reads 59 = .ok (.putfield 146, 3) := by decide +kernel
theorem dX12_reads_62 : decode cX12_reads 62 = .ok (.goto 8, 3) := by decide +kernel
theorem dX12_reads_65 : decode cX12_reads 65 = .ok (.aload_n 0, 1) := by decide +kernel
theorem dX12_reads_66 : decode cX12_reads 66 = .ok (.invokevirtual 350, 3) := by decide +kernel
theorem dX12_reads_69 : decode cX12_reads 69 = .ok (.istore_n 2, 1) := by decide +kernel
theorem dX12_reads_70 : decode cX12_reads 70 = .ok (.iload_n 2, 1) := by decide +kernel
theorem dX12_reads_71 : decode cX12_reads 71 = .ok (.ifCond .eq 14, 3) := by decide +kernel
theorem dX12_reads_74 : decode cX12_reads 74 = .ok (.aload_n 0, 1) := by decide +kernel
theorem dX12_reads_75 : decode cX12_reads 75 = .ok (.getfield 36, 3) := by decide +kernel
theorem dX12_reads_78 : decode cX12_reads 78 = .ok (.ifCond .ne 7, 3) := by decide +kernel
theorem dX12_reads_81 : decode cX12_reads 81 = .ok (.iconst 1, 1) := by decide +kernel
theorem dX12_reads_82 : decode cX12_reads 82 = .ok (.goto 4, 3) := by decide +kernel
theorem dX12_reads_85 : decode cX12_reads 85 = .ok (.iconst 0, 1) := by decide +kernel
theorem dX12_reads_86 : decode cX12_reads 86 = .ok (.istore_n 2, 1) := by decide +kernel
theorem dX12_reads_87 : decode cX12_reads 87 = .ok (.goto (-44), 3) := by decide +kernel
theorem dX12_reads_90 : decode cX12_reads 90 = .ok (.return_, 1) := by decide +kernel
theorem dX12_counts_0 : decode cX12_counts 0 = .ok (.aload_n 0, 1) := by decide +kernel
theorem dX12_counts_1 : decode cX12_counts 1 = .ok (.getfield 36, 3) := by decide +kernel
theorem dX12_counts_4 : decode cX12_counts 4 = .ok (.ifCond .ne 17, 3) := by decide +kernel
theorem dX12_counts_7 : decode cX12_counts 7 = .ok (.iload_n 1, 1) := by decide +kernel
theorem dX12_counts_8 : decode cX12_counts 8 = .ok (.ifCond .eq 13, 3) := by decide +kernel
theorem dX12_counts_11 : decode cX12_counts 11 = .ok (.aload_n 0, 1) := by decide +kernel
theorem dX12_counts_12 : decode cX12_counts 12 = .ok (.bipush 6, 2) := by decide +kernel
theorem dX12_counts_14 : decode cX12_counts 14 = .ok (.aload_n 0, 1) := by decide +kernel
theorem dX12_counts_15 : decode cX12_counts 15 = .ok (.getfield 23, 3) := by decide +kernel
theorem dX12_counts_18 : decode cX12_counts 18 = .ok (.invokevirtual 237, 3) := by decide +kernel
theorem dX12_counts_21 : decode cX12_counts 21 = .ok (.aload_n 0, 1) := by decide +kernel
theorem dX12_counts_22 : decode cX12_counts 22 = .ok (.getfield 36, 3) := by decide +kernel
theorem dX12_counts_25 : decode cX12_counts 25 = .ok (.ifCond .ne 7, 3) := by decide +kernel
theorem dX12_counts_28 : decode cX12_counts 28 = .ok (.aload_n 0, 1) := by decide +kernel
theorem dX12_counts_29 : decode cX12_counts 29 = .ok (.invokevirtual 258, 3) := by decide +kernel
theorem dX12_counts_32 : decode cX12_counts 32 = .ok (.aload_n 0, 1) := by decide +kernel
theorem dX12_counts_33 : decode cX12_counts 33 = .ok (.getfield 36, 3) := by decide +kernel
theorem dX12_counts_36 : decode cX12_counts 36 = .ok (.ifCond .ne 7, 3) := by decide +kernel
theorem dX12_counts_39 : decode cX12_counts 39 = .ok (.iconst 1, 1) := by decide +kernel
theorem dX12_counts_40 : decode cX12_counts 40 = .ok (.goto 4, 3) := by decide +kernel
theorem dX12_counts_43 : decode cX12_counts 43 = .ok (.iconst 0, 1) := by decide +kernel
theorem dX12_counts_44 : decode cX12_counts 44 = .ok (.ireturn, 1) := by decide +kernel
theorem dX12_must__0 : decode cX12_must_ 0 = .ok (.aload_n 0, 1) := by decide +kernel
theorem dX12_must__1 : decode cX12_must_ 1 = .ok (.invokevirtual 252, 3) := by decide +kernel
theorem dX12_must__4 : decode cX12_must_ 4 = .ok (.aload_n 0, 1) := by decide +kernel
theorem dX12_must__5 : decode cX12_must_ 5 = .ok (.getfield 36, 3) := by decide +kernel
theorem dX12_must__8 : decode cX12_must_ 8 = .ok (.ifCond .le 4, 3) := by decide +kernel
theorem dX12_must__11 : decode cX12_must_ 11 = .ok (.return_, 1) := by decide +kernel
theorem dX12_must__12 : decode cX12_must_ 12 = .ok (.aload_n 0, 1) := by decide +kernel
theorem dX12_must__13 : decode cX12_must_ 13 = .ok (.lload_n 1, 1) := by decide +kernel
theorem dX12_must__14 : decode cX12_must_ 14 = .ok (.invokevirtual 335, 3) := by decide +kernel
theorem dX12_must__17 : decode cX12_must_ 17 = .ok (.ifCond .ne 12, 3) := by decide +kernel
theorem dX12_must__20 : decode cX12_must_ 20 = .ok (.aload_n 0, 1) := by decide +kernel
theorem dX12_must__21 : decode cX12_must_ 21 = .ok (.iconst 1, 1) := by decide +kernel
theorem dX12_must__22 : decode cX12_must_ 22 = .ok (.aload_n 0, 1) := by decide +kernel
theorem dX12_must__23 : decode cX12_must_ 23 = .ok (.getfield 23, 3) := by decide +kernel
theorem dX12_must__26 : decode cX12_must_ 26 = .ok (.invokevirtual 237, 3) := by decide +kernel
theorem dX12_must__29 : decode cX12_must_ 29 = .ok (.aload_n 0, 1) := by decide +kernel
theorem dX12_must__30 : decode cX12_must_ 30 = .ok (.getfield 36, 3) := by decide +kernel
theorem dX12_must__33 : decode cX12_must_ 33 = .ok (.ifCond .ne 7, 3) := by decide +kernel
theorem dX12_must__36 : decode cX12_must_ 36 = .ok (.aload_n 0, 1) := by decide +kernel
theorem dX12_must__37 : decode cX12_must_ 37 = .ok (.invokevirtual 258, 3) := by decide +kernel
theorem dX12_must__40 : decode cX12_must_ 40 = .ok (.return_, 1) := by decide +kernel
theorem dX12_fresh_0 : decode cX12_fresh 0 = .ok (.aload_n 0, 1) := by decide +kernel
theorem dX12_fresh_1 : decode cX12_fresh 1 = .ok (.invokevirtual 252, 3) := by decide +kernel
theorem dX12_fresh_4 : decode cX12_fresh 4 = .ok (.aload_n 0, 1) := by decide +kernel
theorem dX12_fresh_5 : decode cX12_fresh 5 = .ok (.getfield 36, 3) := by decide +kernel
theorem dX12_fresh_8 : decode cX12_fresh 8 = .ok (.ifCond .le 5, 3) := by decide +kernel
theorem dX12_fresh_11 : decode cX12_fresh 11 = .ok (.lconst 0, 1) := by decide +kernel
theorem dX12_fresh_12 : decode cX12_fresh 12 = .ok (.lreturn, 1) := by decide +kernel
theorem dX12_fresh_13 : decode cX12_fresh 13 = .ok (.aload_n 0, 1) := by decide +kernel
theorem dX12_fresh_14 : decode cX12_fresh 14 = .ok (.getfield 20, 3) := by decide +kernel
theorem dX12_fresh_17 : decode cX12_fresh 17 = .ok (.iconst 1, 1) := by decide +kernel
theorem dX12_fresh_18 : decode cX12_fresh 18 = .ok (.if_icmp .ne 14, 3) := by decide +kernel
theorem dX12_fresh_21 : decode cX12_fresh 21 = .ok (.aload_n 0, 1) := by decide +kernel
theorem dX12_fresh_22 : decode cX12_fresh 22 = .ok (.aload_n 0, 1) := by decide +kernel
theorem dX12_fresh_23 : decode cX12_fresh 23 = .ok (.getfield 32, 3) := by decide +kernel
theorem dX12_fresh_26 : decode cX12_fresh 26 = .ok (.invokevirtual 248, 3) := by decide +kernel
theorem dX12_fresh_29 : decode cX12_fresh 29 = .ok (.ifCond .eq 12, 3) := by decide +kernel
theorem dX12_fresh_32 : decode cX12_fresh 32 = .ok (.aload_n 0, 1) := by decide +kernel
theorem dX12_fresh_33 : decode cX12_fresh 33 = .ok (.iconst 1, 1) := by decide +kernel
theorem dX12_fresh_34 : decode cX12_fresh 34 = .ok (.aload_n 0, 1) := by decide +kernel
theorem dX12_fresh_35 : decode cX12_fresh 35 = .ok (.getfield 23, 3) := by decide +kernel
theorem dX12_fresh_38 : decode cX12_fresh 38 = .ok (.invokevirtual 237, 3) := by decide +kernel
theorem dX12_fresh_41 : decode cX12_fresh 41 = .ok (.iconst 0, 1) := by decide +kernel
theorem dX12_fresh_42 : decode cX12_fresh 42 = .ok (.istore_n 1, 1) := by decide +kernel
theorem dX12_fresh_43 : decode cX12_fresh 43 = .ok (.iload_n 1, 1) := by decide +kernel
theorem dX12_fresh_44 : decode cX12_fresh 44 = .ok (.iconst 2, 1) := by decide +kernel
theorem dX12_fresh_45 : decode cX12_fresh 45 = .ok (.if_icmp .gt 38, 3) := by decide +kernel
theorem dX12_fresh_48 : decode cX12_fresh 48 = .ok (.aload_n 0, 1) := by decide +kernel
theorem dX12_fresh_49 : decode cX12_fresh 49 = .ok (.getfield 36, 3) := by decide +kernel
theorem dX12_fresh_52 : decode cX12_fresh 52 = .ok (.ifCond .ne 31, 3) := by decide +kernel
theorem dX12_fresh_55 : decode cX12_fresh 55 = .ok (.aload_n 0, 1) := by decide +kernel
theorem dX12_fresh_56 : decode cX12_fresh 56 = .ok (.iload_n 1, 1) := by decide +kernel
theorem dX12_fresh_57 : decode cX12_fresh 57 = .ok (.aload_n 0, 1) := by decide +kernel
theorem dX12_fresh_58 : decode cX12_fresh 58 = .ok (.getfield 32, 3) := by decide +kernel
theorem dX12_fresh_61 : decode cX12_fresh 61 = .ok (.invokevirtual 353, 3) := by decide +kernel
theorem dX12_fresh_64 : decode cX12_fresh 64 = .ok (.iconst (-1), 1) := by decide +kernel
theorem dX12_fresh_65 : decode cX12_fresh 65 = .ok (.if_icmp .eq 12, 3) := by decide +kernel
theorem dX12_fresh_68 : decode cX12_fresh 68 = .ok (.aload_n 0, 1) := by decide +kernel
theorem dX12_fresh_69 : decode cX12_fresh 69 = .ok (.iconst 2, 1) := by decide +kernel
theorem dX12_fresh_70 : decode cX12_fresh 70 = .ok (.aload_n 0, 1) := by decide +kernel
theorem dX12_fresh_71 : decode cX12_fresh 71 = .ok (.getfield 23, 3) := by decide +kernel
theorem dX12_fresh_74 : decode cX12_fresh 74 = .ok (.invokevirtual 237, 3) := by decide +kernel
theorem dX12_fresh_77 : decode cX12_fresh 77 = .ok (.iinc 1 1, 3) := by decide +kernel
theorem dX12_fresh_80 : decode cX12_fresh 80 = .ok (.goto (-37), 3) := by decide +kernel
theorem dX12_fresh_83 : decode cX12_fresh 83 = .ok (.aload_n 0, 1) := by decide +kernel
theorem dX12_fresh_84 : decode cX12_fresh 84 = .ok (.getfield 32, 3) := by decide +kernel
theorem dX12_fresh_87 : decode cX12_fresh 87 = .ok (.lstore_n 1, 1) := by decide +kernel
theorem dX12_fresh_88 : decode cX12_fresh 88 = .ok (.aload_n 0, 1) := by decide +kernel
theorem dX12_fresh_89 : decode cX12_fresh 89 = .ok (.getfield 36, 3) := by decide +kernel
theorem dX12_fresh_92 : decode cX12_fresh 92 = .ok (.ifCond .ne 7, 3) := by decide +kernel
theorem dX12_fresh_95 : decode cX12_fresh 95 = .ok (.aload_n 0, 1) := by decide +kernel
theorem dX12_fresh_96 : decode cX12_fresh 96 = .ok (.invokevirtual 258, 3) := by decide +kernel
theorem dX12_fresh_99 : decode cX12_fresh 99 = .ok (.lload_n 1, 1) := by decide +kernel
theorem dX12_fresh_100 : decode cX12_fresh 100 = .ok (.lreturn, 1) := by decide +kernel
theorem dX12_askedBut_0 : decode cX12_askedBut 0 = .ok (.aload_n 0, 1) := by decide +kernel
theorem dX12_askedBut_1 : decode cX12_askedBut 1 = .ok (.invokevirtual 252, 3) := by decide +kernel
theorem dX12_askedBut_4 : decode cX12_askedBut 4 = .ok (.aload_n 0, 1) := by decide +kernel
theorem dX12_askedBut_5 : decode cX12_askedBut 5 = .ok (.getfield 36, 3) := by decide +kernel
theorem dX12_askedBut_8 : decode cX12_askedBut 8 = .ok (.ifCond .le 5, 3) := by decide +kernel
theorem dX12_askedBut_11 : decode cX12_askedBut 11 = .ok (.iconst 0, 1) := by decide +kernel
theorem dX12_askedBut_12 : decode cX12_askedBut 12 = .ok (.ireturn, 1) := by decide +kernel
theorem dX12_askedBut_13 : decode cX12_askedBut 13 = .ok (.aload_n 0, 1) := by decide +kernel
theorem dX12_askedBut_14 : decode cX12_askedBut 14 = .ok (.getfield 20, 3) := by decide +kernel
theorem dX12_askedBut_17 : decode cX12_askedBut 17 = .ok (.iconst 1, 1) := by decide +kernel
theorem dX12_askedBut_18 : decode cX12_askedBut 18 = .ok (.if_icmp .ne 14, 3) := by decide +kernel
theorem dX12_askedBut_21 : decode cX12_askedBut 21 = .ok (.aload_n 0, 1) := by decide +kernel
theorem dX12_askedBut_22 : decode cX12_askedBut 22 = .ok (.aload_n 0, 1) := by decide +kernel
theorem dX12_askedBut_23 : decode cX12_askedBut 23 = .ok (.getfield 32, 3) := by decide +kernel
theorem dX12_askedBut_26 : decode cX12_askedBut 26 = .ok (.invokevirtual 248, 3) := by decide +kernel
theorem dX12_askedBut_29 : decode cX12_askedBut 29 = .ok (.ifCond .eq 12, 3) := by decide +kernel
theorem dX12_askedBut_32 : decode cX12_askedBut 32 = .ok (.aload_n 0, 1) := by decide +kernel
theorem dX12_askedBut_33 : decode cX12_askedBut 33 = .ok (.iconst 1, 1) := by decide +kernel
theorem dX12_askedBut_34 : decode cX12_askedBut 34 = .ok (.aload_n 0, 1) := by decide +kernel
theorem dX12_askedBut_35 : decode cX12_askedBut 35 = .ok (.getfield 23, 3) := by decide +kernel
theorem dX12_askedBut_38 : decode cX12_askedBut 38 = .ok (.invokevirtual 237, 3) := by decide +kernel
theorem dX12_askedBut_41 : decode cX12_askedBut 41 = .ok (.aload_n 0, 1) := by decide +kernel
theorem dX12_askedBut_42 : decode cX12_askedBut 42 = .ok (.getfield 36, 3) := by decide +kernel
theorem dX12_askedBut_45 : decode cX12_askedBut 45 = .ok (.ifCond .le 7, 3) := by decide +kernel
theorem dX12_askedBut_48 : decode cX12_askedBut 48 = .ok (.iconst 0, 1) := by decide +kernel
theorem dX12_askedBut_49 : decode cX12_askedBut 49 = .ok (.goto 12, 3) := by decide +kernel
theorem dX12_askedBut_52 : decode cX12_askedBut 52 = .ok (.aload_n 0, 1) := by decide +kernel
theorem dX12_askedBut_53 : decode cX12_askedBut 53 = .ok (.iload_n 1, 1) := by decide +kernel
theorem dX12_askedBut_54 : decode cX12_askedBut 54 = .ok (.aload_n 0, 1) := by decide +kernel
theorem dX12_askedBut_55 : decode cX12_askedBut 55 = .ok (.getfield 32, 3) := by decide +kernel
theorem dX12_askedBut_58 : decode cX12_askedBut 58 = .ok (.invokevirtual 353, 3) := by decide +kernel
theorem dX12_askedBut_61 : decode cX12_askedBut 61 = .ok (.istore_n 3, 1) := by decide +kernel
theorem dX12_askedBut_62 : decode cX12_askedBut 62 = .ok (.aload_n 0, 1) := by decide +kernel
theorem dX12_askedBut_63 : decode cX12_askedBut 63 = .ok (.getfield 36, 3) := by decide +kernel
theorem dX12_askedBut_66 : decode cX12_askedBut 66 = .ok (.ifCond .ne 25, 3) := by decide +kernel
theorem dX12_askedBut_69 : decode cX12_askedBut 69 = .ok (.iload_n 3, 1) := by decide +kernel
theorem dX12_askedBut_70 : decode cX12_askedBut 70 = .ok (.iconst (-1), 1) := by decide +kernel
theorem dX12_askedBut_71 : decode cX12_askedBut 71 = .ok (.if_icmp .eq 11, 3) := by decide +kernel
theorem dX12_askedBut_74 : decode cX12_askedBut 74 = .ok (.iload_n 2, 1) := by decide +kernel
theorem dX12_askedBut_75 : decode cX12_askedBut 75 = .ok (.iload_n 3, 1) := by decide +kernel
theorem dX12_askedBut_76 : decode cX12_askedBut 76 = .ok (.invokestatic 357, 3) := by decide +kernel
theorem dX12_askedBut_79 : decode cX12_askedBut 79 = .ok (.ifCond .eq 12, 3) := by decide +kernel
theorem dX12_askedBut_82 : decode cX12_askedBut 82 = .ok (.aload_n 0, 1) := by decide +kernel
theorem dX12_askedBut_83 : decode cX12_askedBut 83 = .ok (.iconst 3, 1) := by decide +kernel
theorem dX12_askedBut_84 : decode cX12_askedBut 84 = .ok (.aload_n 0, 1) := by decide +kernel
theorem dX12_askedBut_85 : decode cX12_askedBut 85 = .ok (.getfield 23, 3) := by decide +kernel
theorem dX12_askedBut_88 : decode cX12_askedBut 88 = .ok (.invokevirtual 237, 3) := by decide +kernel
theorem dX12_askedBut_91 : decode cX12_askedBut 91 = .ok (.aload_n 0, 1) := by decide +kernel
theorem dX12_askedBut_92 : decode cX12_askedBut 92 = .ok (.getfield 36, 3) := by decide +kernel
theorem dX12_askedBut_95 : decode cX12_askedBut 95 = .ok (.ifCond .ne 7, 3) := by decide +kernel
theorem dX12_askedBut_98 : decode cX12_askedBut 98 = .ok (.aload_n 0, 1) := by decide +kernel
theorem dX12_askedBut_99 : decode cX12_askedBut 99 = .ok (.invokevirtual 258, 3) := by decide +kernel
theorem dX12_askedBut_102 : decode cX12_askedBut 102 = .ok (.aload_n 0, 1) := by decide +kernel
theorem dX12_askedBut_103 : decode cX12_askedBut 103 = .ok (.getfield 36, 3) := by decide +kernel
theorem dX12_askedBut_106 : decode cX12_askedBut 106 = .ok (.ifCond .le 7, 3) := by decide +kernel
theorem dX12_askedBut_109 : decode cX12_askedBut 109 = .ok (.iconst 0, 1) := by decide +kernel
theorem dX12_askedBut_110 : decode cX12_askedBut 110 = .ok (.goto 4, 3) := by decide +kernel
theorem dX12_askedBut_113 : decode cX12_askedBut 113 = .ok (.iload_n 3, 1) := by decide +kernel
theorem dX12_askedBut_114 : decode cX12_askedBut 114 = .ok (.ireturn, 1) := by decide +kernel
theorem dX12_has2_0 : decode cX12_has2 0 = .ok (.iload_n 0, 1) := by decide +kernel
theorem dX12_has2_1 : decode cX12_has2 1 = .ok (.iload_n 1, 1) := by decide +kernel
theorem dX12_has2_2 : decode cX12_has2 2 = .ok (.ishr, 1) := by decide +kernel
theorem dX12_has2_3 : decode cX12_has2 3 = .ok (.iconst 1, 1) := by decide +kernel
theorem dX12_has2_4 : decode cX12_has2 4 = .ok (.iand, 1) := by decide +kernel
theorem dX12_has2_5 : decode cX12_has2 5 = .ok (.iconst 1, 1) := by decide +kernel
theorem dX12_has2_6 : decode cX12_has2 6 = .ok (.if_icmp .ne 7, 3) := by decide +kernel
theorem dX12_has2_9 : decode cX12_has2 9 = .ok (.iconst 1, 1) := by decide +kernel
theorem dX12_has2_10 : decode cX12_has2 10 = .ok (.goto 4, 3) := by decide +kernel
theorem dX12_has2_13 : decode cX12_has2 13 = .ok (.iconst 0, 1) := by decide +kernel
theorem dX12_has2_14 : decode cX12_has2 14 = .ok (.ireturn, 1) := by decide +kernel
theorem dX12_hollowing_0 : decode cX12_hollowing 0 = .ok (.aload_n 0, 1) := by decide +kernel
theorem dX12_hollowing_1 : decode cX12_hollowing 1 = .ok (.aload_n 0, 1) := by decide +kernel
theorem dX12_hollowing_2 : decode cX12_hollowing 2 = .ok (.getfield 54, 3) := by decide +kernel
theorem dX12_hollowing_5 : decode cX12_hollowing 5 = .ok (.aload_n 0, 1) := by decide +kernel
theorem dX12_hollowing_6 : decode cX12_hollowing 6 = .ok (.getfield 112, 3) := by decide +kernel
theorem dX12_hollowing_9 : decode cX12_hollowing 9 = .ok (.iaload, 1) := by decide +kernel
theorem dX12_hollowing_10 : decode cX12_hollowing 10 = .ok (.bipush 8, 2) := by decide +kernel
theorem dX12_hollowing_12 : decode cX12_hollowing 12 = .ok (.if_icmp .ne 7, 3) := by decide +kernel
theorem dX12_hollowing_15 : decode cX12_hollowing 15 = .ok (.iconst 1, 1) := by decide +kernel
theorem dX12_hollowing_16 : decode cX12_hollowing 16 = .ok (.goto 4, 3) := by decide +kernel
theorem dX12_hollowing_19 : decode cX12_hollowing 19 = .ok (.iconst 0, 1) := by decide +kernel
theorem dX12_hollowing_20 : decode cX12_hollowing 20 = .ok (.invokevirtual 361, 3) := by decide +kernel
theorem dX12_hollowing_23 : decode cX12_hollowing 23 = .ok (.ifCond .ne 4, 3) := by decide +kernel
theorem dX12_hollowing_26 : decode cX12_hollowing 26 = .ok (.return_, 1) := by decide +kernel
theorem dX12_hollowing_27 : decode cX12_hollowing 27 = .ok (.bipush 8, 2) := by decide +kernel
theorem dX12_hollowing_29 : decode cX12_hollowing 29 = .ok (.aload_n 0, 1) := by decide +kernel
theorem dX12_hollowing_30 : decode cX12_hollowing 30 = .ok (.getfield 112, 3) := by decide +kernel
theorem dX12_hollowing_33 : decode cX12_hollowing 33 = .ok (.imul, 1) := by decide +kernel
theorem dX12_hollowing_34 : decode cX12_hollowing 34 = .ok (.aload_n 0, 1) := by decide +kernel
theorem dX12_hollowing_35 : decode cX12_hollowing 35 = .ok (.getfield 54, 3) := by decide +kernel
theorem dX12_hollowing_38 : decode cX12_hollowing 38 = .ok (.aload_n 0, 1) := by decide +kernel
theorem dX12_hollowing_39 : decode cX12_hollowing 39 = .ok (.getfield 112, 3) := by decide +kernel
theorem dX12_hollowing_42 : decode cX12_hollowing 42 = .ok (.iaload, 1) := by decide +kernel
theorem dX12_hollowing_43 : decode cX12_hollowing 43 = .ok (.iadd, 1) := by decide +kernel
theorem dX12_hollowing_44 : decode cX12_hollowing 44 = .ok (.istore_n 1, 1) := by decide +kernel
theorem dX12_hollowing_45 : decode cX12_hollowing 45 = .ok (.aload_n 0, 1) := by decide +kernel
theorem dX12_hollowing_46 : decode cX12_hollowing 46 = .ok (.getfield 99, 3) := by decide +kernel
theorem dX12_hollowing_49 : decode cX12_hollowing 49 = .ok (.iload_n 1, 1) := by decide +kernel
theorem dX12_hollowing_50 : decode cX12_hollowing 50 = .ok (.aload_n 0, 1) := by decide +kernel
theorem dX12_hollowing_51 : decode cX12_hollowing 51 = .ok (.invokevirtual 365, 3) := by decide +kernel
theorem dX12_hollowing_54 : decode cX12_hollowing 54 = .ok (.lastore, 1) := by decide +kernel
theorem dX12_hollowing_55 : decode cX12_hollowing 55 = .ok (.aload_n 0, 1) := by decide +kernel
theorem dX12_hollowing_56 : decode cX12_hollowing 56 = .ok (.ldc2_w 263, 3) := by decide +kernel
theorem dX12_hollowing_59 : decode cX12_hollowing 59 = .ok (.invokevirtual 369, 3) := by decide +kernel
theorem dX12_hollowing_62 : decode cX12_hollowing 62 = .ok (.aload_n 0, 1) := by decide +kernel
theorem dX12_hollowing_63 : decode cX12_hollowing 63 = .ok (.getfield 57, 3) := by decide +kernel
theorem dX12_hollowing_66 : decode cX12_hollowing 66 = .ok (.iload_n 1, 1) := by decide +kernel
theorem dX12_hollowing_67 : decode cX12_hollowing 67 = .ok (.aload_n 0, 1) := by decide +kernel
theorem dX12_hollowing_68 : decode cX12_hollowing 68 = .ok (.iconst 1, 1) := by decide +kernel
theorem dX12_hollowing_69 : decode cX12_hollowing 69 = .ok (.sipush 999, 3) := by decide +kernel
theorem dX12_hollowing_72 : decode cX12_hollowing 72 = .ok (.invokevirtual 373, 3) := by decide +kernel
theorem dX12_hollowing_75 : decode cX12_hollowing 75 = .ok (.iastore, 1) := by decide +kernel
theorem dX12_hollowing_76 : decode cX12_hollowing 76 = .ok (.aload_n 0, 1) := by decide +kernel
theorem dX12_hollowing_77 : decode cX12_hollowing 77 = .ok (.ldc2_w 265, 3) := by decide +kernel
theorem dX12_hollowing_80 : decode cX12_hollowing 80 = .ok (.invokevirtual 369, 3) := by decide +kernel
theorem dX12_hollowing_83 : decode cX12_hollowing 83 = .ok (.aload_n 0, 1) := by decide +kernel
theorem dX12_hollowing_84 : decode cX12_hollowing 84 = .ok (.getfield 60, 3) := by decide +kernel
theorem dX12_hollowing_87 : decode cX12_hollowing 87 = .ok (.iload_n 1, 1) := by decide +kernel
theorem dX12_hollowing_88 : decode cX12_hollowing 88 = .ok (.aload_n 0, 1) := by decide +kernel
theorem dX12_hollowing_89 : decode cX12_hollowing 89 = .ok (.iconst 0, 1) := by decide +kernel
theorem dX12_hollowing_90 : decode cX12_hollowing 90 = .ok (.bipush 99, 2) := by decide +kernel
theorem dX12_hollowing_92 : decode cX12_hollowing 92 = .ok (.invokevirtual 373, 3) := by decide +kernel
theorem dX12_hollowing_95 : decode cX12_hollowing 95 = .ok (.iastore, 1) := by decide +kernel
theorem dX12_hollowing_96 : decode cX12_hollowing 96 = .ok (.aload_n 0, 1) := by decide +kernel
theorem dX12_hollowing_97 : decode cX12_hollowing 97 = .ok (.getfield 36, 3) := by decide +kernel
theorem dX12_hollowing_100 : decode cX12_hollowing 100 = .ok (.ifCond .ne 16, 3) := by decide +kernel
theorem dX12_hollowing_103 : decode cX12_hollowing 103 = .ok (.aload_n 0, 1) := by decide +kernel
theorem dX12_hollowing_104 : decode cX12_hollowing 104 = .ok (.getfield 54, 3) := by decide +kernel
theorem dX12_hollowing_107 : decode cX12_hollowing 107 = .ok (.aload_n 0, 1) := by decide +kernel
theorem dX12_hollowing_108 : decode cX12_hollowing 108 = .ok (.getfield 112, 3) := by decide +kernel
theorem dX12_hollowing_111 : decode cX12_hollowing 111 = .ok (.dup2, 1) := by decide +kernel
theorem dX12_hollowing_112 : decode cX12_hollowing 112 = .ok (.iaload, 1) := by decide +kernel
theorem dX12_hollowing_113 : decode cX12_hollowing 113 = .ok (.iconst 1, 1) := by decide +kernel
theorem dX12_hollowing_114 : decode cX12_hollowing 114 = .ok (.iadd, 1) := by decide +kernel
theorem dX12_hollowing_115 : decode cX12_hollowing 115 = .ok (.iastore, 1) := by decide +kernel
theorem dX12_hollowing_116 : decode cX12_hollowing 116 = .ok (.return_, 1) := by decide +kernel
theorem dX12_owning_0 : decode cX12_owning 0 = .ok (.aload_n 0, 1) := by decide +kernel
theorem dX12_owning_1 : decode cX12_owning 1 = .ok (.aload_n 0, 1) := by decide +kernel
theorem dX12_owning_2 : decode cX12_owning 2 = .ok (.getfield 63, 3) := by decide +kernel
theorem dX12_owning_5 : decode cX12_owning 5 = .ok (.aload_n 0, 1) := by decide +kernel
theorem dX12_owning_6 : decode cX12_owning 6 = .ok (.getfield 112, 3) := by decide +kernel
theorem dX12_owning_9 : decode cX12_owning 9 = .ok (.iaload, 1) := by decide +kernel
theorem dX12_owning_10 : decode cX12_owning 10 = .ok (.bipush 6, 2) := by decide +kernel
theorem dX12_owning_12 : decode cX12_owning 12 = .ok (.if_icmp .ne 7, 3) := by decide +kernel
theorem dX12_owning_15 : decode cX12_owning 15 = .ok (.iconst 1, 1) := by decide +kernel
theorem dX12_owning_16 : decode cX12_owning 16 = .ok (.goto 4, 3) := by decide +kernel
theorem dX12_owning_19 : decode cX12_owning 19 = .ok (.iconst 0, 1) := by decide +kernel
theorem dX12_owning_20 : decode cX12_owning 20 = .ok (.invokevirtual 361, 3) := by decide +kernel
theorem dX12_owning_23 : decode cX12_owning 23 = .ok (.ifCond .ne 4, 3) := by decide +kernel
theorem dX12_owning_26 : decode cX12_owning 26 = .ok (.return_, 1) := by decide +kernel
theorem dX12_owning_27 : decode cX12_owning 27 = .ok (.bipush 6, 2) := by decide +kernel
theorem dX12_owning_29 : decode cX12_owning 29 = .ok (.aload_n 0, 1) := by decide +kernel
theorem dX12_owning_30 : decode cX12_owning 30 = .ok (.getfield 112, 3) := by decide +kernel
theorem dX12_owning_33 : decode cX12_owning 33 = .ok (.imul, 1) := by decide +kernel
theorem dX12_owning_34 : decode cX12_owning 34 = .ok (.aload_n 0, 1) := by decide +kernel
theorem dX12_owning_35 : decode cX12_owning 35 = .ok (.getfield 63, 3) := by decide +kernel
theorem dX12_owning_38 : decode cX12_owning 38 = .ok (.aload_n 0, 1) := by decide +kernel
theorem dX12_owning_39 : decode cX12_owning 39 = .ok (.getfield 112, 3) := by decide +kernel
theorem dX12_owning_42 : decode cX12_owning 42 = .ok (.iaload, 1) := by decide +kernel
theorem dX12_owning_43 : decode cX12_owning 43 = .ok (.iadd, 1) := by decide +kernel
theorem dX12_owning_44 : decode cX12_owning 44 = .ok (.istore_n 1, 1) := by decide +kernel
theorem dX12_owning_45 : decode cX12_owning 45 = .ok (.aload_n 0, 1) := by decide +kernel
theorem dX12_owning_46 : decode cX12_owning 46 = .ok (.getfield 103, 3) := by decide +kernel
theorem dX12_owning_49 : decode cX12_owning 49 = .ok (.iload_n 1, 1) := by decide +kernel
theorem dX12_owning_50 : decode cX12_owning 50 = .ok (.aload_n 0, 1) := by decide +kernel
theorem dX12_owning_51 : decode cX12_owning 51 = .ok (.invokevirtual 365, 3) := by decide +kernel
theorem dX12_owning_54 : decode cX12_owning 54 = .ok (.lastore, 1) := by decide +kernel
theorem dX12_owning_55 : decode cX12_owning 55 = .ok (.iconst 0, 1) := by decide +kernel
theorem dX12_owning_56 : decode cX12_owning 56 = .ok (.istore_n 2, 1) := by decide +kernel
theorem dX12_owning_57 : decode cX12_owning 57 = .ok (.iload_n 2, 1) := by decide +kernel
theorem dX12_owning_58 : decode cX12_owning 58 = .ok (.bipush 6, 2) := by decide +kernel
theorem dX12_owning_60 : decode cX12_owning 60 = .ok (.if_icmp .ge 49, 3) := by decide +kernel
theorem dX12_owning_63 : decode cX12_owning 63 = .ok (.aload_n 0, 1) := by decide +kernel
theorem dX12_owning_64 : decode cX12_owning 64 = .ok (.getfield 78, 3) := by decide +kernel
theorem dX12_owning_67 : decode cX12_owning 67 = .ok (.bipush 6, 2) := by decide +kernel
theorem dX12_owning_69 : decode cX12_owning 69 = .ok (.iload_n 1, 1) := by decide +kernel
theorem dX12_owning_70 : decode cX12_owning 70 = .ok (.imul, 1) := by decide +kernel
theorem dX12_owning_71 : decode cX12_owning 71 = .ok (.iload_n 2, 1) := by decide +kernel
theorem dX12_owning_72 : decode cX12_owning 72 = .ok (.iadd, 1) := by decide +kernel
theorem dX12_owning_73 : decode cX12_owning 73 = .ok (.iconst 0, 1) := by decide +kernel
theorem dX12_owning_74 : decode cX12_owning 74 = .ok (.iastore, 1) := by decide +kernel
theorem dX12_owning_75 : decode cX12_owning 75 = .ok (.aload_n 0, 1) := by decide +kernel
theorem dX12_owning_76 : decode cX12_owning 76 = .ok (.getfield 78, 3) := by decide +kernel
theorem dX12_owning_79 : decode cX12_owning 79 = .ok (.bipush 6, 2) := by decide +kernel
theorem dX12_owning_81 : decode cX12_owning 81 = .ok (.bipush 6, 2) := by decide +kernel
theorem dX12_owning_83 : decode cX12_owning 83 = .ok (.aload_n 0, 1) := by decide +kernel
theorem dX12_owning_84 : decode cX12_owning 84 = .ok (.getfield 112, 3) := by decide +kernel
theorem dX12_owning_87 : decode cX12_owning 87 = .ok (.imul, 1) := by decide +kernel
theorem dX12_owning_88 : decode cX12_owning 88 = .ok (.iload_n 2, 1) := by decide +kernel
theorem dX12_owning_89 : decode cX12_owning 89 = .ok (.iadd, 1) := by decide +kernel
theorem dX12_owning_90 : decode cX12_owning 90 = .ok (.imul, 1) := by decide +kernel
theorem dX12_owning_91 : decode cX12_owning 91 = .ok (.aload_n 0, 1) := by decide +kernel
theorem dX12_owning_92 : decode cX12_owning 92 = .ok (.getfield 63, 3) := by decide +kernel
theorem dX12_owning_95 : decode cX12_owning 95 = .ok (.aload_n 0, 1) := by decide +kernel
theorem dX12_owning_96 : decode cX12_owning 96 = .ok (.getfield 112, 3) := by decide +kernel
theorem dX12_owning_99 : decode cX12_owning 99 = .ok (.iaload, 1) := by decide +kernel
theorem dX12_owning_100 : decode cX12_owning 100 = .ok (.iadd, 1) := by decide +kernel
theorem dX12_owning_101 : decode cX12_owning 101 = .ok (.iconst 0, 1) := by decide +kernel
theorem dX12_owning_102 : decode cX12_owning 102 = .ok (.iastore, 1) := by decide +kernel
theorem dX12_owning_103 : decode cX12_owning 103 = .ok (.iinc 2 1, 3) := by decide +kernel
theorem dX12_owning_106 : decode cX12_owning 106 = .ok (.goto (-49), 3) := by decide +kernel
theorem dX12_owning_109 : decode cX12_owning 109 = .ok (.aload_n 0, 1) := by decide +kernel
theorem dX12_owning_110 : decode cX12_owning 110 = .ok (.getfield 36, 3) := by decide +kernel
theorem dX12_owning_113 : decode cX12_owning 113 = .ok (.ifCond .ne 16, 3) := by decide +kernel
theorem dX12_owning_116 : decode cX12_owning 116 = .ok (.aload_n 0, 1) := by decide +kernel
theorem dX12_owning_117 : decode cX12_owning 117 = .ok (.getfield 63, 3) := by decide +kernel
theorem dX12_owning_120 : decode cX12_owning 120 = .ok (.aload_n 0, 1) := by decide +kernel
theorem dX12_owning_121 : decode cX12_owning 121 = .ok (.getfield 112, 3) := by decide +kernel
theorem dX12_owning_124 : decode cX12_owning 124 = .ok (.dup2, 1) := by decide +kernel
theorem dX12_owning_125 : decode cX12_owning 125 = .ok (.iaload, 1) := by decide +kernel
theorem dX12_owning_126 : decode cX12_owning 126 = .ok (.iconst 1, 1) := by decide +kernel
theorem dX12_owning_127 : decode cX12_owning 127 = .ok (.iadd, 1) := by decide +kernel
theorem dX12_owning_128 : decode cX12_owning 128 = .ok (.iastore, 1) := by decide +kernel
theorem dX12_owning_129 : decode cX12_owning 129 = .ok (.return_, 1) := by decide +kernel
theorem dX12_without_0 : decode cX12_without 0 = .ok (.iconst 0, 1) := by decide +kernel
theorem dX12_without_1 : decode cX12_without 1 = .ok (.istore_n 2, 1) := by decide +kernel
theorem dX12_without_2 : decode cX12_without 2 = .ok (.iconst 0, 1) := by decide +kernel
theorem dX12_without_3 : decode cX12_without 3 = .ok (.istore_n 3, 1) := by decide +kernel
theorem dX12_without_4 : decode cX12_without 4 = .ok (.iload_n 3, 1) := by decide +kernel
theorem dX12_without_5 : decode cX12_without 5 = .ok (.aload_n 0, 1) := by decide +kernel
theorem dX12_without_6 : decode cX12_without 6 = .ok (.getfield 54, 3) := by decide +kernel
theorem dX12_without_9 : decode cX12_without 9 = .ok (.aload_n 0, 1) := by decide +kernel
theorem dX12_without_10 : decode cX12_without 10 = .ok (.getfield 112, 3) := by decide +kernel
theorem dX12_without_13 : decode cX12_without 13 = .ok (.iaload, 1) := by decide +kernel
theorem dX12_without_14 : decode cX12_without 14 = .ok (.if_icmp .ge 107, 3) := by decide +kernel
theorem dX12_without_17 : decode cX12_without 17 = .ok (.aload_n 0, 1) := by decide +kernel
theorem dX12_without_18 : decode cX12_without 18 = .ok (.getfield 57, 3) := by decide +kernel
theorem dX12_without_21 : decode cX12_without 21 = .ok (.bipush 8, 2) := by decide +kernel
theorem dX12_without_23 : decode cX12_without 23 = .ok (.aload_n 0, 1) := by decide +kernel
theorem dX12_without_24 : decode cX12_without 24 = .ok (.getfield 112, 3) := by decide +kernel
theorem dX12_without_27 : decode cX12_without 27 = .ok (.imul, 1) := by decide +kernel
theorem dX12_without_28 : decode cX12_without 28 = .ok (.iload_n 3, 1) := by decide +kernel
theorem dX12_without_29 : decode cX12_without 29 = .ok (.iadd, 1) := by decide +kernel
theorem dX12_without_30 : decode cX12_without 30 = .ok (.iaload, 1) := by decide +kernel
theorem dX12_without_31 : decode cX12_without 31 = .ok (.istore 4, 2) := by decide +kernel
theorem dX12_without_33 : decode cX12_without 33 = .ok (.iconst 0, 1) := by decide +kernel
theorem dX12_without_34 : decode cX12_without 34 = .ok (.istore 5, 2) := by decide +kernel
theorem dX12_without_36 : decode cX12_without 36 = .ok (.iload 5, 2) := by decide +kernel
theorem dX12_without_38 : decode cX12_without 38 = .ok (.aload_n 0, 1) := by decide +kernel
theorem dX12_without_39 : decode cX12_without 39 = .ok (.getfield 66, 3) := by decide +kernel
theorem dX12_without_42 : decode cX12_without 42 = .ok (.aload_n 0, 1) := by decide +kernel
theorem dX12_without_43 : decode cX12_without 43 = .ok (.getfield 112, 3) := by decide +kernel
theorem dX12_without_46 : decode cX12_without 46 = .ok (.iaload, 1) := by decide +kernel
theorem dX12_without_47 : decode cX12_without 47 = .ok (.if_icmp .ge 52, 3) := by decide +kernel
theorem dX12_without_50 : decode cX12_without 50 = .ok (.iload 4, 2) := by decide +kernel
theorem dX12_without_52 : decode cX12_without 52 = .ok (.aload_n 0, 1) := by decide +kernel
theorem dX12_without_53 : decode cX12_without 53 = .ok (.getfield 72, 3) := by decide +kernel
theorem dX12_without_56 : decode cX12_without 56 = .ok (.bipush 8, 2) := by decide +kernel
theorem dX12_without_58 : decode cX12_without 58 = .ok (.aload_n 0, 1) := by decide +kernel
theorem dX12_without_59 : decode cX12_without 59 = .ok (.getfield 112, 3) := by decide +kernel
theorem dX12_without_62 : decode cX12_without 62 = .ok (.imul, 1) := by decide +kernel
theorem dX12_without_63 : decode cX12_without 63 = .ok (.iload 5, 2) := by decide +kernel
theorem dX12_without_65 : decode cX12_without 65 = .ok (.iadd, 1) := by decide +kernel
theorem dX12_without_66 : decode cX12_without 66 = .ok (.iaload, 1) := by decide +kernel
theorem dX12_without_67 : decode cX12_without 67 = .ok (.iload_n 3, 1) := by decide +kernel
theorem dX12_without_68 : decode cX12_without 68 = .ok (.if_icmp .ne 21, 3) := by decide +kernel
theorem dX12_without_71 : decode cX12_without 71 = .ok (.aload_n 0, 1) := by decide +kernel
theorem dX12_without_72 : decode cX12_without 72 = .ok (.getfield 69, 3) := by decide +kernel
theorem dX12_without_75 : decode cX12_without 75 = .ok (.bipush 8, 2) := by decide +kernel
theorem dX12_without_77 : decode cX12_without 77 = .ok (.aload_n 0, 1) := by decide +kernel
theorem dX12_without_78 : decode cX12_without 78 = .ok (.getfield 112, 3) := by decide +kernel
theorem dX12_without_81 : decode cX12_without 81 = .ok (.imul, 1) := by decide +kernel
theorem dX12_without_82 : decode cX12_without 82 = .ok (.iload 5, 2) := by decide +kernel
theorem dX12_without_84 : decode cX12_without 84 = .ok (.iadd, 1) := by decide +kernel
theorem dX12_without_85 : decode cX12_without 85 = .ok (.iaload, 1) := by decide +kernel
theorem dX12_without_86 : decode cX12_without 86 = .ok (.goto 4, 3) := by decide +kernel
theorem dX12_without_89 : decode cX12_without 89 = .ok (.iconst 0, 1) := by decide +kernel
theorem dX12_without_90 : decode cX12_without 90 = .ok (.isub, 1) := by decide +kernel
theorem dX12_without_91 : decode cX12_without 91 = .ok (.istore 4, 2) := by decide +kernel
theorem dX12_without_93 : decode cX12_without 93 = .ok (.iinc 5 1, 3) := by decide +kernel
theorem dX12_without_96 : decode cX12_without 96 = .ok (.goto (-60), 3) := by decide +kernel
theorem dX12_without_99 : decode cX12_without 99 = .ok (.iload_n 2, 1) := by decide +kernel
theorem dX12_without_100 : decode cX12_without 100 = .ok (.iload 4, 2) := by decide +kernel
theorem dX12_without_102 : decode cX12_without 102 = .ok (.iload_n 1, 1) := by decide +kernel
theorem dX12_without_103 : decode cX12_without 103 = .ok (.if_icmp .ge 9, 3) := by decide +kernel
theorem dX12_without_106 : decode cX12_without 106 = .ok (.iconst 1, 1) := by decide +kernel
theorem dX12_without_107 : decode cX12_without 107 = .ok (.iload_n 3, 1) := by decide +kernel
theorem dX12_without_108 : decode cX12_without 108 = .ok (.ishl, 1) := by decide +kernel
theorem dX12_without_109 : decode cX12_without 109 = .ok (.goto 4, 3) := by decide +kernel
theorem dX12_without_112 : decode cX12_without 112 = .ok (.iconst 0, 1) := by decide +kernel
theorem dX12_without_113 : decode cX12_without 113 = .ok (.ior, 1) := by decide +kernel
theorem dX12_without_114 : decode cX12_without 114 = .ok (.istore_n 2, 1) := by decide +kernel
theorem dX12_without_115 : decode cX12_without 115 = .ok (.iinc 3 1, 3) := by decide +kernel
theorem dX12_without_118 : decode cX12_without 118 = .ok (.goto (-114), 3) := by decide +kernel
theorem dX12_without_121 : decode cX12_without 121 = .ok (.iload_n 2, 1) := by decide +kernel
theorem dX12_without_122 : decode cX12_without 122 = .ok (.ireturn, 1) := by decide +kernel
theorem dX12_laking_0 : decode cX12_laking 0 = .ok (.aload_n 0, 1) := by decide +kernel
theorem dX12_laking_1 : decode cX12_laking 1 = .ok (.aload_n 0, 1) := by decide +kernel
theorem dX12_laking_2 : decode cX12_laking 2 = .ok (.getfield 66, 3) := by decide +kernel
theorem dX12_laking_5 : decode cX12_laking 5 = .ok (.aload_n 0, 1) := by decide +kernel
theorem dX12_laking_6 : decode cX12_laking 6 = .ok (.getfield 112, 3) := by decide +kernel
theorem dX12_laking_9 : decode cX12_laking 9 = .ok (.iaload, 1) := by decide +kernel
theorem dX12_laking_10 : decode cX12_laking 10 = .ok (.bipush 8, 2) := by decide +kernel
theorem dX12_laking_12 : decode cX12_laking 12 = .ok (.if_icmp .ne 7, 3) := by decide +kernel
theorem dX12_laking_15 : decode cX12_laking 15 = .ok (.iconst 1, 1) := by decide +kernel
theorem dX12_laking_16 : decode cX12_laking 16 = .ok (.goto 4, 3) := by decide +kernel
theorem dX12_laking_19 : decode cX12_laking 19 = .ok (.iconst 0, 1) := by decide +kernel
theorem dX12_laking_20 : decode cX12_laking 20 = .ok (.invokevirtual 361, 3) := by decide +kernel
theorem dX12_laking_23 : decode cX12_laking 23 = .ok (.ifCond .ne 4, 3) := by decide +kernel
theorem dX12_laking_26 : decode cX12_laking 26 = .ok (.return_, 1) := by decide +kernel
theorem dX12_laking_27 : decode cX12_laking 27 = .ok (.bipush 8, 2) := by decide +kernel
theorem dX12_laking_29 : decode cX12_laking 29 = .ok (.aload_n 0, 1) := by decide +kernel
theorem dX12_laking_30 : decode cX12_laking 30 = .ok (.getfield 112, 3) := by decide +kernel
theorem dX12_laking_33 : decode cX12_laking 33 = .ok (.imul, 1) := by decide +kernel
theorem dX12_laking_34 : decode cX12_laking 34 = .ok (.aload_n 0, 1) := by decide +kernel
theorem dX12_laking_35 : decode cX12_laking 35 = .ok (.getfield 66, 3) := by decide +kernel
theorem dX12_laking_38 : decode cX12_laking 38 = .ok (.aload_n 0, 1) := by decide +kernel
theorem dX12_laking_39 : decode cX12_laking 39 = .ok (.getfield 112, 3) := by decide +kernel
theorem dX12_laking_42 : decode cX12_laking 42 = .ok (.iaload, 1) := by decide +kernel
theorem dX12_laking_43 : decode cX12_laking 43 = .ok (.iadd, 1) := by decide +kernel
theorem dX12_laking_44 : decode cX12_laking 44 = .ok (.istore_n 1, 1) := by decide +kernel
theorem dX12_laking_45 : decode cX12_laking 45 = .ok (.aload_n 0, 1) := by decide +kernel
theorem dX12_laking_46 : decode cX12_laking 46 = .ok (.getfield 106, 3) := by decide +kernel
theorem dX12_laking_49 : decode cX12_laking 49 = .ok (.iload_n 1, 1) := by decide +kernel
theorem dX12_laking_50 : decode cX12_laking 50 = .ok (.aload_n 0, 1) := by decide +kernel
theorem dX12_laking_51 : decode cX12_laking 51 = .ok (.invokevirtual 365, 3) := by decide +kernel
theorem dX12_laking_54 : decode cX12_laking 54 = .ok (.lastore, 1) := by decide +kernel
theorem dX12_laking_55 : decode cX12_laking 55 = .ok (.aload_n 0, 1) := by decide +kernel
theorem dX12_laking_56 : decode cX12_laking 56 = .ok (.ldc2_w 271, 3) := by decide +kernel
theorem dX12_laking_59 : decode cX12_laking 59 = .ok (.invokevirtual 369, 3) := by decide +kernel
theorem dX12_laking_62 : decode cX12_laking 62 = .ok (.aload_n 0, 1) := by decide +kernel
theorem dX12_laking_63 : decode cX12_laking 63 = .ok (.getfield 69, 3) := by decide +kernel
theorem dX12_laking_66 : decode cX12_laking 66 = .ok (.iload_n 1, 1) := by decide +kernel
theorem dX12_laking_67 : decode cX12_laking 67 = .ok (.aload_n 0, 1) := by decide +kernel
theorem dX12_laking_68 : decode cX12_laking 68 = .ok (.iconst 1, 1) := by decide +kernel
theorem dX12_laking_69 : decode cX12_laking 69 = .ok (.sipush 999, 3) := by decide +kernel
theorem dX12_laking_72 : decode cX12_laking 72 = .ok (.invokevirtual 373, 3) := by decide +kernel
theorem dX12_laking_75 : decode cX12_laking 75 = .ok (.iastore, 1) := by decide +kernel
theorem dX12_laking_76 : decode cX12_laking 76 = .ok (.aload_n 0, 1) := by decide +kernel
theorem dX12_laking_77 : decode cX12_laking 77 = .ok (.ldc2_w 273, 3) := by decide +kernel
theorem dX12_laking_80 : decode cX12_laking 80 = .ok (.invokevirtual 369, 3) := by decide +kernel
theorem dX12_laking_83 : decode cX12_laking 83 = .ok (.aload_n 0, 1) := by decide +kernel
theorem dX12_laking_84 : decode cX12_laking 84 = .ok (.getfield 72, 3) := by decide +kernel
theorem dX12_laking_87 : decode cX12_laking 87 = .ok (.iload_n 1, 1) := by decide +kernel
theorem dX12_laking_88 : decode cX12_laking 88 = .ok (.aload_n 0, 1) := by decide +kernel
theorem dX12_laking_89 : decode cX12_laking 89 = .ok (.iconst 0, 1) := by decide +kernel
theorem dX12_laking_90 : decode cX12_laking 90 = .ok (.aload_n 0, 1) := by decide +kernel
theorem dX12_laking_91 : decode cX12_laking 91 = .ok (.aload_n 0, 1) := by decide +kernel
theorem dX12_laking_92 : decode cX12_laking 92 = .ok (.getfield 69, 3) := by decide +kernel
theorem dX12_laking_95 : decode cX12_laking 95 = .ok (.iload_n 1, 1) := by decide +kernel
theorem dX12_laking_96 : decode cX12_laking 96 = .ok (.iaload, 1) := by decide +kernel
theorem dX12_laking_97 : decode cX12_laking 97 = .ok (.invokevirtual 376, 3) := by decide +kernel
theorem dX12_laking_100 : decode cX12_laking 100 = .ok (.invokevirtual 379, 3) := by decide +kernel
theorem dX12_laking_103 : decode cX12_laking 103 = .ok (.iastore, 1) := by decide +kernel
theorem dX12_laking_104 : decode cX12_laking 104 = .ok (.aload_n 0, 1) := by decide +kernel
theorem dX12_laking_105 : decode cX12_laking 105 = .ok (.ldc2_w 275, 3) := by decide +kernel
theorem dX12_laking_108 : decode cX12_laking 108 = .ok (.invokevirtual 369, 3) := by decide +kernel
theorem dX12_laking_111 : decode cX12_laking 111 = .ok (.aload_n 0, 1) := by decide +kernel
theorem dX12_laking_112 : decode cX12_laking 112 = .ok (.getfield 75, 3) := by decide +kernel
theorem dX12_laking_115 : decode cX12_laking 115 = .ok (.iload_n 1, 1) := by decide +kernel
theorem dX12_laking_116 : decode cX12_laking 116 = .ok (.aload_n 0, 1) := by decide +kernel
theorem dX12_laking_117 : decode cX12_laking 117 = .ok (.iconst 1, 1) := by decide +kernel
theorem dX12_laking_118 : decode cX12_laking 118 = .ok (.iconst 0, 1) := by decide +kernel
theorem dX12_laking_119 : decode cX12_laking 119 = .ok (.invokevirtual 379, 3) := by decide +kernel
theorem dX12_laking_122 : decode cX12_laking 122 = .ok (.iastore, 1) := by decide +kernel
theorem dX12_laking_123 : decode cX12_laking 123 = .ok (.aload_n 0, 1) := by decide +kernel
theorem dX12_laking_124 : decode cX12_laking 124 = .ok (.getfield 36, 3) := by decide +kernel
theorem dX12_laking_127 : decode cX12_laking 127 = .ok (.ifCond .ne 16, 3) := by decide +kernel
theorem dX12_laking_130 : decode cX12_laking 130 = .ok (.aload_n 0, 1) := by decide +kernel
theorem dX12_laking_131 : decode cX12_laking 131 = .ok (.getfield 66, 3) := by decide +kernel
theorem dX12_laking_134 : decode cX12_laking 134 = .ok (.aload_n 0, 1) := by decide +kernel
theorem dX12_laking_135 : decode cX12_laking 135 = .ok (.getfield 112, 3) := by decide +kernel
theorem dX12_laking_138 : decode cX12_laking 138 = .ok (.dup2, 1) := by decide +kernel
theorem dX12_laking_139 : decode cX12_laking 139 = .ok (.iaload, 1) := by decide +kernel
theorem dX12_laking_140 : decode cX12_laking 140 = .ok (.iconst 1, 1) := by decide +kernel
theorem dX12_laking_141 : decode cX12_laking 141 = .ok (.iadd, 1) := by decide +kernel
theorem dX12_laking_142 : decode cX12_laking 142 = .ok (.iastore, 1) := by decide +kernel
theorem dX12_laking_143 : decode cX12_laking 143 = .ok (.return_, 1) := by decide +kernel
theorem dX12_owing_0 : decode cX12_owing 0 = .ok (.aload_n 0, 1) := by decide +kernel
theorem dX12_owing_1 : decode cX12_owing 1 = .ok (.iconst 0, 1) := by decide +kernel
theorem dX12_owing_2 : decode cX12_owing 2 = .ok (.invokevirtual 361, 3) := by decide +kernel
theorem dX12_owing_5 : decode cX12_owing 5 = .ok (.ifCond .ne 4, 3) := by decide +kernel
theorem dX12_owing_8 : decode cX12_owing 8 = .ok (.return_, 1) := by decide +kernel
theorem dX12_owing_9 : decode cX12_owing 9 = .ok (.aload_n 0, 1) := by decide +kernel
theorem dX12_owing_10 : decode cX12_owing 10 = .ok (.iconst 1, 1) := by decide +kernel
theorem dX12_owing_11 : decode cX12_owing 11 = .ok (.iconst 0, 1) := by decide +kernel
theorem dX12_owing_12 : decode cX12_owing 12 = .ok (.invokevirtual 379, 3) := by decide +kernel
theorem dX12_owing_15 : decode cX12_owing 15 = .ok (.istore_n 1, 1) := by decide +kernel
theorem dX12_owing_16 : decode cX12_owing 16 = .ok (.aload_n 0, 1) := by decide +kernel
theorem dX12_owing_17 : decode cX12_owing 17 = .ok (.iconst 1, 1) := by decide +kernel
theorem dX12_owing_18 : decode cX12_owing 18 = .ok (.iconst 1, 1) := by decide +kernel
theorem dX12_owing_19 : decode cX12_owing 19 = .ok (.iload_n 1, 1) := by decide +kernel
theorem dX12_owing_20 : decode cX12_owing 20 = .ok (.ishl, 1) := by decide +kernel
theorem dX12_owing_21 : decode cX12_owing 21 = .ok (.invokevirtual 379, 3) := by decide +kernel
theorem dX12_owing_24 : decode cX12_owing 24 = .ok (.istore_n 2, 1) := by decide +kernel
theorem dX12_owing_25 : decode cX12_owing 25 = .ok (.aload_n 0, 1) := by decide +kernel
theorem dX12_owing_26 : decode cX12_owing 26 = .ok (.iconst 0, 1) := by decide +kernel
theorem dX12_owing_27 : decode cX12_owing 27 = .ok (.sipush 999, 3) := by decide +kernel
theorem dX12_owing_30 : decode cX12_owing 30 = .ok (.invokevirtual 373, 3) := by decide +kernel
theorem dX12_owing_33 : decode cX12_owing 33 = .ok (.istore_n 3, 1) := by decide +kernel
theorem dX12_owing_34 : decode cX12_owing 34 = .ok (.aload_n 0, 1) := by decide +kernel
theorem dX12_owing_35 : decode cX12_owing 35 = .ok (.getfield 36, 3) := by decide +kernel
theorem dX12_owing_38 : decode cX12_owing 38 = .ok (.ifCond .ne 23, 3) := by decide +kernel
theorem dX12_owing_41 : decode cX12_owing 41 = .ok (.aload_n 0, 1) := by decide +kernel
theorem dX12_owing_42 : decode cX12_owing 42 = .ok (.getfield 78, 3) := by decide +kernel
theorem dX12_owing_45 : decode cX12_owing 45 = .ok (.bipush 6, 2) := by decide +kernel
theorem dX12_owing_47 : decode cX12_owing 47 = .ok (.bipush 6, 2) := by decide +kernel
theorem dX12_owing_49 : decode cX12_owing 49 = .ok (.aload_n 0, 1) := by decide +kernel
theorem dX12_owing_50 : decode cX12_owing 50 = .ok (.getfield 112, 3) := by decide +kernel
theorem dX12_owing_53 : decode cX12_owing 53 = .ok (.imul, 1) := by decide +kernel
theorem dX12_owing_54 : decode cX12_owing 54 = .ok (.iload_n 1, 1) := by decide +kernel
theorem dX12_owing_55 : decode cX12_owing 55 = .ok (.iadd, 1) := by decide +kernel
theorem dX12_owing_56 : decode cX12_owing 56 = .ok (.imul, 1) := by decide +kernel
theorem dX12_owing_57 : decode cX12_owing 57 = .ok (.iload_n 2, 1) := by decide +kernel
theorem dX12_owing_58 : decode cX12_owing 58 = .ok (.iadd, 1) := by decide +kernel
theorem dX12_owing_59 : decode cX12_owing 59 = .ok (.iload_n 3, 1) := by decide +kernel
theorem dX12_owing_60 : decode cX12_owing 60 = .ok (.iastore, 1) := by decide +kernel
theorem dX12_owing_61 : decode cX12_owing 61 = .ok (.return_, 1) := by decide +kernel
theorem dX12_reading_0 : decode cX12_reading 0 = .ok (.iconst 3, 1) := by decide +kernel
theorem dX12_reading_1 : decode cX12_reading 1 = .ok (.aload_n 0, 1) := by decide +kernel
theorem dX12_reading_2 : decode cX12_reading 2 = .ok (.getfield 112, 3) := by decide +kernel
theorem dX12_reading_5 : decode cX12_reading 5 = .ok (.imul, 1) := by decide +kernel
theorem dX12_reading_6 : decode cX12_reading 6 = .ok (.iload_n 1, 1) := by decide +kernel
theorem dX12_reading_7 : decode cX12_reading 7 = .ok (.iadd, 1) := by decide +kernel
theorem dX12_reading_8 : decode cX12_reading 8 = .ok (.istore_n 2, 1) := by decide +kernel
theorem dX12_reading_9 : decode cX12_reading 9 = .ok (.aload_n 0, 1) := by decide +kernel
theorem dX12_reading_10 : decode cX12_reading 10 = .ok (.aload_n 0, 1) := by decide +kernel
theorem dX12_reading_11 : decode cX12_reading 11 = .ok (.getfield 87, 3) := by decide +kernel
theorem dX12_reading_14 : decode cX12_reading 14 = .ok (.iload_n 2, 1) := by decide +kernel
theorem dX12_reading_15 : decode cX12_reading 15 = .ok (.iaload, 1) := by decide +kernel
theorem dX12_reading_16 : decode cX12_reading 16 = .ok (.iconst (-1), 1) := by decide +kernel
theorem dX12_reading_17 : decode cX12_reading 17 = .ok (.if_icmp .eq 7, 3) := by decide +kernel
theorem dX12_reading_20 : decode cX12_reading 20 = .ok (.iconst 1, 1) := by decide +kernel
theorem dX12_reading_21 : decode cX12_reading 21 = .ok (.goto 4, 3) := by decide +kernel
theorem dX12_reading_24 : decode cX12_reading 24 = .ok (.iconst 0, 1) := by decide +kernel
theorem dX12_reading_25 : decode cX12_reading 25 = .ok (.invokevirtual 361, 3) := by decide +kernel
theorem dX12_reading_28 : decode cX12_reading 28 = .ok (.ifCond .ne 4, 3) := by decide +kernel
theorem dX12_reading_31 : decode cX12_reading 31 = .ok (.return_, 1) := by decide +kernel
theorem dX12_reading_32 : decode cX12_reading 32 = .ok (.aload_n 0, 1) := by decide +kernel
theorem dX12_reading_33 : decode cX12_reading 33 = .ok (.iload_n 1, 1) := by decide +kernel
theorem dX12_reading_34 : decode cX12_reading 34 = .ok (.iconst 2, 1) := by decide +kernel
theorem dX12_reading_35 : decode cX12_reading 35 = .ok (.if_icmp .ne 8, 3) := by decide +kernel
theorem dX12_reading_38 : decode cX12_reading 38 = .ok (.bipush 110, 2) := by decide +kernel
theorem dX12_reading_40 : decode cX12_reading 40 = .ok (.goto 14, 3) := by decide +kernel
theorem dX12_reading_43 : decode cX12_reading 43 = .ok (.iload_n 1, 1) := by decide +kernel
theorem dX12_reading_44 : decode cX12_reading 44 = .ok (.ifCond .ne 8, 3) := by decide +kernel
theorem dX12_reading_47 : decode cX12_reading 47 = .ok (.bipush 30, 2) := by decide +kernel
theorem dX12_reading_49 : decode cX12_reading 49 = .ok (.goto 5, 3) := by decide +kernel
theorem dX12_reading_52 : decode cX12_reading 52 = .ok (.bipush 14, 2) := by decide +kernel
theorem dX12_reading_54 : decode cX12_reading 54 = .ok (.putfield 115, 3) := by decide +kernel
theorem dX12_reading_57 : decode cX12_reading 57 = .ok (.aload_n 0, 1) := by decide +kernel
theorem dX12_reading_58 : decode cX12_reading 58 = .ok (.getfield 87, 3) := by decide +kernel
theorem dX12_reading_61 : decode cX12_reading 61 = .ok (.iload_n 2, 1) := by decide +kernel
theorem dX12_reading_62 : decode cX12_reading 62 = .ok (.aload_n 0, 1) := by decide +kernel
theorem dX12_reading_63 : decode cX12_reading 63 = .ok (.getfield 109, 3) := by decide +kernel
theorem dX12_reading_66 : decode cX12_reading 66 = .ok (.iastore, 1) := by decide +kernel
theorem dX12_reading_67 : decode cX12_reading 67 = .ok (.aload_n 0, 1) := by decide +kernel
theorem dX12_reading_68 : decode cX12_reading 68 = .ok (.iload_n 1, 1) := by decide +kernel
theorem dX12_reading_69 : decode cX12_reading 69 = .ok (.iconst 2, 1) := by decide +kernel
theorem dX12_reading_70 : decode cX12_reading 70 = .ok (.if_icmp .ne 7, 3) := by decide +kernel
theorem dX12_reading_73 : decode cX12_reading 73 = .ok (.iconst 1, 1) := by decide +kernel
theorem dX12_reading_74 : decode cX12_reading 74 = .ok (.goto 4, 3) := by decide +kernel
theorem dX12_reading_77 : decode cX12_reading 77 = .ok (.iconst 0, 1) := by decide +kernel
theorem dX12_reading_78 : decode cX12_reading 78 = .ok (.invokevirtual 382, 3) := by decide +kernel
theorem dX12_reading_81 : decode cX12_reading 81 = .ok (.aload_n 0, 1) := by decide +kernel
theorem dX12_reading_82 : decode cX12_reading 82 = .ok (.getfield 90, 3) := by decide +kernel
theorem dX12_reading_85 : decode cX12_reading 85 = .ok (.iload_n 2, 1) := by decide +kernel
theorem dX12_reading_86 : decode cX12_reading 86 = .ok (.aload_n 0, 1) := by decide +kernel
theorem dX12_reading_87 : decode cX12_reading 87 = .ok (.getfield 109, 3) := by decide +kernel
theorem dX12_reading_90 : decode cX12_reading 90 = .ok (.iastore, 1) := by decide +kernel
theorem dX12_reading_91 : decode cX12_reading 91 = .ok (.return_, 1) := by decide +kernel
theorem dX12_telling_0 : decode cX12_telling 0 = .ok (.aload_n 0, 1) := by decide +kernel
theorem dX12_telling_1 : decode cX12_telling 1 = .ok (.iconst 0, 1) := by decide +kernel
theorem dX12_telling_2 : decode cX12_telling 2 = .ok (.invokevirtual 361, 3) := by decide +kernel
theorem dX12_telling_5 : decode cX12_telling 5 = .ok (.ifCond .ne 4, 3) := by decide +kernel
theorem dX12_telling_8 : decode cX12_telling 8 = .ok (.return_, 1) := by decide +kernel
theorem dX12_telling_9 : decode cX12_telling 9 = .ok (.iload_n 1, 1) := by decide +kernel
theorem dX12_telling_10 : decode cX12_telling 10 = .ok (.ifCond .eq 14, 3) := by decide +kernel
theorem dX12_telling_13 : decode cX12_telling 13 = .ok (.aload_n 0, 1) := by decide +kernel
theorem dX12_telling_14 : decode cX12_telling 14 = .ok (.iconst 1, 1) := by decide +kernel
theorem dX12_telling_15 : decode cX12_telling 15 = .ok (.sipush 999, 3) := by decide +kernel
theorem dX12_telling_18 : decode cX12_telling 18 = .ok (.invokevirtual 373, 3) := by decide +kernel
theorem dX12_telling_21 : decode cX12_telling 21 = .ok (.goto 10, 3) := by decide +kernel
theorem dX12_telling_24 : decode cX12_telling 24 = .ok (.aload_n 0, 1) := by decide +kernel
theorem dX12_telling_25 : decode cX12_telling 25 = .ok (.iconst 0, 1) := by decide +kernel
theorem dX12_telling_26 : decode cX12_telling 26 = .ok (.bipush 100, 2) := by decide +kernel
theorem dX12_telling_28 : decode cX12_telling 28 = .ok (.invokevirtual 373, 3) := by decide +kernel
theorem dX12_telling_31 : decode cX12_telling 31 = .ok (.istore_n 2, 1) := by decide +kernel
theorem dX12_telling_32 : decode cX12_telling 32 = .ok (.aload_n 0, 1) := by decide +kernel
theorem dX12_telling_33 : decode cX12_telling 33 = .ok (.getfield 36, 3) := by decide +kernel
theorem dX12_telling_36 : decode cX12_telling 36 = .ok (.ifCond .le 4, 3) := by decide +kernel
theorem dX12_telling_39 : decode cX12_telling 39 = .ok (.return_, 1) := by decide +kernel
theorem dX12_telling_40 : decode cX12_telling 40 = .ok (.iload_n 1, 1) := by decide +kernel
theorem dX12_telling_41 : decode cX12_telling 41 = .ok (.ifCond .eq 16, 3) := by decide +kernel
theorem dX12_telling_44 : decode cX12_telling 44 = .ok (.aload_n 0, 1) := by decide +kernel
theorem dX12_telling_45 : decode cX12_telling 45 = .ok (.getfield 84, 3) := by decide +kernel
theorem dX12_telling_48 : decode cX12_telling 48 = .ok (.aload_n 0, 1) := by decide +kernel
theorem dX12_telling_49 : decode cX12_telling 49 = .ok (.getfield 112, 3) := by decide +kernel
theorem dX12_telling_52 : decode cX12_telling 52 = .ok (.iload_n 2, 1) := by decide +kernel
theorem dX12_telling_53 : decode cX12_telling 53 = .ok (.iastore, 1) := by decide +kernel
theorem dX12_telling_54 : decode cX12_telling 54 = .ok (.goto 13, 3) := by decide +kernel
theorem dX12_telling_57 : decode cX12_telling 57 = .ok (.aload_n 0, 1) := by decide +kernel
theorem dX12_telling_58 : decode cX12_telling 58 = .ok (.getfield 81, 3) := by decide +kernel
theorem dX12_telling_61 : decode cX12_telling 61 = .ok (.aload_n 0, 1) := by decide +kernel
theorem dX12_telling_62 : decode cX12_telling 62 = .ok (.getfield 112, 3) := by decide +kernel
theorem dX12_telling_65 : decode cX12_telling 65 = .ok (.iload_n 2, 1) := by decide +kernel
theorem dX12_telling_66 : decode cX12_telling 66 = .ok (.iastore, 1) := by decide +kernel
theorem dX12_telling_67 : decode cX12_telling 67 = .ok (.return_, 1) := by decide +kernel
theorem dX12_statement_0 : decode cX12_statement 0 = .ok (.aload_n 0, 1) := by decide +kernel
theorem dX12_statement_1 : decode cX12_statement 1 = .ok (.invokevirtual 252, 3) := by decide +kernel
theorem dX12_statement_4 : decode cX12_statement 4 = .ok (.aload_n 0, 1) := by decide +kernel
theorem dX12_statement_5 : decode cX12_statement 5 = .ok (.getfield 36, 3) := by decide +kernel
theorem dX12_statement_8 : decode cX12_statement 8 = .ok (.ifCond .le 4, 3) := by decide +kernel
theorem dX12_statement_11 : decode cX12_statement 11 = .ok (.return_, 1) := by decide +kernel
theorem dX12_statement_12 : decode cX12_statement 12 = .ok (.aload_n 0, 1) := by decide +kernel
theorem dX12_statement_13 : decode cX12_statement 13 = .ok (.ldc2_w 261, 3) := by decide +kernel
theorem dX12_statement_16 : decode cX12_statement 16 = .ok (.invokevirtual 335, 3) := by decide +kernel
theorem dX12_statement_19 : decode cX12_statement 19 = .ok (.ifCond .eq 10, 3) := by decide +kernel
theorem dX12_statement_22 : decode cX12_statement 22 = .ok (.aload_n 0, 1) := by decide +kernel
theorem dX12_statement_23 : decode cX12_statement 23 = .ok (.invokevirtual 386, 3) := by decide +kernel
theorem dX12_statement_26 : decode cX12_statement 26 = .ok (.goto 153, 3) := by decide +kernel
theorem dX12_statement_29 : decode cX12_statement 29 = .ok (.aload_n 0, 1) := by decide +kernel
theorem dX12_statement_30 : decode cX12_statement 30 = .ok (.ldc2_w 267, 3) := by decide +kernel
theorem dX12_statement_33 : decode cX12_statement 33 = .ok (.invokevirtual 335, 3) := by decide +kernel
theorem dX12_statement_36 : decode cX12_statement 36 = .ok (.ifCond .eq 10, 3) := by decide +kernel
theorem dX12_statement_39 : decode cX12_statement 39 = .ok (.aload_n 0, 1) := by decide +kernel
theorem dX12_statement_40 : decode cX12_statement 40 = .ok (.invokevirtual 389, 3) := by decide +kernel
theorem dX12_statement_43 : decode cX12_statement 43 = .ok (.goto 136, 3) := by decide +kernel
theorem dX12_statement_46 : decode cX12_statement 46 = .ok (.aload_n 0, 1) := by decide +kernel
theorem dX12_statement_47 : decode cX12_statement 47 = .ok (.ldc2_w 269, 3) := by decide +kernel
theorem dX12_statement_50 : decode cX12_statement 50 = .ok (.invokevirtual 335, 3) := by decide +kernel
theorem dX12_statement_53 : decode cX12_statement 53 = .ok (.ifCond .eq 10, 3) := by decide +kernel
theorem dX12_statement_56 : decode cX12_statement 56 = .ok (.aload_n 0, 1) := by decide +kernel
theorem dX12_statement_57 : decode cX12_statement 57 = .ok (.invokevirtual 392, 3) := by decide +kernel
theorem dX12_statement_60 : decode cX12_statement 60 = .ok (.goto 119, 3) := by decide +kernel
theorem dX12_statement_63 : decode cX12_statement 63 = .ok (.aload_n 0, 1) := by decide +kernel
theorem dX12_statement_64 : decode cX12_statement 64 = .ok (.ldc2_w 277, 3) := by decide +kernel
theorem dX12_statement_67 : decode cX12_statement 67 = .ok (.invokevirtual 335, 3) := by decide +kernel
theorem dX12_statement_70 : decode cX12_statement 70 = .ok (.ifCond .eq 10, 3) := by decide +kernel
theorem dX12_statement_73 : decode cX12_statement 73 = .ok (.aload_n 0, 1) := by decide +kernel
theorem dX12_statement_74 : decode cX12_statement 74 = .ok (.invokevirtual 395, 3) := by decide +kernel
theorem dX12_statement_77 : decode cX12_statement 77 = .ok (.goto 102, 3) := by decide +kernel
theorem dX12_statement_80 : decode cX12_statement 80 = .ok (.aload_n 0, 1) := by decide +kernel
theorem dX12_statement_81 : decode cX12_statement 81 = .ok (.ldc2_w 279, 3) := by decide +kernel
theorem dX12_statement_84 : decode cX12_statement 84 = .ok (.invokevirtual 335, 3) := by decide +kernel
theorem dX12_statement_87 : decode cX12_statement 87 = .ok (.ifCond .eq 11, 3) := by decide +kernel
theorem dX12_statement_90 : decode cX12_statement 90 = .ok (.aload_n 0, 1) := by decide +kernel
theorem dX12_statement_91 : decode cX12_statement 91 = .ok (.iconst 0, 1) := by decide +kernel
theorem dX12_statement_92 : decode cX12_statement 92 = .ok (.invokevirtual 398, 3) := by decide +kernel
theorem dX12_statement_95 : decode cX12_statement 95 = .ok (.goto 84, 3) := by decide +kernel
theorem dX12_statement_98 : decode cX12_statement 98 = .ok (.aload_n 0, 1) := by decide +kernel
theorem dX12_statement_99 : decode cX12_statement 99 = .ok (.ldc2_w 281, 3) := by decide +kernel
theorem dX12_statement_102 : decode cX12_statement 102 = .ok (.invokevirtual 335, 3) := by decide +kernel
theorem dX12_statement_105 : decode cX12_statement 105 = .ok (.ifCond .eq 11, 3) := by decide +kernel
theorem dX12_statement_108 : decode cX12_statement 108 = .ok (.aload_n 0, 1) := by decide +kernel
theorem dX12_statement_109 : decode cX12_statement 109 = .ok (.iconst 1, 1) := by decide +kernel
theorem dX12_statement_110 : decode cX12_statement 110 = .ok (.invokevirtual 398, 3) := by decide +kernel
theorem dX12_statement_113 : decode cX12_statement 113 = .ok (.goto 66, 3) := by decide +kernel
theorem dX12_statement_116 : decode cX12_statement 116 = .ok (.aload_n 0, 1) := by decide +kernel
theorem dX12_statement_117 : decode cX12_statement 117 = .ok (.ldc2_w 283, 3) := by decide +kernel
theorem dX12_statement_120 : decode cX12_statement 120 = .ok (.invokevirtual 335, 3) := by decide +kernel
theorem dX12_statement_123 : decode cX12_statement 123 = .ok (.ifCond .eq 11, 3) := by decide +kernel
theorem dX12_statement_126 : decode cX12_statement 126 = .ok (.aload_n 0, 1) := by decide +kernel
theorem dX12_statement_127 : decode cX12_statement 127 = .ok (.iconst 2, 1) := by decide +kernel
theorem dX12_statement_128 : decode cX12_statement 128 = .ok (.invokevirtual 398, 3) := by decide +kernel
theorem dX12_statement_131 : decode cX12_statement 131 = .ok (.goto 48, 3) := by decide +kernel
theorem dX12_statement_134 : decode cX12_statement 134 = .ok (.aload_n 0, 1) := by decide +kernel
theorem dX12_statement_135 : decode cX12_statement 135 = .ok (.ldc2_w 309, 3) := by decide +kernel
theorem dX12_statement_138 : decode cX12_statement 138 = .ok (.invokevirtual 335, 3) := by decide +kernel
theorem dX12_statement_141 : decode cX12_statement 141 = .ok (.ifCond .eq 11, 3) := by decide +kernel
theorem dX12_statement_144 : decode cX12_statement 144 = .ok (.aload_n 0, 1) := by decide +kernel
theorem dX12_statement_145 : decode cX12_statement 145 = .ok (.iconst 0, 1) := by decide +kernel
theorem dX12_statement_146 : decode cX12_statement 146 = .ok (.invokevirtual 401, 3) := by decide +kernel
theorem dX12_statement_149 : decode cX12_statement 149 = .ok (.goto 30, 3) := by decide +kernel
theorem dX12_statement_152 : decode cX12_statement 152 = .ok (.aload_n 0, 1) := by decide +kernel
theorem dX12_statement_153 : decode cX12_statement 153 = .ok (.ldc2_w 285, 3) := by decide +kernel
theorem dX12_statement_156 : decode cX12_statement 156 = .ok (.invokevirtual 335, 3) := by decide +kernel
theorem dX12_statement_159 : decode cX12_statement 159 = .ok (.ifCond .eq 11, 3) := by decide +kernel
theorem dX12_statement_162 : decode cX12_statement 162 = .ok (.aload_n 0, 1) := by decide +kernel
theorem dX12_statement_163 : decode cX12_statement 163 = .ok (.iconst 1, 1) := by decide +kernel
theorem dX12_statement_164 : decode cX12_statement 164 = .ok (.invokevirtual 401, 3) := by decide +kernel
theorem dX12_statement_167 : decode cX12_statement 167 = .ok (.goto 12, 3) := by decide +kernel
theorem dX12_statement_170 : decode cX12_statement 170 = .ok (.aload_n 0, 1) := by decide +kernel
theorem dX12_statement_171 : decode cX12_statement 171 = .ok (.iconst 1, 1) := by decide +kernel
theorem dX12_statement_172 : decode cX12_statement 172 = .ok (.aload_n 0, 1) := by decide +kernel
theorem dX12_statement_173 : decode cX12_statement 173 = .ok (.getfield 23, 3) := by decide +kernel
theorem dX12_statement_176 : decode cX12_statement 176 = .ok (.invokevirtual 237, 3) := by decide +kernel
theorem dX12_statement_179 : decode cX12_statement 179 = .ok (.return_, 1) := by decide +kernel
theorem dX12_finishes_0 : decode cX12_finishes 0 = .ok (.aload_n 0, 1) := by decide +kernel
theorem dX12_finishes_1 : decode cX12_finishes 1 = .ok (.invokevirtual 252, 3) := by decide +kernel
theorem dX12_finishes_4 : decode cX12_finishes 4 = .ok (.aload_n 0, 1) := by decide +kernel
theorem dX12_finishes_5 : decode cX12_finishes 5 = .ok (.getfield 36, 3) := by decide +kernel
theorem dX12_finishes_8 : decode cX12_finishes 8 = .ok (.ifCond .le 4, 3) := by decide +kernel
theorem dX12_finishes_11 : decode cX12_finishes 11 = .ok (.return_, 1) := by decide +kernel
theorem dX12_finishes_12 : decode cX12_finishes 12 = .ok (.aload_n 0, 1) := by decide +kernel
theorem dX12_finishes_13 : decode cX12_finishes 13 = .ok (.getfield 26, 3) := by decide +kernel
theorem dX12_finishes_16 : decode cX12_finishes 16 = .ok (.istore_n 2, 1) := by decide +kernel
theorem dX12_finishes_17 : decode cX12_finishes 17 = .ok (.iload_n 2, 1) := by decide +kernel
theorem dX12_finishes_18 : decode cX12_finishes 18 = .ok (.aload_n 0, 1) := by decide +kernel
theorem dX12_finishes_19 : decode cX12_finishes 19 = .ok (.getfield 17, 3) := by decide +kernel
theorem dX12_finishes_22 : decode cX12_finishes 22 = .ok (.if_icmp .ge 31, 3) := by decide +kernel
theorem dX12_finishes_25 : decode cX12_finishes 25 = .ok (.aload_n 0, 1) := by decide +kernel
theorem dX12_finishes_26 : decode cX12_finishes 26 = .ok (.getfield 7, 3) := by decide +kernel
theorem dX12_finishes_29 : decode cX12_finishes 29 = .ok (.iload_n 2, 1) := by decide +kernel
theorem dX12_finishes_30 : decode cX12_finishes 30 = .ok (.iaload, 1) := by decide +kernel
theorem dX12_finishes_31 : decode cX12_finishes 31 = .ok (.bipush 32, 2) := by decide +kernel
theorem dX12_finishes_33 : decode cX12_finishes 33 = .ok (.if_icmp .eq 14, 3) := by decide +kernel
theorem dX12_finishes_36 : decode cX12_finishes 36 = .ok (.aload_n 0, 1) := by decide +kernel
theorem dX12_finishes_37 : decode cX12_finishes 37 = .ok (.getfield 7, 3) := by decide +kernel
theorem dX12_finishes_40 : decode cX12_finishes 40 = .ok (.iload_n 2, 1) := by decide +kernel
theorem dX12_finishes_41 : decode cX12_finishes 41 = .ok (.iaload, 1) := by decide +kernel
theorem dX12_finishes_42 : decode cX12_finishes 42 = .ok (.bipush 10, 2) := by decide +kernel
theorem dX12_finishes_44 : decode cX12_finishes 44 = .ok (.if_icmp .ne 9, 3) := by decide +kernel
theorem dX12_finishes_47 : decode cX12_finishes 47 = .ok (.iinc 2 1, 3) := by decide +kernel
theorem dX12_finishes_50 : decode cX12_finishes 50 = .ok (.goto (-33), 3) := by decide +kernel
theorem dX12_finishes_53 : decode cX12_finishes 53 = .ok (.aload_n 0, 1) := by decide +kernel
theorem dX12_finishes_54 : decode cX12_finishes 54 = .ok (.bipush 59, 2) := by decide +kernel
theorem dX12_finishes_56 : decode cX12_finishes 56 = .ok (.invokevirtual 255, 3) := by decide +kernel
theorem dX12_finishes_59 : decode cX12_finishes 59 = .ok (.ifCond .eq 24, 3) := by decide +kernel
theorem dX12_finishes_62 : decode cX12_finishes 62 = .ok (.iload_n 1, 1) := by decide +kernel
theorem dX12_finishes_63 : decode cX12_finishes 63 = .ok (.bipush 80, 2) := by decide +kernel
theorem dX12_finishes_65 : decode cX12_finishes 65 = .ok (.if_icmp .ne 18, 3) := by decide +kernel
theorem dX12_finishes_68 : decode cX12_finishes 68 = .ok (.iload_n 2, 1) := by decide +kernel
theorem dX12_finishes_69 : decode cX12_finishes 69 = .ok (.aload_n 0, 1) := by decide +kernel
theorem dX12_finishes_70 : decode cX12_finishes 70 = .ok (.getfield 17, 3) := by decide +kernel
theorem dX12_finishes_73 : decode cX12_finishes 73 = .ok (.if_icmp .ge 10, 3) := by decide +kernel
theorem dX12_finishes_76 : decode cX12_finishes 76 = .ok (.aload_n 0, 1) := by decide +kernel
theorem dX12_finishes_77 : decode cX12_finishes 77 = .ok (.bipush 6, 2) := by decide +kernel
theorem dX12_finishes_79 : decode cX12_finishes 79 = .ok (.iload_n 2, 1) := by decide +kernel
theorem dX12_finishes_80 : decode cX12_finishes 80 = .ok (.invokevirtual 237, 3) := by decide +kernel
theorem dX12_finishes_83 : decode cX12_finishes 83 = .ok (.aload_n 0, 1) := by decide +kernel
theorem dX12_finishes_84 : decode cX12_finishes 84 = .ok (.bipush 59, 2) := by decide +kernel
theorem dX12_finishes_86 : decode cX12_finishes 86 = .ok (.invokevirtual 404, 3) := by decide +kernel
theorem dX12_finishes_89 : decode cX12_finishes 89 = .ok (.return_, 1) := by decide +kernel
theorem dX12_lowland_0 : decode cX12_lowland 0 = .ok (.aload_n 0, 1) := by decide +kernel
theorem dX12_lowland_1 : decode cX12_lowland 1 = .ok (.aload_n 0, 1) := by decide +kernel
theorem dX12_lowland_2 : decode cX12_lowland 2 = .ok (.getfield 13, 3) := by decide +kernel
theorem dX12_lowland_5 : decode cX12_lowland 5 = .ok (.putfield 17, 3) := by decide +kernel
theorem dX12_lowland_8 : decode cX12_lowland 8 = .ok (.aload_n 0, 1) := by decide +kernel
theorem dX12_lowland_9 : decode cX12_lowland 9 = .ok (.iconst 0, 1) := by decide +kernel
theorem dX12_lowland_10 : decode cX12_lowland 10 = .ok (.putfield 13, 3) := by decide +kernel
theorem dX12_lowland_13 : decode cX12_lowland 13 = .ok (.aload_n 0, 1) := by decide +kernel
theorem dX12_lowland_14 : decode cX12_lowland 14 = .ok (.iconst 0, 1) := by decide +kernel
theorem dX12_lowland_15 : decode cX12_lowland 15 = .ok (.putfield 26, 3) := by decide +kernel
theorem dX12_lowland_18 : decode cX12_lowland 18 = .ok (.aload_n 0, 1) := by decide +kernel
theorem dX12_lowland_19 : decode cX12_lowland 19 = .ok (.iconst 0, 1) := by decide +kernel
theorem dX12_lowland_20 : decode cX12_lowland 20 = .ok (.putfield 36, 3) := by decide +kernel
theorem dX12_lowland_23 : decode cX12_lowland 23 = .ok (.aload_n 0, 1) := by decide +kernel
theorem dX12_lowland_24 : decode cX12_lowland 24 = .ok (.iconst (-1), 1) := by decide +kernel
theorem dX12_lowland_25 : decode cX12_lowland 25 = .ok (.putfield 39, 3) := by decide +kernel
theorem dX12_lowland_28 : decode cX12_lowland 28 = .ok (.aload_n 0, 1) := by decide +kernel
theorem dX12_lowland_29 : decode cX12_lowland 29 = .ok (.iconst 1, 1) := by decide +kernel
theorem dX12_lowland_30 : decode cX12_lowland 30 = .ok (.aload_n 0, 1) := by decide +kernel
theorem dX12_lowland_31 : decode cX12_lowland 31 = .ok (.getfield 51, 3) := by decide +kernel
theorem dX12_lowland_34 : decode cX12_lowland 34 = .ok (.isub, 1) := by decide +kernel
theorem dX12_lowland_35 : decode cX12_lowland 35 = .ok (.putfield 112, 3) := by decide +kernel
theorem dX12_lowland_38 : decode cX12_lowland 38 = .ok (.aload_n 0, 1) := by decide +kernel
theorem dX12_lowland_39 : decode cX12_lowland 39 = .ok (.getfield 54, 3) := by decide +kernel
theorem dX12_lowland_42 : decode cX12_lowland 42 = .ok (.aload_n 0, 1) := by decide +kernel
theorem dX12_lowland_43 : decode cX12_lowland 43 = .ok (.getfield 112, 3) := by decide +kernel
theorem dX12_lowland_46 : decode cX12_lowland 46 = .ok (.iconst 0, 1) := by decide +kernel
theorem dX12_lowland_47 : decode cX12_lowland 47 = .ok (.iastore, 1) := by decide +kernel
theorem dX12_lowland_48 : decode cX12_lowland 48 = .ok (.aload_n 0, 1) := by decide +kernel
theorem dX12_lowland_49 : decode cX12_lowland 49 = .ok (.getfield 63, 3) := by decide +kernel
theorem dX12_lowland_52 : decode cX12_lowland 52 = .ok (.aload_n 0, 1) := by decide +kernel
theorem dX12_lowland_53 : decode cX12_lowland 53 = .ok (.getfield 112, 3) := by decide +kernel
theorem dX12_lowland_56 : decode cX12_lowland 56 = .ok (.iconst 0, 1) := by decide +kernel
theorem dX12_lowland_57 : decode cX12_lowland 57 = .ok (.iastore, 1) := by decide +kernel
theorem dX12_lowland_58 : decode cX12_lowland 58 = .ok (.aload_n 0, 1) := by decide +kernel
theorem dX12_lowland_59 : decode cX12_lowland 59 = .ok (.getfield 66, 3) := by decide +kernel
theorem dX12_lowland_62 : decode cX12_lowland 62 = .ok (.aload_n 0, 1) := by decide +kernel
theorem dX12_lowland_63 : decode cX12_lowland 63 = .ok (.getfield 112, 3) := by decide +kernel
theorem dX12_lowland_66 : decode cX12_lowland 66 = .ok (.iconst 0, 1) := by decide +kernel
theorem dX12_lowland_67 : decode cX12_lowland 67 = .ok (.iastore, 1) := by decide +kernel
theorem dX12_lowland_68 : decode cX12_lowland 68 = .ok (.aload_n 0, 1) := by decide +kernel
theorem dX12_lowland_69 : decode cX12_lowland 69 = .ok (.getfield 81, 3) := by decide +kernel
theorem dX12_lowland_72 : decode cX12_lowland 72 = .ok (.aload_n 0, 1) := by decide +kernel
theorem dX12_lowland_73 : decode cX12_lowland 73 = .ok (.getfield 112, 3) := by decide +kernel
theorem dX12_lowland_76 : decode cX12_lowland 76 = .ok (.iconst 0, 1) := by decide +kernel
theorem dX12_lowland_77 : decode cX12_lowland 77 = .ok (.iastore, 1) := by decide +kernel
theorem dX12_lowland_78 : decode cX12_lowland 78 = .ok (.aload_n 0, 1) := by decide +kernel
theorem dX12_lowland_79 : decode cX12_lowland 79 = .ok (.getfield 84, 3) := by decide +kernel
theorem dX12_lowland_82 : decode cX12_lowland 82 = .ok (.aload_n 0, 1) := by decide +kernel
theorem dX12_lowland_83 : decode cX12_lowland 83 = .ok (.getfield 112, 3) := by decide +kernel
theorem dX12_lowland_86 : decode cX12_lowland 86 = .ok (.sipush 999, 3) := by decide +kernel
theorem dX12_lowland_89 : decode cX12_lowland 89 = .ok (.iastore, 1) := by decide +kernel
theorem dX12_lowland_90 : decode cX12_lowland 90 = .ok (.iconst 0, 1) := by decide +kernel
theorem dX12_lowland_91 : decode cX12_lowland 91 = .ok (.istore_n 1, 1) := by decide +kernel
theorem dX12_lowland_92 : decode cX12_lowland 92 = .ok (.iload_n 1, 1) := by decide +kernel
theorem dX12_lowland_93 : decode cX12_lowland 93 = .ok (.iconst 3, 1) := by decide +kernel
theorem dX12_lowland_94 : decode cX12_lowland 94 = .ok (.if_icmp .ge 23, 3) := by decide +kernel
theorem dX12_lowland_97 : decode cX12_lowland 97 = .ok (.aload_n 0, 1) := by decide +kernel
theorem dX12_lowland_98 : decode cX12_lowland 98 = .ok (.getfield 87, 3) := by decide +kernel
theorem dX12_lowland_101 : decode cX12_lowland 101 = .ok (.iconst 3, 1) := by decide +kernel
theorem dX12_lowland_102 : decode cX12_lowland 102 = .ok (.aload_n 0, 1) := by decide +kernel
theorem dX12_lowland_103 : decode cX12_lowland 103 = .ok (.getfield 112, 3) := by decide +kernel
theorem dX12_lowland_106 : decode cX12_lowland 106 = .ok (.imul, 1) := by decide +kernel
theorem dX12_lowland_107 : decode cX12_lowland 107 = .ok (.iload_n 1, 1) := by decide +kernel
theorem dX12_lowland_108 : decode cX12_lowland 108 = .ok (.iadd, 1) := by decide +kernel
theorem dX12_lowland_109 : decode cX12_lowland 109 = .ok (.iconst (-1), 1) := by decide +kernel
theorem dX12_lowland_110 : decode cX12_lowland 110 = .ok (.iastore, 1) := by decide +kernel
theorem dX12_lowland_111 : decode cX12_lowland 111 = .ok (.iinc 1 1, 3) := by decide +kernel
theorem dX12_lowland_114 : decode cX12_lowland 114 = .ok (.goto (-22), 3) := by decide +kernel
theorem dX12_lowland_117 : decode cX12_lowland 117 = .ok (.aload_n 0, 1) := by decide +kernel
theorem dX12_lowland_118 : decode cX12_lowland 118 = .ok (.iconst 0, 1) := by decide +kernel
theorem dX12_lowland_119 : decode cX12_lowland 119 = .ok (.putfield 109, 3) := by decide +kernel
theorem dX12_lowland_122 : decode cX12_lowland 122 = .ok (.iconst 0, 1) := by decide +kernel
theorem dX12_lowland_123 : decode cX12_lowland 123 = .ok (.istore_n 1, 1) := by decide +kernel
theorem dX12_lowland_124 : decode cX12_lowland 124 = .ok (.aload_n 0, 1) := by decide +kernel
theorem dX12_lowland_125 : decode cX12_lowland 125 = .ok (.invokevirtual 258, 3) := by decide +kernel
theorem dX12_lowland_128 : decode cX12_lowland 128 = .ok (.aload_n 0, 1) := by decide +kernel
theorem dX12_lowland_129 : decode cX12_lowland 129 = .ok (.getfield 36, 3) := by decide +kernel
theorem dX12_lowland_132 : decode cX12_lowland 132 = .ok (.ifCond .ne 25, 3) := by decide +kernel
theorem dX12_lowland_135 : decode cX12_lowland 135 = .ok (.aload_n 0, 1) := by decide +kernel
theorem dX12_lowland_136 : decode cX12_lowland 136 = .ok (.getfield 20, 3) := by decide +kernel
theorem dX12_lowland_139 : decode cX12_lowland 139 = .ok (.ifCond .eq 18, 3) := by decide +kernel
theorem dX12_lowland_142 : decode cX12_lowland 142 = .ok (.aload_n 0, 1) := by decide +kernel
theorem dX12_lowland_143 : decode cX12_lowland 143 = .ok (.invokevirtual 406, 3) := by decide +kernel
theorem dX12_lowland_146 : decode cX12_lowland 146 = .ok (.iinc 1 1, 3) := by decide +kernel
theorem dX12_lowland_149 : decode cX12_lowland 149 = .ok (.aload_n 0, 1) := by decide +kernel
theorem dX12_lowland_150 : decode cX12_lowland 150 = .ok (.iload_n 1, 1) := by decide +kernel
theorem dX12_lowland_151 : decode cX12_lowland 151 = .ok (.invokevirtual 409, 3) := by decide +kernel
theorem dX12_lowland_154 : decode cX12_lowland 154 = .ok (.goto (-26), 3) := by decide +kernel
theorem dX12_lowland_157 : decode cX12_lowland 157 = .ok (.aload_n 0, 1) := by decide +kernel
theorem dX12_lowland_158 : decode cX12_lowland 158 = .ok (.aload_n 0, 1) := by decide +kernel
theorem dX12_lowland_159 : decode cX12_lowland 159 = .ok (.getfield 36, 3) := by decide +kernel
theorem dX12_lowland_162 : decode cX12_lowland 162 = .ok (.putfield 42, 3) := by decide +kernel
theorem dX12_lowland_165 : decode cX12_lowland 165 = .ok (.aload_n 0, 1) := by decide +kernel
theorem dX12_lowland_166 : decode cX12_lowland 166 = .ok (.aload_n 0, 1) := by decide +kernel
theorem dX12_lowland_167 : decode cX12_lowland 167 = .ok (.getfield 39, 3) := by decide +kernel
theorem dX12_lowland_170 : decode cX12_lowland 170 = .ok (.putfield 45, 3) := by decide +kernel
theorem dX12_lowland_173 : decode cX12_lowland 173 = .ok (.aload_n 0, 1) := by decide +kernel
theorem dX12_lowland_174 : decode cX12_lowland 174 = .ok (.getfield 36, 3) := by decide +kernel
theorem dX12_lowland_177 : decode cX12_lowland 177 = .ok (.ifCond .le 9, 3) := by decide +kernel
theorem dX12_lowland_180 : decode cX12_lowland 180 = .ok (.aload_n 0, 1) := by decide +kernel
theorem dX12_lowland_181 : decode cX12_lowland 181 = .ok (.iconst 1, 1) := by decide +kernel
theorem dX12_lowland_182 : decode cX12_lowland 182 = .ok (.invokevirtual 229, 3) := by decide +kernel
theorem dX12_lowland_185 : decode cX12_lowland 185 = .ok (.ireturn, 1) := by decide +kernel
theorem dX12_lowland_186 : decode cX12_lowland 186 = .ok (.aload_n 0, 1) := by decide +kernel
theorem dX12_lowland_187 : decode cX12_lowland 187 = .ok (.aload_n 0, 1) := by decide +kernel
theorem dX12_lowland_188 : decode cX12_lowland 188 = .ok (.getfield 112, 3) := by decide +kernel
theorem dX12_lowland_191 : decode cX12_lowland 191 = .ok (.putfield 51, 3) := by decide +kernel
theorem dX12_lowland_194 : decode cX12_lowland 194 = .ok (.aload_n 0, 1) := by decide +kernel
theorem dX12_lowland_195 : decode cX12_lowland 195 = .ok (.invokevirtual 412, 3) := by decide +kernel
theorem dX12_lowland_198 : decode cX12_lowland 198 = .ok (.iload_n 1, 1) := by decide +kernel
theorem dX12_lowland_199 : decode cX12_lowland 199 = .ok (.ireturn, 1) := by decide +kernel
theorem dX12_fault_0 : decode cX12_fault 0 = .ok (.iload_n 1, 1) := by decide +kernel
theorem dX12_fault_1 : decode cX12_fault 1 = .ok (.ifCond .ne 10, 3) := by decide +kernel
theorem dX12_fault_4 : decode cX12_fault 4 = .ok (.aload_n 0, 1) := by decide +kernel
theorem dX12_fault_5 : decode cX12_fault 5 = .ok (.getfield 42, 3) := by decide +kernel
theorem dX12_fault_8 : decode cX12_fault 8 = .ok (.goto 16, 3) := by decide +kernel
theorem dX12_fault_11 : decode cX12_fault 11 = .ok (.iload_n 1, 1) := by decide +kernel
theorem dX12_fault_12 : decode cX12_fault 12 = .ok (.iconst 1, 1) := by decide +kernel
theorem dX12_fault_13 : decode cX12_fault 13 = .ok (.if_icmp .ne 10, 3) := by decide +kernel
theorem dX12_fault_16 : decode cX12_fault 16 = .ok (.aload_n 0, 1) := by decide +kernel
theorem dX12_fault_17 : decode cX12_fault 17 = .ok (.getfield 45, 3) := by decide +kernel
theorem dX12_fault_20 : decode cX12_fault 20 = .ok (.goto 4, 3) := by decide +kernel
theorem dX12_fault_23 : decode cX12_fault 23 = .ok (.iconst (-1), 1) := by decide +kernel
theorem dX12_fault_24 : decode cX12_fault 24 = .ok (.ireturn, 1) := by decide +kernel
theorem dX12_refuses_0 : decode cX12_refuses 0 = .ok (.aload_n 0, 1) := by decide +kernel
theorem dX12_refuses_1 : decode cX12_refuses 1 = .ok (.getfield 150, 3) := by decide +kernel
theorem dX12_refuses_4 : decode cX12_refuses 4 = .ok (.iload_n 1, 1) := by decide +kernel
theorem dX12_refuses_5 : decode cX12_refuses 5 = .ok (.dup2, 1) := by decide +kernel
theorem dX12_refuses_6 : decode cX12_refuses 6 = .ok (.iaload, 1) := by decide +kernel
theorem dX12_refuses_7 : decode cX12_refuses 7 = .ok (.iconst 1, 1) := by decide +kernel
theorem dX12_refuses_8 : decode cX12_refuses 8 = .ok (.iadd, 1) := by decide +kernel
theorem dX12_refuses_9 : decode cX12_refuses 9 = .ok (.iastore, 1) := by decide +kernel
theorem dX12_refuses_10 : decode cX12_refuses 10 = .ok (.iconst (-1), 1) := by decide +kernel
theorem dX12_refuses_11 : decode cX12_refuses 11 = .ok (.ireturn, 1) := by decide +kernel
theorem dX12_status_0 : decode cX12_status 0 = .ok (.iload_n 1, 1) := by decide +kernel
theorem dX12_status_1 : decode cX12_status 1 = .ok (.iconst 0, 1) := by decide +kernel
theorem dX12_status_2 : decode cX12_status 2 = .ok (.iconst 5, 1) := by decide +kernel
theorem dX12_status_3 : decode cX12_status 3 = .ok (.invokestatic 319, 3) := by decide +kernel
theorem dX12_status_6 : decode cX12_status 6 = .ok (.ifCond .eq 12, 3) := by decide +kernel
theorem dX12_status_9 : decode cX12_status 9 = .ok (.aload_n 0, 1) := by decide +kernel
theorem dX12_status_10 : decode cX12_status 10 = .ok (.getfield 150, 3) := by decide +kernel
theorem dX12_status_13 : decode cX12_status 13 = .ok (.iload_n 1, 1) := by decide +kernel
theorem dX12_status_14 : decode cX12_status 14 = .ok (.iaload, 1) := by decide +kernel
theorem dX12_status_15 : decode cX12_status 15 = .ok (.goto 4, 3) := by decide +kernel
theorem dX12_status_18 : decode cX12_status 18 = .ok (.iconst (-1), 1) := by decide +kernel
theorem dX12_status_19 : decode cX12_status 19 = .ok (.ireturn, 1) := by decide +kernel
theorem dX12_copies_0 : decode cX12_copies 0 = .ok (.aload_n 0, 1) := by decide +kernel
theorem dX12_copies_1 : decode cX12_copies 1 = .ok (.getfield 153, 3) := by decide +kernel
theorem dX12_copies_4 : decode cX12_copies 4 = .ok (.iload_n 1, 1) := by decide +kernel
theorem dX12_copies_5 : decode cX12_copies 5 = .ok (.aload_n 0, 1) := by decide +kernel
theorem dX12_copies_6 : decode cX12_copies 6 = .ok (.getfield 153, 3) := by decide +kernel
theorem dX12_copies_9 : decode cX12_copies 9 = .ok (.iload_n 2, 1) := by decide +kernel
theorem dX12_copies_10 : decode cX12_copies 10 = .ok (.iaload, 1) := by decide +kernel
theorem dX12_copies_11 : decode cX12_copies 11 = .ok (.iastore, 1) := by decide +kernel
theorem dX12_copies_12 : decode cX12_copies 12 = .ok (.iconst 0, 1) := by decide +kernel
theorem dX12_copies_13 : decode cX12_copies 13 = .ok (.istore_n 3, 1) := by decide +kernel
theorem dX12_copies_14 : decode cX12_copies 14 = .ok (.iload_n 3, 1) := by decide +kernel
theorem dX12_copies_15 : decode cX12_copies 15 = .ok (.bipush 8, 2) := by decide +kernel
theorem dX12_copies_17 : decode cX12_copies 17 = .ok (.if_icmp .ge 75, 3) := by decide +kernel
theorem dX12_copies_20 : decode cX12_copies 20 = .ok (.aload_n 0, 1) := by decide +kernel
theorem dX12_copies_21 : decode cX12_copies 21 = .ok (.getfield 156, 3) := by decide +kernel
theorem dX12_copies_24 : decode cX12_copies 24 = .ok (.bipush 8, 2) := by decide +kernel
theorem dX12_copies_26 : decode cX12_copies 26 = .ok (.iload_n 1, 1) := by decide +kernel
theorem dX12_copies_27 : decode cX12_copies 27 = .ok (.imul, 1) := by decide +kernel
theorem dX12_copies_28 : decode cX12_copies 28 = .ok (.iload_n 3, 1) := by decide +kernel
theorem dX12_copies_29 : decode cX12_copies 29 = .ok (.iadd, 1) := by decide +kernel
theorem dX12_copies_30 : decode cX12_copies 30 = .ok (.aload_n 0, 1) := by decide +kernel
theorem dX12_copies_31 : decode cX12_copies 31 = .ok (.getfield 156, 3) := by decide +kernel
theorem dX12_copies_34 : decode cX12_copies 34 = .ok (.bipush 8, 2) := by decide +kernel
theorem dX12_copies_36 : decode cX12_copies 36 = .ok (.iload_n 2, 1) := by decide +kernel
theorem dX12_copies_37 : decode cX12_copies 37 = .ok (.imul, 1) := by decide +kernel
theorem dX12_copies_38 : decode cX12_copies 38 = .ok (.iload_n 3, 1) := by decide +kernel
theorem dX12_copies_39 : decode cX12_copies 39 = .ok (.iadd, 1) := by decide +kernel
theorem dX12_copies_40 : decode cX12_copies 40 = .ok (.iaload, 1) := by decide +kernel
theorem dX12_copies_41 : decode cX12_copies 41 = .ok (.iastore, 1) := by decide +kernel
theorem dX12_copies_42 : decode cX12_copies 42 = .ok (.aload_n 0, 1) := by decide +kernel
theorem dX12_copies_43 : decode cX12_copies 43 = .ok (.getfield 159, 3) := by decide +kernel
theorem dX12_copies_46 : decode cX12_copies 46 = .ok (.bipush 8, 2) := by decide +kernel
theorem dX12_copies_48 : decode cX12_copies 48 = .ok (.iload_n 1, 1) := by decide +kernel
theorem dX12_copies_49 : decode cX12_copies 49 = .ok (.imul, 1) := by decide +kernel
theorem dX12_copies_50 : decode cX12_copies 50 = .ok (.iload_n 3, 1) := by decide +kernel
theorem dX12_copies_51 : decode cX12_copies 51 = .ok (.iadd, 1) := by decide +kernel
theorem dX12_copies_52 : decode cX12_copies 52 = .ok (.aload_n 0, 1) := by decide +kernel
theorem dX12_copies_53 : decode cX12_copies 53 = .ok (.getfield 159, 3) := by decide +kernel
theorem dX12_copies_56 : decode cX12_copies 56 = .ok (.bipush 8, 2) := by decide +kernel
theorem dX12_copies_58 : decode cX12_copies 58 = .ok (.iload_n 2, 1) := by decide +kernel
theorem dX12_copies_59 : decode cX12_copies 59 = .ok (.imul, 1) := by decide +kernel
theorem dX12_copies_60 : decode cX12_copies 60 = .ok (.iload_n 3, 1) := by decide +kernel
theorem dX12_copies_61 : decode cX12_copies 61 = .ok (.iadd, 1) := by decide +kernel
theorem dX12_copies_62 : decode cX12_copies 62 = .ok (.iaload, 1) := by decide +kernel
theorem dX12_copies_63 : decode cX12_copies 63 = .ok (.iastore, 1) := by decide +kernel
theorem dX12_copies_64 : decode cX12_copies 64 = .ok (.aload_n 0, 1) := by decide +kernel
theorem dX12_copies_65 : decode cX12_copies 65 = .ok (.getfield 162, 3) := by decide +kernel
theorem dX12_copies_68 : decode cX12_copies 68 = .ok (.bipush 8, 2) := by decide +kernel
theorem dX12_copies_70 : decode cX12_copies 70 = .ok (.iload_n 1, 1) := by decide +kernel
theorem dX12_copies_71 : decode cX12_copies 71 = .ok (.imul, 1) := by decide +kernel
theorem dX12_copies_72 : decode cX12_copies 72 = .ok (.iload_n 3, 1) := by decide +kernel
theorem dX12_copies_73 : decode cX12_copies 73 = .ok (.iadd, 1) := by decide +kernel
theorem dX12_copies_74 : decode cX12_copies 74 = .ok (.aload_n 0, 1) := by decide +kernel
theorem dX12_copies_75 : decode cX12_copies 75 = .ok (.getfield 162, 3) := by decide +kernel
theorem dX12_copies_78 : decode cX12_copies 78 = .ok (.bipush 8, 2) := by decide +kernel
theorem dX12_copies_80 : decode cX12_copies 80 = .ok (.iload_n 2, 1) := by decide +kernel
theorem dX12_copies_81 : decode cX12_copies 81 = .ok (.imul, 1) := by decide +kernel
theorem dX12_copies_82 : decode cX12_copies 82 = .ok (.iload_n 3, 1) := by decide +kernel
theorem dX12_copies_83 : decode cX12_copies 83 = .ok (.iadd, 1) := by decide +kernel
theorem dX12_copies_84 : decode cX12_copies 84 = .ok (.iaload, 1) := by decide +kernel
theorem dX12_copies_85 : decode cX12_copies 85 = .ok (.iastore, 1) := by decide +kernel
theorem dX12_copies_86 : decode cX12_copies 86 = .ok (.iinc 3 1, 3) := by decide +kernel
theorem dX12_copies_89 : decode cX12_copies 89 = .ok (.goto (-75), 3) := by decide +kernel
theorem dX12_copies_92 : decode cX12_copies 92 = .ok (.iconst 0, 1) := by decide +kernel
theorem dX12_copies_93 : decode cX12_copies 93 = .ok (.istore_n 3, 1) := by decide +kernel
theorem dX12_copies_94 : decode cX12_copies 94 = .ok (.iload_n 3, 1) := by decide +kernel
theorem dX12_copies_95 : decode cX12_copies 95 = .ok (.bipush 36, 2) := by decide +kernel
theorem dX12_copies_97 : decode cX12_copies 97 = .ok (.if_icmp .ge 31, 3) := by decide +kernel
theorem dX12_copies_100 : decode cX12_copies 100 = .ok (.aload_n 0, 1) := by decide +kernel
theorem dX12_copies_101 : decode cX12_copies 101 = .ok (.getfield 165, 3) := by decide +kernel
theorem dX12_copies_104 : decode cX12_copies 104 = .ok (.bipush 36, 2) := by decide +kernel
theorem dX12_copies_106 : decode cX12_copies 106 = .ok (.iload_n 1, 1) := by decide +kernel
theorem dX12_copies_107 : decode cX12_copies 107 = .ok (.imul, 1) := by decide +kernel
theorem dX12_copies_108 : decode cX12_copies 108 = .ok (.iload_n 3, 1) := by decide +kernel
theorem dX12_copies_109 : decode cX12_copies 109 = .ok (.iadd, 1) := by decide +kernel
theorem dX12_copies_110 : decode cX12_copies 110 = .ok (.aload_n 0, 1) := by decide +kernel
theorem dX12_copies_111 : decode cX12_copies 111 = .ok (.getfield 165, 3) := by decide +kernel
theorem dX12_copies_114 : decode cX12_copies 114 = .ok (.bipush 36, 2) := by decide +kernel
theorem dX12_copies_116 : decode cX12_copies 116 = .ok (.iload_n 2, 1) := by decide +kernel
theorem dX12_copies_117 : decode cX12_copies 117 = .ok (.imul, 1) := by decide +kernel
theorem dX12_copies_118 : decode cX12_copies 118 = .ok (.iload_n 3, 1) := by decide +kernel
theorem dX12_copies_119 : decode cX12_copies 119 = .ok (.iadd, 1) := by decide +kernel
theorem dX12_copies_120 : decode cX12_copies 120 = .ok (.iaload, 1) := by decide +kernel
theorem dX12_copies_121 : decode cX12_copies 121 = .ok (.iastore, 1) := by decide +kernel
theorem dX12_copies_122 : decode cX12_copies 122 = .ok (.iinc 3 1, 3) := by decide +kernel
theorem dX12_copies_125 : decode cX12_copies 125 = .ok (.goto (-31), 3) := by decide +kernel
theorem dX12_copies_128 : decode cX12_copies 128 = .ok (.aload_n 0, 1) := by decide +kernel
theorem dX12_copies_129 : decode cX12_copies 129 = .ok (.getfield 168, 3) := by decide +kernel
theorem dX12_copies_132 : decode cX12_copies 132 = .ok (.iload_n 1, 1) := by decide +kernel
theorem dX12_copies_133 : decode cX12_copies 133 = .ok (.aload_n 0, 1) := by decide +kernel
theorem dX12_copies_134 : decode cX12_copies 134 = .ok (.getfield 168, 3) := by decide +kernel
theorem dX12_copies_137 : decode cX12_copies 137 = .ok (.iload_n 2, 1) := by decide +kernel
theorem dX12_copies_138 : decode cX12_copies 138 = .ok (.iaload, 1) := by decide +kernel
theorem dX12_copies_139 : decode cX12_copies 139 = .ok (.iastore, 1) := by decide +kernel
theorem dX12_copies_140 : decode cX12_copies 140 = .ok (.iconst 0, 1) := by decide +kernel
theorem dX12_copies_141 : decode cX12_copies 141 = .ok (.istore_n 3, 1) := by decide +kernel
theorem dX12_copies_142 : decode cX12_copies 142 = .ok (.iload_n 3, 1) := by decide +kernel
theorem dX12_copies_143 : decode cX12_copies 143 = .ok (.iconst 4, 1) := by decide +kernel
theorem dX12_copies_144 : decode cX12_copies 144 = .ok (.aload_n 0, 1) := by decide +kernel
theorem dX12_copies_145 : decode cX12_copies 145 = .ok (.getfield 168, 3) := by decide +kernel
theorem dX12_copies_148 : decode cX12_copies 148 = .ok (.iload_n 2, 1) := by decide +kernel
theorem dX12_copies_149 : decode cX12_copies 149 = .ok (.iaload, 1) := by decide +kernel
theorem dX12_copies_150 : decode cX12_copies 150 = .ok (.imul, 1) := by decide +kernel
theorem dX12_copies_151 : decode cX12_copies 151 = .ok (.if_icmp .ge 33, 3) := by decide +kernel
theorem dX12_copies_154 : decode cX12_copies 154 = .ok (.aload_n 0, 1) := by decide +kernel
theorem dX12_copies_155 : decode cX12_copies 155 = .ok (.getfield 171, 3) := by decide +kernel
theorem dX12_copies_158 : decode cX12_copies 158 = .ok (.sipush 160, 3) := by decide +kernel
theorem dX12_copies_161 : decode cX12_copies 161 = .ok (.iload_n 1, 1) := by decide +kernel
theorem dX12_copies_162 : decode cX12_copies 162 = .ok (.imul, 1) := by decide +kernel
theorem dX12_copies_163 : decode cX12_copies 163 = .ok (.iload_n 3, 1) := by decide +kernel
theorem dX12_copies_164 : decode cX12_copies 164 = .ok (.iadd, 1) := by decide +kernel
theorem dX12_copies_165 : decode cX12_copies 165 = .ok (.aload_n 0, 1) := by decide +kernel
theorem dX12_copies_166 : decode cX12_copies 166 = .ok (.getfield 171, 3) := by decide +kernel
theorem dX12_copies_169 : decode cX12_copies 169 = .ok (.sipush 160, 3) := by decide +kernel
theorem dX12_copies_172 : decode cX12_copies 172 = .ok (.iload_n 2, 1) := by decide +kernel
theorem dX12_copies_173 : decode cX12_copies 173 = .ok (.imul, 1) := by decide +kernel
theorem dX12_copies_174 : decode cX12_copies 174 = .ok (.iload_n 3, 1) := by decide +kernel
theorem dX12_copies_175 : decode cX12_copies 175 = .ok (.iadd, 1) := by decide +kernel
theorem dX12_copies_176 : decode cX12_copies 176 = .ok (.iaload, 1) := by decide +kernel
theorem dX12_copies_177 : decode cX12_copies 177 = .ok (.iastore, 1) := by decide +kernel
theorem dX12_copies_178 : decode cX12_copies 178 = .ok (.iinc 3 1, 3) := by decide +kernel
theorem dX12_copies_181 : decode cX12_copies 181 = .ok (.goto (-39), 3) := by decide +kernel
theorem dX12_copies_184 : decode cX12_copies 184 = .ok (.return_, 1) := by decide +kernel
theorem dX12_begin_0 : decode cX12_begin 0 = .ok (.aload_n 0, 1) := by decide +kernel
theorem dX12_begin_1 : decode cX12_begin 1 = .ok (.getfield 153, 3) := by decide +kernel
theorem dX12_begin_4 : decode cX12_begin 4 = .ok (.iconst 0, 1) := by decide +kernel
theorem dX12_begin_5 : decode cX12_begin 5 = .ok (.iconst 0, 1) := by decide +kernel
theorem dX12_begin_6 : decode cX12_begin 6 = .ok (.iastore, 1) := by decide +kernel
theorem dX12_begin_7 : decode cX12_begin 7 = .ok (.iconst 0, 1) := by decide +kernel
theorem dX12_begin_8 : decode cX12_begin 8 = .ok (.istore_n 1, 1) := by decide +kernel
theorem dX12_begin_9 : decode cX12_begin 9 = .ok (.iload_n 1, 1) := by decide +kernel
theorem dX12_begin_10 : decode cX12_begin 10 = .ok (.bipush 8, 2) := by decide +kernel
theorem dX12_begin_12 : decode cX12_begin 12 = .ok (.if_icmp .ge 112, 3) := by decide +kernel
theorem dX12_begin_15 : decode cX12_begin 15 = .ok (.iload_n 1, 1) := by decide +kernel
theorem dX12_begin_16 : decode cX12_begin 16 = .ok (.aload_n 0, 1) := by decide +kernel
theorem dX12_begin_17 : decode cX12_begin 17 = .ok (.getfield 66, 3) := by decide +kernel
theorem dX12_begin_20 : decode cX12_begin 20 = .ok (.aload_n 0, 1) := by decide +kernel
theorem dX12_begin_21 : decode cX12_begin 21 = .ok (.getfield 51, 3) := by decide +kernel
theorem dX12_begin_24 : decode cX12_begin 24 = .ok (.iaload, 1) := by decide +kernel
theorem dX12_begin_25 : decode cX12_begin 25 = .ok (.if_icmp .ge 7, 3) := by decide +kernel
theorem dX12_begin_28 : decode cX12_begin 28 = .ok (.iconst 1, 1) := by decide +kernel
theorem dX12_begin_29 : decode cX12_begin 29 = .ok (.goto 4, 3) := by decide +kernel
theorem dX12_begin_32 : decode cX12_begin 32 = .ok (.iconst 0, 1) := by decide +kernel
theorem dX12_begin_33 : decode cX12_begin 33 = .ok (.istore_n 2, 1) := by decide +kernel
theorem dX12_begin_34 : decode cX12_begin 34 = .ok (.aload_n 0, 1) := by decide +kernel
theorem dX12_begin_35 : decode cX12_begin 35 = .ok (.getfield 156, 3) := by decide +kernel
theorem dX12_begin_38 : decode cX12_begin 38 = .ok (.iload_n 1, 1) := by decide +kernel
theorem dX12_begin_39 : decode cX12_begin 39 = .ok (.iload_n 2, 1) := by decide +kernel
theorem dX12_begin_40 : decode cX12_begin 40 = .ok (.ifCond .eq 20, 3) := by decide +kernel
theorem dX12_begin_43 : decode cX12_begin 43 = .ok (.aload_n 0, 1) := by decide +kernel
theorem dX12_begin_44 : decode cX12_begin 44 = .ok (.getfield 69, 3) := by decide +kernel
theorem dX12_begin_47 : decode cX12_begin 47 = .ok (.bipush 8, 2) := by decide +kernel
theorem dX12_begin_49 : decode cX12_begin 49 = .ok (.aload_n 0, 1) := by decide +kernel
theorem dX12_begin_50 : decode cX12_begin 50 = .ok (.getfield 51, 3) := by decide +kernel
theorem dX12_begin_53 : decode cX12_begin 53 = .ok (.imul, 1) := by decide +kernel
theorem dX12_begin_54 : decode cX12_begin 54 = .ok (.iload_n 1, 1) := by decide +kernel
theorem dX12_begin_55 : decode cX12_begin 55 = .ok (.iadd, 1) := by decide +kernel
theorem dX12_begin_56 : decode cX12_begin 56 = .ok (.iaload, 1) := by decide +kernel
theorem dX12_begin_57 : decode cX12_begin 57 = .ok (.goto 4, 3) := by decide +kernel
theorem dX12_begin_60 : decode cX12_begin 60 = .ok (.iconst 0, 1) := by decide +kernel
theorem dX12_begin_61 : decode cX12_begin 61 = .ok (.iastore, 1) := by decide +kernel
theorem dX12_begin_62 : decode cX12_begin 62 = .ok (.aload_n 0, 1) := by decide +kernel
theorem dX12_begin_63 : decode cX12_begin 63 = .ok (.getfield 159, 3) := by decide +kernel
theorem dX12_begin_66 : decode cX12_begin 66 = .ok (.iload_n 1, 1) := by decide +kernel
theorem dX12_begin_67 : decode cX12_begin 67 = .ok (.iload_n 2, 1) := by decide +kernel
theorem dX12_begin_68 : decode cX12_begin 68 = .ok (.ifCond .eq 20, 3) := by decide +kernel
theorem dX12_begin_71 : decode cX12_begin 71 = .ok (.aload_n 0, 1) := by decide +kernel
theorem dX12_begin_72 : decode cX12_begin 72 = .ok (.getfield 72, 3) := by decide +kernel
theorem dX12_begin_75 : decode cX12_begin 75 = .ok (.bipush 8, 2) := by decide +kernel
theorem dX12_begin_77 : decode cX12_begin 77 = .ok (.aload_n 0, 1) := by decide +kernel
theorem dX12_begin_78 : decode cX12_begin 78 = .ok (.getfield 51, 3) := by decide +kernel
theorem dX12_begin_81 : decode cX12_begin 81 = .ok (.imul, 1) := by decide +kernel
theorem dX12_begin_82 : decode cX12_begin 82 = .ok (.iload_n 1, 1) := by decide +kernel
theorem dX12_begin_83 : decode cX12_begin 83 = .ok (.iadd, 1) := by decide +kernel
theorem dX12_begin_84 : decode cX12_begin 84 = .ok (.iaload, 1) := by decide +kernel
theorem dX12_begin_85 : decode cX12_begin 85 = .ok (.goto 4, 3) := by decide +kernel
theorem dX12_begin_88 : decode cX12_begin 88 = .ok (.iconst (-1), 1) := by decide +kernel
theorem dX12_begin_89 : decode cX12_begin 89 = .ok (.iastore, 1) := by decide +kernel
theorem dX12_begin_90 : decode cX12_begin 90 = .ok (.aload_n 0, 1) := by decide +kernel
theorem dX12_begin_91 : decode cX12_begin 91 = .ok (.getfield 162, 3) := by decide +kernel
theorem dX12_begin_94 : decode cX12_begin 94 = .ok (.iload_n 1, 1) := by decide +kernel
theorem dX12_begin_95 : decode cX12_begin 95 = .ok (.iload_n 2, 1) := by decide +kernel
theorem dX12_begin_96 : decode cX12_begin 96 = .ok (.ifCond .eq 20, 3) := by decide +kernel
theorem dX12_begin_99 : decode cX12_begin 99 = .ok (.aload_n 0, 1) := by decide +kernel
theorem dX12_begin_100 : decode cX12_begin 100 = .ok (.getfield 75, 3) := by decide +kernel
theorem dX12_begin_103 : decode cX12_begin 103 = .ok (.bipush 8, 2) := by decide +kernel
theorem dX12_begin_105 : decode cX12_begin 105 = .ok (.aload_n 0, 1) := by decide +kernel
theorem dX12_begin_106 : decode cX12_begin 106 = .ok (.getfield 51, 3) := by decide +kernel
theorem dX12_begin_109 : decode cX12_begin 109 = .ok (.imul, 1) := by decide +kernel
theorem dX12_begin_110 : decode cX12_begin 110 = .ok (.iload_n 1, 1) := by decide +kernel
theorem dX12_begin_111 : decode cX12_begin 111 = .ok (.iadd, 1) := by decide +kernel
theorem dX12_begin_112 : decode cX12_begin 112 = .ok (.iaload, 1) := by decide +kernel
theorem dX12_begin_113 : decode cX12_begin 113 = .ok (.goto 4, 3) := by decide +kernel
theorem dX12_begin_116 : decode cX12_begin 116 = .ok (.iconst (-1), 1) := by decide +kernel
theorem dX12_begin_117 : decode cX12_begin 117 = .ok (.iastore, 1) := by decide +kernel
theorem dX12_begin_118 : decode cX12_begin 118 = .ok (.iinc 1 1, 3) := by decide +kernel
theorem dX12_begin_121 : decode cX12_begin 121 = .ok (.goto (-112), 3) := by decide +kernel
theorem dX12_begin_124 : decode cX12_begin 124 = .ok (.iconst 0, 1) := by decide +kernel
theorem dX12_begin_125 : decode cX12_begin 125 = .ok (.istore_n 1, 1) := by decide +kernel
theorem dX12_begin_126 : decode cX12_begin 126 = .ok (.iload_n 1, 1) := by decide +kernel
theorem dX12_begin_127 : decode cX12_begin 127 = .ok (.bipush 6, 2) := by decide +kernel
theorem dX12_begin_129 : decode cX12_begin 129 = .ok (.if_icmp .ge 83, 3) := by decide +kernel
theorem dX12_begin_132 : decode cX12_begin 132 = .ok (.iconst 0, 1) := by decide +kernel
theorem dX12_begin_133 : decode cX12_begin 133 = .ok (.istore_n 2, 1) := by decide +kernel
theorem dX12_begin_134 : decode cX12_begin 134 = .ok (.iload_n 2, 1) := by decide +kernel
theorem dX12_begin_135 : decode cX12_begin 135 = .ok (.bipush 6, 2) := by decide +kernel
theorem dX12_begin_137 : decode cX12_begin 137 = .ok (.if_icmp .ge 69, 3) := by decide +kernel
theorem dX12_begin_140 : decode cX12_begin 140 = .ok (.aload_n 0, 1) := by decide +kernel
theorem dX12_begin_141 : decode cX12_begin 141 = .ok (.getfield 165, 3) := by decide +kernel
theorem dX12_begin_144 : decode cX12_begin 144 = .ok (.bipush 6, 2) := by decide +kernel
theorem dX12_begin_146 : decode cX12_begin 146 = .ok (.iload_n 1, 1) := by decide +kernel
theorem dX12_begin_147 : decode cX12_begin 147 = .ok (.imul, 1) := by decide +kernel
theorem dX12_begin_148 : decode cX12_begin 148 = .ok (.iload_n 2, 1) := by decide +kernel
theorem dX12_begin_149 : decode cX12_begin 149 = .ok (.iadd, 1) := by decide +kernel
theorem dX12_begin_150 : decode cX12_begin 150 = .ok (.iload_n 1, 1) := by decide +kernel
theorem dX12_begin_151 : decode cX12_begin 151 = .ok (.aload_n 0, 1) := by decide +kernel
theorem dX12_begin_152 : decode cX12_begin 152 = .ok (.getfield 63, 3) := by decide +kernel
theorem dX12_begin_155 : decode cX12_begin 155 = .ok (.aload_n 0, 1) := by decide +kernel
theorem dX12_begin_156 : decode cX12_begin 156 = .ok (.getfield 51, 3) := by decide +kernel
theorem dX12_begin_159 : decode cX12_begin 159 = .ok (.iaload, 1) := by decide +kernel
theorem dX12_begin_160 : decode cX12_begin 160 = .ok (.if_icmp .ge 38, 3) := by decide +kernel
theorem dX12_begin_163 : decode cX12_begin 163 = .ok (.iload_n 2, 1) := by decide +kernel
theorem dX12_begin_164 : decode cX12_begin 164 = .ok (.aload_n 0, 1) := by decide +kernel
theorem dX12_begin_165 : decode cX12_begin 165 = .ok (.getfield 63, 3) := by decide +kernel
theorem dX12_begin_168 : decode cX12_begin 168 = .ok (.aload_n 0, 1) := by decide +kernel
theorem dX12_begin_169 : decode cX12_begin 169 = .ok (.getfield 51, 3) := by decide +kernel
theorem dX12_begin_172 : decode cX12_begin 172 = .ok (.iaload, 1) := by decide +kernel
theorem dX12_begin_173 : decode cX12_begin 173 = .ok (.if_icmp .ge 25, 3) := by decide +kernel
theorem dX12_begin_176 : decode cX12_begin 176 = .ok (.aload_n 0, 1) := by decide +kernel
theorem dX12_begin_177 : decode cX12_begin 177 = .ok (.getfield 78, 3) := by decide +kernel
theorem dX12_begin_180 : decode cX12_begin 180 = .ok (.bipush 6, 2) := by decide +kernel
theorem dX12_begin_182 : decode cX12_begin 182 = .ok (.bipush 6, 2) := by decide +kernel
theorem dX12_begin_184 : decode cX12_begin 184 = .ok (.aload_n 0, 1) := by decide +kernel
theorem dX12_begin_185 : decode cX12_begin 185 = .ok (.getfield 51, 3) := by decide +kernel
theorem dX12_begin_188 : decode cX12_begin 188 = .ok (.imul, 1) := by decide +kernel
theorem dX12_begin_189 : decode cX12_begin 189 = .ok (.iload_n 1, 1) := by decide +kernel
theorem dX12_begin_190 : decode cX12_begin 190 = .ok (.iadd, 1) := by decide +kernel
theorem dX12_begin_191 : decode cX12_begin 191 = .ok (.imul, 1) := by decide +kernel
theorem dX12_begin_192 : decode cX12_begin 192 = .ok (.iload_n 2, 1) := by decide +kernel
theorem dX12_begin_193 : decode cX12_begin 193 = .ok (.iadd, 1) := by decide +kernel
theorem dX12_begin_194 : decode cX12_begin 194 = .ok (.iaload, 1) := by decide +kernel
theorem dX12_begin_195 : decode cX12_begin 195 = .ok (.goto 4, 3) := by decide +kernel
theorem dX12_begin_198 : decode cX12_begin 198 = .ok (.iconst 0, 1) := by decide +kernel
theorem dX12_begin_199 : decode cX12_begin 199 = .ok (.iastore, 1) := by decide +kernel
theorem dX12_begin_200 : decode cX12_begin 200 = .ok (.iinc 2 1, 3) := by decide +kernel
theorem dX12_begin_203 : decode cX12_begin 203 = .ok (.goto (-69), 3) := by decide +kernel
theorem dX12_begin_206 : decode cX12_begin 206 = .ok (.iinc 1 1, 3) := by decide +kernel
theorem dX12_begin_209 : decode cX12_begin 209 = .ok (.goto (-83), 3) := by decide +kernel
theorem dX12_begin_212 : decode cX12_begin 212 = .ok (.aload_n 0, 1) := by decide +kernel
theorem dX12_begin_213 : decode cX12_begin 213 = .ok (.getfield 168, 3) := by decide +kernel
theorem dX12_begin_216 : decode cX12_begin 216 = .ok (.iconst 0, 1) := by decide +kernel
theorem dX12_begin_217 : decode cX12_begin 217 = .ok (.iconst 0, 1) := by decide +kernel
theorem dX12_begin_218 : decode cX12_begin 218 = .ok (.iastore, 1) := by decide +kernel
theorem dX12_begin_219 : decode cX12_begin 219 = .ok (.aload_n 0, 1) := by decide +kernel
theorem dX12_begin_220 : decode cX12_begin 220 = .ok (.iconst 0, 1) := by decide +kernel
theorem dX12_begin_221 : decode cX12_begin 221 = .ok (.putfield 177, 3) := by decide +kernel
theorem dX12_begin_224 : decode cX12_begin 224 = .ok (.aload_n 0, 1) := by decide +kernel
theorem dX12_begin_225 : decode cX12_begin 225 = .ok (.iconst 0, 1) := by decide +kernel
theorem dX12_begin_226 : decode cX12_begin 226 = .ok (.putfield 214, 3) := by decide +kernel
theorem dX12_begin_229 : decode cX12_begin 229 = .ok (.return_, 1) := by decide +kernel
theorem dX12_slot_0 : decode cX12_slot 0 = .ok (.bipush 6, 2) := by decide +kernel
theorem dX12_slot_2 : decode cX12_slot 2 = .ok (.aload_n 0, 1) := by decide +kernel
theorem dX12_slot_3 : decode cX12_slot 3 = .ok (.getfield 174, 3) := by decide +kernel
theorem dX12_slot_6 : decode cX12_slot 6 = .ok (.iload_n 1, 1) := by decide +kernel
theorem dX12_slot_7 : decode cX12_slot 7 = .ok (.iadd, 1) := by decide +kernel
theorem dX12_slot_8 : decode cX12_slot 8 = .ok (.bipush 20, 2) := by decide +kernel
theorem dX12_slot_10 : decode cX12_slot 10 = .ok (.irem, 1) := by decide +kernel
theorem dX12_slot_11 : decode cX12_slot 11 = .ok (.iadd, 1) := by decide +kernel
theorem dX12_slot_12 : decode cX12_slot 12 = .ok (.ireturn, 1) := by decide +kernel
theorem dX12_keeps_0 : decode cX12_keeps 0 = .ok (.aload_n 0, 1) := by decide +kernel
theorem dX12_keeps_1 : decode cX12_keeps 1 = .ok (.getfield 177, 3) := by decide +kernel
theorem dX12_keeps_4 : decode cX12_keeps 4 = .ok (.bipush 20, 2) := by decide +kernel
theorem dX12_keeps_6 : decode cX12_keeps 6 = .ok (.if_icmp .ne 26, 3) := by decide +kernel
theorem dX12_keeps_9 : decode cX12_keeps 9 = .ok (.aload_n 0, 1) := by decide +kernel
theorem dX12_keeps_10 : decode cX12_keeps 10 = .ok (.aload_n 0, 1) := by decide +kernel
theorem dX12_keeps_11 : decode cX12_keeps 11 = .ok (.getfield 174, 3) := by decide +kernel
theorem dX12_keeps_14 : decode cX12_keeps 14 = .ok (.iconst 1, 1) := by decide +kernel
theorem dX12_keeps_15 : decode cX12_keeps 15 = .ok (.iadd, 1) := by decide +kernel
theorem dX12_keeps_16 : decode cX12_keeps 16 = .ok (.bipush 20, 2) := by decide +kernel
theorem dX12_keeps_18 : decode cX12_keeps 18 = .ok (.irem, 1) := by decide +kernel
theorem dX12_keeps_19 : decode cX12_keeps 19 = .ok (.putfield 174, 3) := by decide +kernel
theorem dX12_keeps_22 : decode cX12_keeps 22 = .ok (.aload_n 0, 1) := by decide +kernel
theorem dX12_keeps_23 : decode cX12_keeps 23 = .ok (.dup, 1) := by decide +kernel
theorem dX12_keeps_24 : decode cX12_keeps 24 = .ok (.getfield 177, 3) := by decide +kernel
theorem dX12_keeps_27 : decode cX12_keeps 27 = .ok (.iconst 1, 1) := by decide +kernel
theorem dX12_keeps_28 : decode cX12_keeps 28 = .ok (.isub, 1) := by decide +kernel
theorem dX12_keeps_29 : decode cX12_keeps 29 = .ok (.putfield 177, 3) := by decide +kernel
theorem dX12_keeps_32 : decode cX12_keeps 32 = .ok (.aload_n 0, 1) := by decide +kernel
theorem dX12_keeps_33 : decode cX12_keeps 33 = .ok (.aload_n 0, 1) := by decide +kernel
theorem dX12_keeps_34 : decode cX12_keeps 34 = .ok (.aload_n 0, 1) := by decide +kernel
theorem dX12_keeps_35 : decode cX12_keeps 35 = .ok (.getfield 177, 3) := by decide +kernel
theorem dX12_keeps_38 : decode cX12_keeps 38 = .ok (.invokevirtual 415, 3) := by decide +kernel
theorem dX12_keeps_41 : decode cX12_keeps 41 = .ok (.iconst 0, 1) := by decide +kernel
theorem dX12_keeps_42 : decode cX12_keeps 42 = .ok (.invokevirtual 418, 3) := by decide +kernel
theorem dX12_keeps_45 : decode cX12_keeps 45 = .ok (.aload_n 0, 1) := by decide +kernel
theorem dX12_keeps_46 : decode cX12_keeps 46 = .ok (.dup, 1) := by decide +kernel
theorem dX12_keeps_47 : decode cX12_keeps 47 = .ok (.getfield 177, 3) := by decide +kernel
theorem dX12_keeps_50 : decode cX12_keeps 50 = .ok (.iconst 1, 1) := by decide +kernel
theorem dX12_keeps_51 : decode cX12_keeps 51 = .ok (.iadd, 1) := by decide +kernel
theorem dX12_keeps_52 : decode cX12_keeps 52 = .ok (.putfield 177, 3) := by decide +kernel
theorem dX12_keeps_55 : decode cX12_keeps 55 = .ok (.return_, 1) := by decide +kernel
theorem dX12_undo_0 : decode cX12_undo 0 = .ok (.aload_n 0, 1) := by decide +kernel
theorem dX12_undo_1 : decode cX12_undo 1 = .ok (.getfield 177, 3) := by decide +kernel
theorem dX12_undo_4 : decode cX12_undo 4 = .ok (.ifCond .ne 17, 3) := by decide +kernel
theorem dX12_undo_7 : decode cX12_undo 7 = .ok (.aload_n 0, 1) := by decide +kernel
theorem dX12_undo_8 : decode cX12_undo 8 = .ok (.iconst 4, 1) := by decide +kernel
theorem dX12_undo_9 : decode cX12_undo 9 = .ok (.invokevirtual 229, 3) := by decide +kernel
theorem dX12_undo_12 : decode cX12_undo 12 = .ok (.ifCond .lt 7, 3) := by decide +kernel
theorem dX12_undo_15 : decode cX12_undo 15 = .ok (.iconst 1, 1) := by decide +kernel
theorem dX12_undo_16 : decode cX12_undo 16 = .ok (.goto 4, 3) := by decide +kernel
theorem dX12_undo_19 : decode cX12_undo 19 = .ok (.iconst 0, 1) := by decide +kernel
theorem dX12_undo_20 : decode cX12_undo 20 = .ok (.ireturn, 1) := by decide +kernel
theorem dX12_undo_21 : decode cX12_undo 21 = .ok (.aload_n 0, 1) := by decide +kernel
theorem dX12_undo_22 : decode cX12_undo 22 = .ok (.dup, 1) := by decide +kernel
theorem dX12_undo_23 : decode cX12_undo 23 = .ok (.getfield 177, 3) := by decide +kernel
theorem dX12_undo_26 : decode cX12_undo 26 = .ok (.iconst 1, 1) := by decide +kernel
theorem dX12_undo_27 : decode cX12_undo 27 = .ok (.isub, 1) := by decide +kernel
theorem dX12_undo_28 : decode cX12_undo 28 = .ok (.putfield 177, 3) := by decide +kernel
theorem dX12_undo_31 : decode cX12_undo 31 = .ok (.aload_n 0, 1) := by decide +kernel
theorem dX12_undo_32 : decode cX12_undo 32 = .ok (.iconst 0, 1) := by decide +kernel
theorem dX12_undo_33 : decode cX12_undo 33 = .ok (.aload_n 0, 1) := by decide +kernel
theorem dX12_undo_34 : decode cX12_undo 34 = .ok (.aload_n 0, 1) := by decide +kernel
theorem dX12_undo_35 : decode cX12_undo 35 = .ok (.getfield 177, 3) := by decide +kernel
theorem dX12_undo_38 : decode cX12_undo 38 = .ok (.invokevirtual 415, 3) := by decide +kernel
theorem dX12_undo_41 : decode cX12_undo 41 = .ok (.invokevirtual 418, 3) := by decide +kernel
theorem dX12_undo_44 : decode cX12_undo 44 = .ok (.iconst 1, 1) := by decide +kernel
theorem dX12_undo_45 : decode cX12_undo 45 = .ok (.ireturn, 1) := by decide +kernel
theorem dX12_held_0 : decode cX12_held 0 = .ok (.lload_n 0, 1) := by decide +kernel
theorem dX12_held_1 : decode cX12_held 1 = .ok (.ldc2_w 421, 3) := by decide +kernel
theorem dX12_held_4 : decode cX12_held 4 = .ok (.lcmp, 1) := by decide +kernel
theorem dX12_held_5 : decode cX12_held 5 = .ok (.ifCond .le 9, 3) := by decide +kernel
theorem dX12_held_8 : decode cX12_held 8 = .ok (.ldc2_w 421, 3) := by decide +kernel
theorem dX12_held_11 : decode cX12_held 11 = .ok (.goto 18, 3) := by decide +kernel
theorem dX12_held_14 : decode cX12_held 14 = .ok (.lload_n 0, 1) := by decide +kernel
theorem dX12_held_15 : decode cX12_held 15 = .ok (.ldc2_w 423, 3) := by decide +kernel
theorem dX12_held_18 : decode cX12_held 18 = .ok (.lcmp, 1) := by decide +kernel
theorem dX12_held_19 : decode cX12_held 19 = .ok (.ifCond .ge 9, 3) := by decide +kernel
theorem dX12_held_22 : decode cX12_held 22 = .ok (.ldc2_w 423, 3) := by decide +kernel
theorem dX12_held_25 : decode cX12_held 25 = .ok (.goto 4, 3) := by decide +kernel
theorem dX12_held_28 : decode cX12_held 28 = .ok (.lload_n 0, 1) := by decide +kernel
theorem dX12_held_29 : decode cX12_held 29 = .ok (.lreturn, 1) := by decide +kernel
theorem dX12_floor_0 : decode cX12_floor 0 = .ok (.lload_n 2, 1) := by decide +kernel
theorem dX12_floor_1 : decode cX12_floor 1 = .ok (.lconst 0, 1) := by decide +kernel
theorem dX12_floor_2 : decode cX12_floor 2 = .ok (.lcmp, 1) := by decide +kernel
theorem dX12_floor_3 : decode cX12_floor 3 = .ok (.ifCond .ne 5, 3) := by decide +kernel
theorem dX12_floor_6 : decode cX12_floor 6 = .ok (.lconst 0, 1) := by decide +kernel
theorem dX12_floor_7 : decode cX12_floor 7 = .ok (.lreturn, 1) := by decide +kernel
theorem dX12_floor_8 : decode cX12_floor 8 = .ok (.lload_n 0, 1) := by decide +kernel
theorem dX12_floor_9 : decode cX12_floor 9 = .ok (.lload_n 2, 1) := by decide +kernel
theorem dX12_floor_10 : decode cX12_floor 10 = .ok (.ldiv, 1) := by decide +kernel
theorem dX12_floor_11 : decode cX12_floor 11 = .ok (.lstore 4, 2) := by decide +kernel
theorem dX12_floor_13 : decode cX12_floor 13 = .ok (.lload_n 0, 1) := by decide +kernel
theorem dX12_floor_14 : decode cX12_floor 14 = .ok (.lload_n 2, 1) := by decide +kernel
theorem dX12_floor_15 : decode cX12_floor 15 = .ok (.lrem, 1) := by decide +kernel
theorem dX12_floor_16 : decode cX12_floor 16 = .ok (.lconst 0, 1) := by decide +kernel
theorem dX12_floor_17 : decode cX12_floor 17 = .ok (.lcmp, 1) := by decide +kernel
theorem dX12_floor_18 : decode cX12_floor 18 = .ok (.ifCond .eq 35, 3) := by decide +kernel
theorem dX12_floor_21 : decode cX12_floor 21 = .ok (.lload_n 0, 1) := by decide +kernel
theorem dX12_floor_22 : decode cX12_floor 22 = .ok (.lconst 0, 1) := by decide +kernel
theorem dX12_floor_23 : decode cX12_floor 23 = .ok (.lcmp, 1) := by decide +kernel
theorem dX12_floor_24 : decode cX12_floor 24 = .ok (.ifCond .ge 7, 3) := by decide +kernel
theorem dX12_floor_27 : decode cX12_floor 27 = .ok (.iconst 1, 1) := by decide +kernel
theorem dX12_floor_28 : decode cX12_floor 28 = .ok (.goto 4, 3) := by decide +kernel
theorem dX12_floor_31 : decode cX12_floor 31 = .ok (.iconst 0, 1) := by decide +kernel
theorem dX12_floor_32 : decode cX12_floor 32 = .ok (.lload_n 2, 1) := by decide +kernel
theorem dX12_floor_33 : decode cX12_floor 33 = .ok (.lconst 0, 1) := by decide +kernel
theorem dX12_floor_34 : decode cX12_floor 34 = .ok (.lcmp, 1) := by decide +kernel
theorem dX12_floor_35 : decode cX12_floor 35 = .ok (.ifCond .ge 7, 3) := by decide +kernel
theorem dX12_floor_38 : decode cX12_floor 38 = .ok (.iconst 1, 1) := by decide +kernel
theorem dX12_floor_39 : decode cX12_floor 39 = .ok (.goto 4, 3) := by decide +kernel
theorem dX12_floor_42 : decode cX12_floor 42 = .ok (.iconst 0, 1) := by decide +kernel
theorem dX12_floor_43 : decode cX12_floor 43 = .ok (.if_icmp .eq 10, 3) := by decide +kernel
theorem dX12_floor_46 : decode cX12_floor 46 = .ok (.lload 4, 2) := by decide +kernel
theorem dX12_floor_48 : decode cX12_floor 48 = .ok (.lconst 1, 1) := by decide +kernel
theorem dX12_floor_49 : decode cX12_floor 49 = .ok (.lsub, 1) := by decide +kernel
theorem dX12_floor_50 : decode cX12_floor 50 = .ok (.goto 5, 3) := by decide +kernel
theorem dX12_floor_53 : decode cX12_floor 53 = .ok (.lload 4, 2) := by decide +kernel
theorem dX12_floor_55 : decode cX12_floor 55 = .ok (.lreturn, 1) := by decide +kernel
theorem dX12_two_0 : decode cX12_two 0 = .ok (.iload_n 0, 1) := by decide +kernel
theorem dX12_two_1 : decode cX12_two 1 = .ok (.tableswitch 176 31 41 #[59, 66, 73, 80, 89, 112, 124, 136, 148, 160, 172], 59) := by decide +kernel
theorem dX12_two_60 : decode cX12_two 60 = .ok (.lload_n 1, 1) := by decide +kernel
theorem dX12_two_61 : decode cX12_two 61 = .ok (.lload_n 3, 1) := by decide +kernel
theorem dX12_two_62 : decode cX12_two 62 = .ok (.ladd, 1) := by decide +kernel
theorem dX12_two_63 : decode cX12_two 63 = .ok (.invokestatic 425, 3) := by decide +kernel
theorem dX12_two_66 : decode cX12_two 66 = .ok (.lreturn, 1) := by decide +kernel
theorem dX12_two_67 : decode cX12_two 67 = .ok (.lload_n 1, 1) := by decide +kernel
theorem dX12_two_68 : decode cX12_two 68 = .ok (.lload_n 3, 1) := by decide +kernel
theorem dX12_two_69 : decode cX12_two 69 = .ok (.lsub, 1) := by decide +kernel
theorem dX12_two_70 : decode cX12_two 70 = .ok (.invokestatic 425, 3) := by decide +kernel
theorem dX12_two_73 : decode cX12_two 73 = .ok (.lreturn, 1) := by decide +kernel
theorem dX12_two_74 : decode cX12_two 74 = .ok (.lload_n 1, 1) := by decide +kernel
theorem dX12_two_75 : decode cX12_two 75 = .ok (.lload_n 3, 1) := by decide +kernel
theorem dX12_two_76 : decode cX12_two 76 = .ok (.lmul, 1) := by decide +kernel
theorem dX12_two_77 : decode cX12_two 77 = .ok (.invokestatic 425, 3) := by decide +kernel
theorem dX12_two_80 : decode cX12_two 80 = .ok (.lreturn, 1) := by decide +kernel
theorem dX12_two_81 : decode cX12_two 81 = .ok (.lload_n 1, 1) := by decide +kernel
theorem dX12_two_82 : decode cX12_two 82 = .ok (.lload_n 3, 1) := by decide +kernel
theorem dX12_two_83 : decode cX12_two 83 = .ok (.invokestatic 429, 3) := by decide +kernel
theorem dX12_two_86 : decode cX12_two 86 = .ok (.invokestatic 425, 3) := by decide +kernel
theorem dX12_two_89 : decode cX12_two 89 = .ok (.lreturn, 1) := by decide +kernel
theorem dX12_two_90 : decode cX12_two 90 = .ok (.lload_n 3, 1) := by decide +kernel
theorem dX12_two_91 : decode cX12_two 91 = .ok (.lconst 0, 1) := by decide +kernel
theorem dX12_two_92 : decode cX12_two 92 = .ok (.lcmp, 1) := by decide +kernel
theorem dX12_two_93 : decode cX12_two 93 = .ok (.ifCond .ne 7, 3) := by decide +kernel
theorem dX12_two_96 : decode cX12_two 96 = .ok (.lconst 0, 1) := by decide +kernel
theorem dX12_two_97 : decode cX12_two 97 = .ok (.goto 15, 3) := by decide +kernel
theorem dX12_two_100 : decode cX12_two 100 = .ok (.lload_n 1, 1) := by decide +kernel
theorem dX12_two_101 : decode cX12_two 101 = .ok (.lload_n 3, 1) := by decide +kernel
theorem dX12_two_102 : decode cX12_two 102 = .ok (.lload_n 1, 1) := by decide +kernel
theorem dX12_two_103 : decode cX12_two 103 = .ok (.lload_n 3, 1) := by decide +kernel
theorem dX12_two_104 : decode cX12_two 104 = .ok (.invokestatic 429, 3) := by decide +kernel
theorem dX12_two_107 : decode cX12_two 107 = .ok (.lmul, 1) := by decide +kernel
theorem dX12_two_108 : decode cX12_two 108 = .ok (.lsub, 1) := by decide +kernel
theorem dX12_two_109 : decode cX12_two 109 = .ok (.invokestatic 425, 3) := by decide +kernel
theorem dX12_two_112 : decode cX12_two 112 = .ok (.lreturn, 1) := by decide +kernel
theorem dX12_two_113 : decode cX12_two 113 = .ok (.lload_n 1, 1) := by decide +kernel
theorem dX12_two_114 : decode cX12_two 114 = .ok (.lload_n 3, 1) := by decide +kernel
theorem dX12_two_115 : decode cX12_two 115 = .ok (.lcmp, 1) := by decide +kernel
theorem dX12_two_116 : decode cX12_two 116 = .ok (.ifCond .ge 7, 3) := by decide +kernel
theorem dX12_two_119 : decode cX12_two 119 = .ok (.lload_n 1, 1) := by decide +kernel
theorem dX12_two_120 : decode cX12_two 120 = .ok (.goto 4, 3) := by decide +kernel
theorem dX12_two_123 : decode cX12_two 123 = .ok (.lload_n 3, 1) := by decide +kernel
theorem dX12_two_124 : decode cX12_two 124 = .ok (.lreturn, 1) := by decide +kernel
theorem dX12_two_125 : decode cX12_two 125 = .ok (.lload_n 1, 1) := by decide +kernel
theorem dX12_two_126 : decode cX12_two 126 = .ok (.lload_n 3, 1) := by decide +kernel
theorem dX12_two_127 : decode cX12_two 127 = .ok (.lcmp, 1) := by decide +kernel
theorem dX12_two_128 : decode cX12_two 128 = .ok (.ifCond .le 7, 3) := by decide +kernel
theorem dX12_two_131 : decode cX12_two 131 = .ok (.lload_n 1, 1) := by decide +kernel
theorem dX12_two_132 : decode cX12_two 132 = .ok (.goto 4, 3) := by decide +kernel
theorem dX12_two_135 : decode cX12_two 135 = .ok (.lload_n 3, 1) := by decide +kernel
theorem dX12_two_136 : decode cX12_two 136 = .ok (.lreturn, 1) := by decide +kernel
theorem dX12_two_137 : decode cX12_two 137 = .ok (.lload_n 1, 1) := by decide +kernel
theorem dX12_two_138 : decode cX12_two 138 = .ok (.lload_n 3, 1) := by decide +kernel
theorem dX12_two_139 : decode cX12_two 139 = .ok (.lcmp, 1) := by decide +kernel
theorem dX12_two_140 : decode cX12_two 140 = .ok (.ifCond .ge 7, 3) := by decide +kernel
theorem dX12_two_143 : decode cX12_two 143 = .ok (.lconst 1, 1) := by decide +kernel
theorem dX12_two_144 : decode cX12_two 144 = .ok (.goto 4, 3) := by decide +kernel
theorem dX12_two_147 : decode cX12_two 147 = .ok (.lconst 0, 1) := by decide +kernel
theorem dX12_two_148 : decode cX12_two 148 = .ok (.lreturn, 1) := by decide +kernel
theorem dX12_two_149 : decode cX12_two 149 = .ok (.lload_n 1, 1) := by decide +kernel
theorem dX12_two_150 : decode cX12_two 150 = .ok (.lload_n 3, 1) := by decide +kernel
theorem dX12_two_151 : decode cX12_two 151 = .ok (.lcmp, 1) := by decide +kernel
theorem dX12_two_152 : decode cX12_two 152 = .ok (.ifCond .le 7, 3) := by decide +kernel
theorem dX12_two_155 : decode cX12_two 155 = .ok (.lconst 1, 1) := by decide +kernel
theorem dX12_two_156 : decode cX12_two 156 = .ok (.goto 4, 3) := by decide +kernel
theorem dX12_two_159 : decode cX12_two 159 = .ok (.lconst 0, 1) := by decide +kernel
theorem dX12_two_160 : decode cX12_two 160 = .ok (.lreturn, 1) := by decide +kernel
theorem dX12_two_161 : decode cX12_two 161 = .ok (.lload_n 1, 1) := by decide +kernel
theorem dX12_two_162 : decode cX12_two 162 = .ok (.lload_n 3, 1) := by decide +kernel
theorem dX12_two_163 : decode cX12_two 163 = .ok (.lcmp, 1) := by decide +kernel
theorem dX12_two_164 : decode cX12_two 164 = .ok (.ifCond .ne 7, 3) := by decide +kernel
theorem dX12_two_167 : decode cX12_two 167 = .ok (.lconst 1, 1) := by decide +kernel
theorem dX12_two_168 : decode cX12_two 168 = .ok (.goto 4, 3) := by decide +kernel
theorem dX12_two_171 : decode cX12_two 171 = .ok (.lconst 0, 1) := by decide +kernel
theorem dX12_two_172 : decode cX12_two 172 = .ok (.lreturn, 1) := by decide +kernel
theorem dX12_two_173 : decode cX12_two 173 = .ok (.lload_n 1, 1) := by decide +kernel
theorem dX12_two_174 : decode cX12_two 174 = .ok (.lload_n 3, 1) := by decide +kernel
theorem dX12_two_175 : decode cX12_two 175 = .ok (.land, 1) := by decide +kernel
theorem dX12_two_176 : decode cX12_two 176 = .ok (.lreturn, 1) := by decide +kernel
theorem dX12_two_177 : decode cX12_two 177 = .ok (.lload_n 1, 1) := by decide +kernel
theorem dX12_two_178 : decode cX12_two 178 = .ok (.lload_n 3, 1) := by decide +kernel
theorem dX12_two_179 : decode cX12_two 179 = .ok (.lor, 1) := by decide +kernel
theorem dX12_two_180 : decode cX12_two 180 = .ok (.lreturn, 1) := by decide +kernel
theorem dX12_reckons_0 : decode cX12_reckons 0 = .ok (.iconst 0, 1) := by decide +kernel
theorem dX12_reckons_1 : decode cX12_reckons 1 = .ok (.istore_n 2, 1) := by decide +kernel
theorem dX12_reckons_2 : decode cX12_reckons 2 = .ok (.sipush 1600, 3) := by decide +kernel
theorem dX12_reckons_5 : decode cX12_reckons 5 = .ok (.aload_n 0, 1) := by decide +kernel
theorem dX12_reckons_6 : decode cX12_reckons 6 = .ok (.getfield 51, 3) := by decide +kernel
theorem dX12_reckons_9 : decode cX12_reckons 9 = .ok (.imul, 1) := by decide +kernel
theorem dX12_reckons_10 : decode cX12_reckons 10 = .ok (.aload_n 0, 1) := by decide +kernel
theorem dX12_reckons_11 : decode cX12_reckons 11 = .ok (.getfield 87, 3) := by decide +kernel
theorem dX12_reckons_14 : decode cX12_reckons 14 = .ok (.iconst 3, 1) := by decide +kernel
theorem dX12_reckons_15 : decode cX12_reckons 15 = .ok (.aload_n 0, 1) := by decide +kernel
theorem dX12_reckons_16 : decode cX12_reckons 16 = .ok (.getfield 51, 3) := by decide +kernel
theorem dX12_reckons_19 : decode cX12_reckons 19 = .ok (.imul, 1) := by decide +kernel
theorem dX12_reckons_20 : decode cX12_reckons 20 = .ok (.iload_n 1, 1) := by decide +kernel
theorem dX12_reckons_21 : decode cX12_reckons 21 = .ok (.iadd, 1) := by decide +kernel
theorem dX12_reckons_22 : decode cX12_reckons 22 = .ok (.iaload, 1) := by decide +kernel
theorem dX12_reckons_23 : decode cX12_reckons 23 = .ok (.iadd, 1) := by decide +kernel
theorem dX12_reckons_24 : decode cX12_reckons 24 = .ok (.istore_n 3, 1) := by decide +kernel
theorem dX12_reckons_25 : decode cX12_reckons 25 = .ok (.iload_n 3, 1) := by decide +kernel
theorem dX12_reckons_26 : decode cX12_reckons 26 = .ok (.sipush 1600, 3) := by decide +kernel
theorem dX12_reckons_29 : decode cX12_reckons 29 = .ok (.aload_n 0, 1) := by decide +kernel
theorem dX12_reckons_30 : decode cX12_reckons 30 = .ok (.getfield 51, 3) := by decide +kernel
theorem dX12_reckons_33 : decode cX12_reckons 33 = .ok (.imul, 1) := by decide +kernel
theorem dX12_reckons_34 : decode cX12_reckons 34 = .ok (.aload_n 0, 1) := by decide +kernel
theorem dX12_reckons_35 : decode cX12_reckons 35 = .ok (.getfield 90, 3) := by decide +kernel
theorem dX12_reckons_38 : decode cX12_reckons 38 = .ok (.iconst 3, 1) := by decide +kernel
theorem dX12_reckons_39 : decode cX12_reckons 39 = .ok (.aload_n 0, 1) := by decide +kernel
theorem dX12_reckons_40 : decode cX12_reckons 40 = .ok (.getfield 51, 3) := by decide +kernel
theorem dX12_reckons_43 : decode cX12_reckons 43 = .ok (.imul, 1) := by decide +kernel
theorem dX12_reckons_44 : decode cX12_reckons 44 = .ok (.iload_n 1, 1) := by decide +kernel
theorem dX12_reckons_45 : decode cX12_reckons 45 = .ok (.iadd, 1) := by decide +kernel
theorem dX12_reckons_46 : decode cX12_reckons 46 = .ok (.iaload, 1) := by decide +kernel
theorem dX12_reckons_47 : decode cX12_reckons 47 = .ok (.iadd, 1) := by decide +kernel
theorem dX12_reckons_48 : decode cX12_reckons 48 = .ok (.if_icmp .ge 179, 3) := by decide +kernel
theorem dX12_reckons_51 : decode cX12_reckons 51 = .ok (.aload_n 0, 1) := by decide +kernel
theorem dX12_reckons_52 : decode cX12_reckons 52 = .ok (.getfield 93, 3) := by decide +kernel
theorem dX12_reckons_55 : decode cX12_reckons 55 = .ok (.iload_n 3, 1) := by decide +kernel
theorem dX12_reckons_56 : decode cX12_reckons 56 = .ok (.iaload, 1) := by decide +kernel
theorem dX12_reckons_57 : decode cX12_reckons 57 = .ok (.istore 4, 2) := by decide +kernel
theorem dX12_reckons_59 : decode cX12_reckons 59 = .ok (.iload 4, 2) := by decide +kernel
theorem dX12_reckons_61 : decode cX12_reckons 61 = .ok (.bipush 30, 2) := by decide +kernel
theorem dX12_reckons_63 : decode cX12_reckons 63 = .ok (.if_icmp .gt 49, 3) := by decide +kernel
theorem dX12_reckons_66 : decode cX12_reckons 66 = .ok (.aload_n 0, 1) := by decide +kernel
theorem dX12_reckons_67 : decode cX12_reckons 67 = .ok (.getfield 183, 3) := by decide +kernel
theorem dX12_reckons_70 : decode cX12_reckons 70 = .ok (.iload_n 2, 1) := by decide +kernel
theorem dX12_reckons_71 : decode cX12_reckons 71 = .ok (.iload 4, 2) := by decide +kernel
theorem dX12_reckons_73 : decode cX12_reckons 73 = .ok (.ifCond .ne 13, 3) := by decide +kernel
theorem dX12_reckons_76 : decode cX12_reckons 76 = .ok (.aload_n 0, 1) := by decide +kernel
theorem dX12_reckons_77 : decode cX12_reckons 77 = .ok (.getfield 96, 3) := by decide +kernel
theorem dX12_reckons_80 : decode cX12_reckons 80 = .ok (.iload_n 3, 1) := by decide +kernel
theorem dX12_reckons_81 : decode cX12_reckons 81 = .ok (.iaload, 1) := by decide +kernel
theorem dX12_reckons_82 : decode cX12_reckons 82 = .ok (.i2l, 1) := by decide +kernel
theorem dX12_reckons_83 : decode cX12_reckons 83 = .ok (.goto 22, 3) := by decide +kernel
theorem dX12_reckons_86 : decode cX12_reckons 86 = .ok (.iload 4, 2) := by decide +kernel
theorem dX12_reckons_88 : decode cX12_reckons 88 = .ok (.bipush 30, 2) := by decide +kernel
theorem dX12_reckons_90 : decode cX12_reckons 90 = .ok (.if_icmp .ne 7, 3) := by decide +kernel
theorem dX12_reckons_93 : decode cX12_reckons 93 = .ok (.lconst 1, 1) := by decide +kernel
theorem dX12_reckons_94 : decode cX12_reckons 94 = .ok (.goto 11, 3) := by decide +kernel
theorem dX12_reckons_97 : decode cX12_reckons 97 = .ok (.aload_n 0, 1) := by decide +kernel
theorem dX12_reckons_98 : decode cX12_reckons 98 = .ok (.getfield 186, 3) := by decide +kernel
theorem dX12_reckons_101 : decode cX12_reckons 101 = .ok (.iload 4, 2) := by decide +kernel
theorem dX12_reckons_103 : decode cX12_reckons 103 = .ok (.iaload, 1) := by decide +kernel
theorem dX12_reckons_104 : decode cX12_reckons 104 = .ok (.i2l, 1) := by decide +kernel
theorem dX12_reckons_105 : decode cX12_reckons 105 = .ok (.lastore, 1) := by decide +kernel
theorem dX12_reckons_106 : decode cX12_reckons 106 = .ok (.iinc 2 1, 3) := by decide +kernel
theorem dX12_reckons_109 : decode cX12_reckons 109 = .ok (.goto 112, 3) := by decide +kernel
theorem dX12_reckons_112 : decode cX12_reckons 112 = .ok (.iload 4, 2) := by decide +kernel
theorem dX12_reckons_114 : decode cX12_reckons 114 = .ok (.bipush 43, 2) := by decide +kernel
theorem dX12_reckons_116 : decode cX12_reckons 116 = .ok (.if_icmp .ne 24, 3) := by decide +kernel
theorem dX12_reckons_119 : decode cX12_reckons 119 = .ok (.aload_n 0, 1) := by decide +kernel
theorem dX12_reckons_120 : decode cX12_reckons 120 = .ok (.getfield 183, 3) := by decide +kernel
theorem dX12_reckons_123 : decode cX12_reckons 123 = .ok (.iload_n 2, 1) := by decide +kernel
theorem dX12_reckons_124 : decode cX12_reckons 124 = .ok (.iconst 1, 1) := by decide +kernel
theorem dX12_reckons_125 : decode cX12_reckons 125 = .ok (.isub, 1) := by decide +kernel
theorem dX12_reckons_126 : decode cX12_reckons 126 = .ok (.lconst 1, 1) := by decide +kernel
theorem dX12_reckons_127 : decode cX12_reckons 127 = .ok (.aload_n 0, 1) := by decide +kernel
theorem dX12_reckons_128 : decode cX12_reckons 128 = .ok (.getfield 183, 3) := by decide +kernel
theorem dX12_reckons_131 : decode cX12_reckons 131 = .ok (.iload_n 2, 1) := by decide +kernel
theorem dX12_reckons_132 : decode cX12_reckons 132 = .ok (.iconst 1, 1) := by decide +kernel
theorem dX12_reckons_133 : decode cX12_reckons 133 = .ok (.isub, 1) := by decide +kernel
theorem dX12_reckons_134 : decode cX12_reckons 134 = .ok (.laload, 1) := by decide +kernel
theorem dX12_reckons_135 : decode cX12_reckons 135 = .ok (.lsub, 1) := by decide +kernel
theorem dX12_reckons_136 : decode cX12_reckons 136 = .ok (.lastore, 1) := by decide +kernel
theorem dX12_reckons_137 : decode cX12_reckons 137 = .ok (.goto 84, 3) := by decide +kernel
theorem dX12_reckons_140 : decode cX12_reckons 140 = .ok (.iload 4, 2) := by decide +kernel
theorem dX12_reckons_142 : decode cX12_reckons 142 = .ok (.bipush 44, 2) := by decide +kernel
theorem dX12_reckons_144 : decode cX12_reckons 144 = .ok (.if_icmp .ne 47, 3) := by decide +kernel
theorem dX12_reckons_147 : decode cX12_reckons 147 = .ok (.iinc 2 (-2), 3) := by decide +kernel
theorem dX12_reckons_150 : decode cX12_reckons 150 = .ok (.aload_n 0, 1) := by decide +kernel
theorem dX12_reckons_151 : decode cX12_reckons 151 = .ok (.getfield 183, 3) := by decide +kernel
theorem dX12_reckons_154 : decode cX12_reckons 154 = .ok (.iload_n 2, 1) := by decide +kernel
theorem dX12_reckons_155 : decode cX12_reckons 155 = .ok (.iconst 1, 1) := by decide +kernel
theorem dX12_reckons_156 : decode cX12_reckons 156 = .ok (.isub, 1) := by decide +kernel
theorem dX12_reckons_157 : decode cX12_reckons 157 = .ok (.aload_n 0, 1) := by decide +kernel
theorem dX12_reckons_158 : decode cX12_reckons 158 = .ok (.getfield 183, 3) := by decide +kernel
theorem dX12_reckons_161 : decode cX12_reckons 161 = .ok (.iload_n 2, 1) := by decide +kernel
theorem dX12_reckons_162 : decode cX12_reckons 162 = .ok (.iconst 1, 1) := by decide +kernel
theorem dX12_reckons_163 : decode cX12_reckons 163 = .ok (.isub, 1) := by decide +kernel
theorem dX12_reckons_164 : decode cX12_reckons 164 = .ok (.laload, 1) := by decide +kernel
theorem dX12_reckons_165 : decode cX12_reckons 165 = .ok (.lconst 1, 1) := by decide +kernel
theorem dX12_reckons_166 : decode cX12_reckons 166 = .ok (.lcmp, 1) := by decide +kernel
theorem dX12_reckons_167 : decode cX12_reckons 167 = .ok (.ifCond .ne 12, 3) := by decide +kernel
theorem dX12_reckons_170 : decode cX12_reckons 170 = .ok (.aload_n 0, 1) := by decide +kernel
theorem dX12_reckons_171 : decode cX12_reckons 171 = .ok (.getfield 183, 3) := by decide +kernel
theorem dX12_reckons_174 : decode cX12_reckons 174 = .ok (.iload_n 2, 1) := by decide +kernel
theorem dX12_reckons_175 : decode cX12_reckons 175 = .ok (.laload, 1) := by decide +kernel
theorem dX12_reckons_176 : decode cX12_reckons 176 = .ok (.goto 11, 3) := by decide +kernel
theorem dX12_reckons_179 : decode cX12_reckons 179 = .ok (.aload_n 0, 1) := by decide +kernel
theorem dX12_reckons_180 : decode cX12_reckons 180 = .ok (.getfield 183, 3) := by decide +kernel
theorem dX12_reckons_183 : decode cX12_reckons 183 = .ok (.iload_n 2, 1) := by decide +kernel
theorem dX12_reckons_184 : decode cX12_reckons 184 = .ok (.iconst 1, 1) := by decide +kernel
theorem dX12_reckons_185 : decode cX12_reckons 185 = .ok (.iadd, 1) := by decide +kernel
theorem dX12_reckons_186 : decode cX12_reckons 186 = .ok (.laload, 1) := by decide +kernel
theorem dX12_reckons_187 : decode cX12_reckons 187 = .ok (.lastore, 1) := by decide +kernel
theorem dX12_reckons_188 : decode cX12_reckons 188 = .ok (.goto 33, 3) := by decide +kernel
theorem dX12_reckons_191 : decode cX12_reckons 191 = .ok (.iinc 2 (-1), 3) := by decide +kernel
theorem dX12_reckons_194 : decode cX12_reckons 194 = .ok (.aload_n 0, 1) := by decide +kernel
theorem dX12_reckons_195 : decode cX12_reckons 195 = .ok (.getfield 183, 3) := by decide +kernel
theorem dX12_reckons_198 : decode cX12_reckons 198 = .ok (.iload_n 2, 1) := by decide +kernel
theorem dX12_reckons_199 : decode cX12_reckons 199 = .ok (.iconst 1, 1) := by decide +kernel
theorem dX12_reckons_200 : decode cX12_reckons 200 = .ok (.isub, 1) := by decide +kernel
theorem dX12_reckons_201 : decode cX12_reckons 201 = .ok (.iload 4, 2) := by decide +kernel
theorem dX12_reckons_203 : decode cX12_reckons 203 = .ok (.aload_n 0, 1) := by decide +kernel
theorem dX12_reckons_204 : decode cX12_reckons 204 = .ok (.getfield 183, 3) := by decide +kernel
theorem dX12_reckons_207 : decode cX12_reckons 207 = .ok (.iload_n 2, 1) := by decide +kernel
theorem dX12_reckons_208 : decode cX12_reckons 208 = .ok (.iconst 1, 1) := by decide +kernel
theorem dX12_reckons_209 : decode cX12_reckons 209 = .ok (.isub, 1) := by decide +kernel
theorem dX12_reckons_210 : decode cX12_reckons 210 = .ok (.laload, 1) := by decide +kernel
theorem dX12_reckons_211 : decode cX12_reckons 211 = .ok (.aload_n 0, 1) := by decide +kernel
theorem dX12_reckons_212 : decode cX12_reckons 212 = .ok (.getfield 183, 3) := by decide +kernel
theorem dX12_reckons_215 : decode cX12_reckons 215 = .ok (.iload_n 2, 1) := by decide +kernel
theorem dX12_reckons_216 : decode cX12_reckons 216 = .ok (.laload, 1) := by decide +kernel
theorem dX12_reckons_217 : decode cX12_reckons 217 = .ok (.invokestatic 433, 3) := by decide +kernel
theorem dX12_reckons_220 : decode cX12_reckons 220 = .ok (.lastore, 1) := by decide +kernel
theorem dX12_reckons_221 : decode cX12_reckons 221 = .ok (.iinc 3 1, 3) := by decide +kernel
theorem dX12_reckons_224 : decode cX12_reckons 224 = .ok (.goto (-199), 3) := by decide +kernel
theorem dX12_reckons_227 : decode cX12_reckons 227 = .ok (.aload_n 0, 1) := by decide +kernel
theorem dX12_reckons_228 : decode cX12_reckons 228 = .ok (.getfield 183, 3) := by decide +kernel
theorem dX12_reckons_231 : decode cX12_reckons 231 = .ok (.iconst 0, 1) := by decide +kernel
theorem dX12_reckons_232 : decode cX12_reckons 232 = .ok (.laload, 1) := by decide +kernel
theorem dX12_reckons_233 : decode cX12_reckons 233 = .ok (.lreturn, 1) := by decide +kernel
theorem dX12_isTold_0 : decode cX12_isTold 0 = .ok (.aload_n 0, 1) := by decide +kernel
theorem dX12_isTold_1 : decode cX12_isTold 1 = .ok (.getfield 87, 3) := by decide +kernel
theorem dX12_isTold_4 : decode cX12_isTold 4 = .ok (.iconst 3, 1) := by decide +kernel
theorem dX12_isTold_5 : decode cX12_isTold 5 = .ok (.aload_n 0, 1) := by decide +kernel
theorem dX12_isTold_6 : decode cX12_isTold 6 = .ok (.getfield 51, 3) := by decide +kernel
theorem dX12_isTold_9 : decode cX12_isTold 9 = .ok (.imul, 1) := by decide +kernel
theorem dX12_isTold_10 : decode cX12_isTold 10 = .ok (.iload_n 1, 1) := by decide +kernel
theorem dX12_isTold_11 : decode cX12_isTold 11 = .ok (.iadd, 1) := by decide +kernel
theorem dX12_isTold_12 : decode cX12_isTold 12 = .ok (.iaload, 1) := by decide +kernel
theorem dX12_isTold_13 : decode cX12_isTold 13 = .ok (.iconst (-1), 1) := by decide +kernel
theorem dX12_isTold_14 : decode cX12_isTold 14 = .ok (.if_icmp .eq 7, 3) := by decide +kernel
theorem dX12_isTold_17 : decode cX12_isTold 17 = .ok (.iconst 1, 1) := by decide +kernel
theorem dX12_isTold_18 : decode cX12_isTold 18 = .ok (.goto 4, 3) := by decide +kernel
theorem dX12_isTold_21 : decode cX12_isTold 21 = .ok (.iconst 0, 1) := by decide +kernel
theorem dX12_isTold_22 : decode cX12_isTold 22 = .ok (.ireturn, 1) := by decide +kernel
theorem dX12_fill_0 : decode cX12_fill 0 = .ok (.aload_n 0, 1) := by decide +kernel
theorem dX12_fill_1 : decode cX12_fill 1 = .ok (.getfield 156, 3) := by decide +kernel
theorem dX12_fill_4 : decode cX12_fill 4 = .ok (.bipush 8, 2) := by decide +kernel
theorem dX12_fill_6 : decode cX12_fill 6 = .ok (.iload_n 1, 1) := by decide +kernel
theorem dX12_fill_7 : decode cX12_fill 7 = .ok (.imul, 1) := by decide +kernel
theorem dX12_fill_8 : decode cX12_fill 8 = .ok (.iload_n 2, 1) := by decide +kernel
theorem dX12_fill_9 : decode cX12_fill 9 = .ok (.iadd, 1) := by decide +kernel
theorem dX12_fill_10 : decode cX12_fill 10 = .ok (.iaload, 1) := by decide +kernel
theorem dX12_fill_11 : decode cX12_fill 11 = .ok (.ireturn, 1) := by decide +kernel
theorem dX12_liesIn_0 : decode cX12_liesIn 0 = .ok (.aload_n 0, 1) := by decide +kernel
theorem dX12_liesIn_1 : decode cX12_liesIn 1 = .ok (.getfield 159, 3) := by decide +kernel
theorem dX12_liesIn_4 : decode cX12_liesIn 4 = .ok (.bipush 8, 2) := by decide +kernel
theorem dX12_liesIn_6 : decode cX12_liesIn 6 = .ok (.iload_n 1, 1) := by decide +kernel
theorem dX12_liesIn_7 : decode cX12_liesIn 7 = .ok (.imul, 1) := by decide +kernel
theorem dX12_liesIn_8 : decode cX12_liesIn 8 = .ok (.iload_n 2, 1) := by decide +kernel
theorem dX12_liesIn_9 : decode cX12_liesIn 9 = .ok (.iadd, 1) := by decide +kernel
theorem dX12_liesIn_10 : decode cX12_liesIn 10 = .ok (.iaload, 1) := by decide +kernel
theorem dX12_liesIn_11 : decode cX12_liesIn 11 = .ok (.ireturn, 1) := by decide +kernel
theorem dX12_ownerOf_0 : decode cX12_ownerOf 0 = .ok (.aload_n 0, 1) := by decide +kernel
theorem dX12_ownerOf_1 : decode cX12_ownerOf 1 = .ok (.getfield 162, 3) := by decide +kernel
theorem dX12_ownerOf_4 : decode cX12_ownerOf 4 = .ok (.bipush 8, 2) := by decide +kernel
theorem dX12_ownerOf_6 : decode cX12_ownerOf 6 = .ok (.iload_n 1, 1) := by decide +kernel
theorem dX12_ownerOf_7 : decode cX12_ownerOf 7 = .ok (.imul, 1) := by decide +kernel
theorem dX12_ownerOf_8 : decode cX12_ownerOf 8 = .ok (.iload_n 2, 1) := by decide +kernel
theorem dX12_ownerOf_9 : decode cX12_ownerOf 9 = .ok (.iadd, 1) := by decide +kernel
theorem dX12_ownerOf_10 : decode cX12_ownerOf 10 = .ok (.iaload, 1) := by decide +kernel
theorem dX12_ownerOf_11 : decode cX12_ownerOf 11 = .ok (.ireturn, 1) := by decide +kernel
theorem dX12_beside_0 : decode cX12_beside 0 = .ok (.iconst 0, 1) := by decide +kernel
theorem dX12_beside_1 : decode cX12_beside 1 = .ok (.istore 4, 2) := by decide +kernel
theorem dX12_beside_3 : decode cX12_beside 3 = .ok (.iconst 0, 1) := by decide +kernel
theorem dX12_beside_4 : decode cX12_beside 4 = .ok (.istore 5, 2) := by decide +kernel
theorem dX12_beside_6 : decode cX12_beside 6 = .ok (.iload 5, 2) := by decide +kernel
theorem dX12_beside_8 : decode cX12_beside 8 = .ok (.aload_n 0, 1) := by decide +kernel
theorem dX12_beside_9 : decode cX12_beside 9 = .ok (.getfield 66, 3) := by decide +kernel
theorem dX12_beside_12 : decode cX12_beside 12 = .ok (.aload_n 0, 1) := by decide +kernel
theorem dX12_beside_13 : decode cX12_beside 13 = .ok (.getfield 51, 3) := by decide +kernel
theorem dX12_beside_16 : decode cX12_beside 16 = .ok (.iaload, 1) := by decide +kernel
theorem dX12_beside_17 : decode cX12_beside 17 = .ok (.if_icmp .ge 36, 3) := by decide +kernel
theorem dX12_beside_20 : decode cX12_beside 20 = .ok (.iload 4, 2) := by decide +kernel
theorem dX12_beside_22 : decode cX12_beside 22 = .ok (.iload 5, 2) := by decide +kernel
theorem dX12_beside_24 : decode cX12_beside 24 = .ok (.iload_n 3, 1) := by decide +kernel
theorem dX12_beside_25 : decode cX12_beside 25 = .ok (.if_icmp .eq 18, 3) := by decide +kernel
theorem dX12_beside_28 : decode cX12_beside 28 = .ok (.aload_n 0, 1) := by decide +kernel
theorem dX12_beside_29 : decode cX12_beside 29 = .ok (.iload_n 1, 1) := by decide +kernel
theorem dX12_beside_30 : decode cX12_beside 30 = .ok (.iload 5, 2) := by decide +kernel
theorem dX12_beside_32 : decode cX12_beside 32 = .ok (.invokevirtual 437, 3) := by decide +kernel
theorem dX12_beside_35 : decode cX12_beside 35 = .ok (.iload_n 2, 1) := by decide +kernel
theorem dX12_beside_36 : decode cX12_beside 36 = .ok (.if_icmp .ne 7, 3) := by decide +kernel
theorem dX12_beside_39 : decode cX12_beside 39 = .ok (.iconst 1, 1) := by decide +kernel
theorem dX12_beside_40 : decode cX12_beside 40 = .ok (.goto 4, 3) := by decide +kernel
theorem dX12_beside_43 : decode cX12_beside 43 = .ok (.iconst 0, 1) := by decide +kernel
theorem dX12_beside_44 : decode cX12_beside 44 = .ok (.iadd, 1) := by decide +kernel
theorem dX12_beside_45 : decode cX12_beside 45 = .ok (.istore 4, 2) := by decide +kernel
theorem dX12_beside_47 : decode cX12_beside 47 = .ok (.iinc 5 1, 3) := by decide +kernel
theorem dX12_beside_50 : decode cX12_beside 50 = .ok (.goto (-44), 3) := by decide +kernel
theorem dX12_beside_53 : decode cX12_beside 53 = .ok (.iload 4, 2) := by decide +kernel
theorem dX12_beside_55 : decode cX12_beside 55 = .ok (.ireturn, 1) := by decide +kernel
theorem dX12_room_0 : decode cX12_room 0 = .ok (.aload_n 0, 1) := by decide +kernel
theorem dX12_room_1 : decode cX12_room 1 = .ok (.getfield 57, 3) := by decide +kernel
theorem dX12_room_4 : decode cX12_room 4 = .ok (.bipush 8, 2) := by decide +kernel
theorem dX12_room_6 : decode cX12_room 6 = .ok (.aload_n 0, 1) := by decide +kernel
theorem dX12_room_7 : decode cX12_room 7 = .ok (.getfield 51, 3) := by decide +kernel
theorem dX12_room_10 : decode cX12_room 10 = .ok (.imul, 1) := by decide +kernel
theorem dX12_room_11 : decode cX12_room 11 = .ok (.iload_n 2, 1) := by decide +kernel
theorem dX12_room_12 : decode cX12_room 12 = .ok (.iadd, 1) := by decide +kernel
theorem dX12_room_13 : decode cX12_room 13 = .ok (.iaload, 1) := by decide +kernel
theorem dX12_room_14 : decode cX12_room 14 = .ok (.istore_n 3, 1) := by decide +kernel
theorem dX12_room_15 : decode cX12_room 15 = .ok (.iconst 0, 1) := by decide +kernel
theorem dX12_room_16 : decode cX12_room 16 = .ok (.istore 4, 2) := by decide +kernel
theorem dX12_room_18 : decode cX12_room 18 = .ok (.iload 4, 2) := by decide +kernel
theorem dX12_room_20 : decode cX12_room 20 = .ok (.aload_n 0, 1) := by decide +kernel
theorem dX12_room_21 : decode cX12_room 21 = .ok (.getfield 66, 3) := by decide +kernel
theorem dX12_room_24 : decode cX12_room 24 = .ok (.aload_n 0, 1) := by decide +kernel
theorem dX12_room_25 : decode cX12_room 25 = .ok (.getfield 51, 3) := by decide +kernel
theorem dX12_room_28 : decode cX12_room 28 = .ok (.iaload, 1) := by decide +kernel
theorem dX12_room_29 : decode cX12_room 29 = .ok (.if_icmp .ge 34, 3) := by decide +kernel
theorem dX12_room_32 : decode cX12_room 32 = .ok (.iload_n 3, 1) := by decide +kernel
theorem dX12_room_33 : decode cX12_room 33 = .ok (.aload_n 0, 1) := by decide +kernel
theorem dX12_room_34 : decode cX12_room 34 = .ok (.iload_n 1, 1) := by decide +kernel
theorem dX12_room_35 : decode cX12_room 35 = .ok (.iload 4, 2) := by decide +kernel
theorem dX12_room_37 : decode cX12_room 37 = .ok (.invokevirtual 437, 3) := by decide +kernel
theorem dX12_room_40 : decode cX12_room 40 = .ok (.iload_n 2, 1) := by decide +kernel
theorem dX12_room_41 : decode cX12_room 41 = .ok (.if_icmp .ne 13, 3) := by decide +kernel
