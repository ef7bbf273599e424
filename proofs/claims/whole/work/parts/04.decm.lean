theorem dX12_init_0 : decode cX12_init 0 = .ok (.aload_n 0, 1) := by decide +kernel
theorem dX12_init_1 : decode cX12_init 1 = .ok (.invokespecial 1, 3) := by decide +kernel
theorem dX12_init_4 : decode cX12_init 4 = .ok (.aload_n 0, 1) := by decide +kernel
theorem dX12_init_5 : decode cX12_init 5 = .ok (.iconst 1, 1) := by decide +kernel
theorem dX12_init_6 : decode cX12_init 6 = .ok (.putfield 7, 3) := by decide +kernel
theorem dX12_init_9 : decode cX12_init 9 = .ok (.aload_n 0, 1) := by decide +kernel
theorem dX12_init_10 : decode cX12_init 10 = .ok (.iconst 2, 1) := by decide +kernel
theorem dX12_init_11 : decode cX12_init 11 = .ok (.putfield 13, 3) := by decide +kernel
theorem dX12_init_14 : decode cX12_init 14 = .ok (.aload_n 0, 1) := by decide +kernel
theorem dX12_init_15 : decode cX12_init 15 = .ok (.iconst (-1), 1) := by decide +kernel
theorem dX12_init_16 : decode cX12_init 16 = .ok (.putfield 16, 3) := by decide +kernel
theorem dX12_init_19 : decode cX12_init 19 = .ok (.aload_n 0, 1) := by decide +kernel
theorem dX12_init_20 : decode cX12_init 20 = .ok (.bipush 48, 2) := by decide +kernel
theorem dX12_init_22 : decode cX12_init 22 = .ok (.newarray .int, 2) := by decide +kernel
theorem dX12_init_24 : decode cX12_init 24 = .ok (.putfield 19, 3) := by decide +kernel
theorem dX12_init_27 : decode cX12_init 27 = .ok (.aload_n 0, 1) := by decide +kernel
theorem dX12_init_28 : decode cX12_init 28 = .ok (.bipush 6, 2) := by decide +kernel
theorem dX12_init_30 : decode cX12_init 30 = .ok (.newarray .int, 2) := by decide +kernel
theorem dX12_init_32 : decode cX12_init 32 = .ok (.putfield 23, 3) := by decide +kernel
theorem dX12_init_35 : decode cX12_init 35 = .ok (.aload_n 0, 1) := by decide +kernel
theorem dX12_init_36 : decode cX12_init 36 = .ok (.bipush 6, 2) := by decide +kernel
theorem dX12_init_38 : decode cX12_init 38 = .ok (.newarray .int, 2) := by decide +kernel
theorem dX12_init_40 : decode cX12_init 40 = .ok (.putfield 26, 3) := by decide +kernel
theorem dX12_init_43 : decode cX12_init 43 = .ok (.aload_n 0, 1) := by decide +kernel
theorem dX12_init_44 : decode cX12_init 44 = .ok (.bipush 108, 2) := by decide +kernel
theorem dX12_init_46 : decode cX12_init 46 = .ok (.newarray .int, 2) := by decide +kernel
theorem dX12_init_48 : decode cX12_init 48 = .ok (.putfield 29, 3) := by decide +kernel
theorem dX12_init_51 : decode cX12_init 51 = .ok (.aload_n 0, 1) := by decide +kernel
theorem dX12_init_52 : decode cX12_init 52 = .ok (.bipush 12, 2) := by decide +kernel
theorem dX12_init_54 : decode cX12_init 54 = .ok (.newarray .int, 2) := by decide +kernel
theorem dX12_init_56 : decode cX12_init 56 = .ok (.putfield 32, 3) := by decide +kernel
theorem dX12_init_59 : decode cX12_init 59 = .ok (.aload_n 0, 1) := by decide +kernel
theorem dX12_init_60 : decode cX12_init 60 = .ok (.bipush 16, 2) := by decide +kernel
theorem dX12_init_62 : decode cX12_init 62 = .ok (.newarray .int, 2) := by decide +kernel
theorem dX12_init_64 : decode cX12_init 64 = .ok (.putfield 35, 3) := by decide +kernel
theorem dX12_init_67 : decode cX12_init 67 = .ok (.aload_n 0, 1) := by decide +kernel
theorem dX12_init_68 : decode cX12_init 68 = .ok (.bipush 48, 2) := by decide +kernel
theorem dX12_init_70 : decode cX12_init 70 = .ok (.newarray .int, 2) := by decide +kernel
theorem dX12_init_72 : decode cX12_init 72 = .ok (.putfield 38, 3) := by decide +kernel
theorem dX12_init_75 : decode cX12_init 75 = .ok (.aload_n 0, 1) := by decide +kernel
theorem dX12_init_76 : decode cX12_init 76 = .ok (.iconst 3, 1) := by decide +kernel
theorem dX12_init_77 : decode cX12_init 77 = .ok (.newarray .int, 2) := by decide +kernel
theorem dX12_init_79 : decode cX12_init 79 = .ok (.putfield 41, 3) := by decide +kernel
theorem dX12_init_82 : decode cX12_init 82 = .ok (.aload_n 0, 1) := by decide +kernel
theorem dX12_init_83 : decode cX12_init 83 = .ok (.sipush 700, 3) := by decide +kernel
theorem dX12_init_86 : decode cX12_init 86 = .ok (.newarray .int, 2) := by decide +kernel
theorem dX12_init_88 : decode cX12_init 88 = .ok (.putfield 44, 3) := by decide +kernel
theorem dX12_init_91 : decode cX12_init 91 = .ok (.aload_n 0, 1) := by decide +kernel
theorem dX12_init_92 : decode cX12_init 92 = .ok (.iconst (-1), 1) := by decide +kernel
theorem dX12_init_93 : decode cX12_init 93 = .ok (.putfield 47, 3) := by decide +kernel
theorem dX12_init_96 : decode cX12_init 96 = .ok (.aload_n 0, 1) := by decide +kernel
theorem dX12_init_97 : decode cX12_init 97 = .ok (.bipush 48, 2) := by decide +kernel
theorem dX12_init_99 : decode cX12_init 99 = .ok (.newarray .int, 2) := by decide +kernel
theorem dX12_init_101 : decode cX12_init 101 = .ok (.putfield 50, 3) := by decide +kernel
theorem dX12_init_104 : decode cX12_init 104 = .ok (.aload_n 0, 1) := by decide +kernel
theorem dX12_init_105 : decode cX12_init 105 = .ok (.bipush 6, 2) := by decide +kernel
theorem dX12_init_107 : decode cX12_init 107 = .ok (.newarray .int, 2) := by decide +kernel
theorem dX12_init_109 : decode cX12_init 109 = .ok (.putfield 53, 3) := by decide +kernel
theorem dX12_init_112 : decode cX12_init 112 = .ok (.aload_n 0, 1) := by decide +kernel
theorem dX12_init_113 : decode cX12_init 113 = .ok (.bipush 6, 2) := by decide +kernel
theorem dX12_init_115 : decode cX12_init 115 = .ok (.newarray .int, 2) := by decide +kernel
theorem dX12_init_117 : decode cX12_init 117 = .ok (.putfield 56, 3) := by decide +kernel
theorem dX12_init_120 : decode cX12_init 120 = .ok (.aload_n 0, 1) := by decide +kernel
theorem dX12_init_121 : decode cX12_init 121 = .ok (.bipush 108, 2) := by decide +kernel
theorem dX12_init_123 : decode cX12_init 123 = .ok (.newarray .int, 2) := by decide +kernel
theorem dX12_init_125 : decode cX12_init 125 = .ok (.putfield 59, 3) := by decide +kernel
theorem dX12_init_128 : decode cX12_init 128 = .ok (.aload_n 0, 1) := by decide +kernel
theorem dX12_init_129 : decode cX12_init 129 = .ok (.bipush 12, 2) := by decide +kernel
theorem dX12_init_131 : decode cX12_init 131 = .ok (.newarray .int, 2) := by decide +kernel
theorem dX12_init_133 : decode cX12_init 133 = .ok (.putfield 62, 3) := by decide +kernel
theorem dX12_init_136 : decode cX12_init 136 = .ok (.aload_n 0, 1) := by decide +kernel
theorem dX12_init_137 : decode cX12_init 137 = .ok (.bipush 16, 2) := by decide +kernel
theorem dX12_init_139 : decode cX12_init 139 = .ok (.newarray .int, 2) := by decide +kernel
theorem dX12_init_141 : decode cX12_init 141 = .ok (.putfield 65, 3) := by decide +kernel
theorem dX12_init_144 : decode cX12_init 144 = .ok (.aload_n 0, 1) := by decide +kernel
theorem dX12_init_145 : decode cX12_init 145 = .ok (.bipush 48, 2) := by decide +kernel
theorem dX12_init_147 : decode cX12_init 147 = .ok (.newarray .int, 2) := by decide +kernel
theorem dX12_init_149 : decode cX12_init 149 = .ok (.putfield 68, 3) := by decide +kernel
theorem dX12_init_152 : decode cX12_init 152 = .ok (.aload_n 0, 1) := by decide +kernel
theorem dX12_init_153 : decode cX12_init 153 = .ok (.bipush 48, 2) := by decide +kernel
theorem dX12_init_155 : decode cX12_init 155 = .ok (.newarray .boolean, 2) := by decide +kernel
theorem dX12_init_157 : decode cX12_init 157 = .ok (.putfield 71, 3) := by decide +kernel
theorem dX12_init_160 : decode cX12_init 160 = .ok (.aload_n 0, 1) := by decide +kernel
theorem dX12_init_161 : decode cX12_init 161 = .ok (.bipush 48, 2) := by decide +kernel
theorem dX12_init_163 : decode cX12_init 163 = .ok (.newarray .boolean, 2) := by decide +kernel
theorem dX12_init_165 : decode cX12_init 165 = .ok (.putfield 75, 3) := by decide +kernel
theorem dX12_init_168 : decode cX12_init 168 = .ok (.aload_n 0, 1) := by decide +kernel
theorem dX12_init_169 : decode cX12_init 169 = .ok (.bipush 6, 2) := by decide +kernel
theorem dX12_init_171 : decode cX12_init 171 = .ok (.newarray .boolean, 2) := by decide +kernel
theorem dX12_init_173 : decode cX12_init 173 = .ok (.putfield 78, 3) := by decide +kernel
theorem dX12_init_176 : decode cX12_init 176 = .ok (.aload_n 0, 1) := by decide +kernel
theorem dX12_init_177 : decode cX12_init 177 = .ok (.iconst 3, 1) := by decide +kernel
theorem dX12_init_178 : decode cX12_init 178 = .ok (.newarray .int, 2) := by decide +kernel
theorem dX12_init_180 : decode cX12_init 180 = .ok (.putfield 81, 3) := by decide +kernel
theorem dX12_init_183 : decode cX12_init 183 = .ok (.aload_n 0, 1) := by decide +kernel
theorem dX12_init_184 : decode cX12_init 184 = .ok (.bipush 48, 2) := by decide +kernel
theorem dX12_init_186 : decode cX12_init 186 = .ok (.newarray .int, 2) := by decide +kernel
theorem dX12_init_188 : decode cX12_init 188 = .ok (.putfield 84, 3) := by decide +kernel
theorem dX12_init_191 : decode cX12_init 191 = .ok (.aload_n 0, 1) := by decide +kernel
theorem dX12_init_192 : decode cX12_init 192 = .ok (.ldc 87, 2) := by decide +kernel
theorem dX12_init_194 : decode cX12_init 194 = .ok (.newarray .int, 2) := by decide +kernel
theorem dX12_init_196 : decode cX12_init 196 = .ok (.putfield 88, 3) := by decide +kernel
theorem dX12_init_199 : decode cX12_init 199 = .ok (.aload_n 0, 1) := by decide +kernel
theorem dX12_init_200 : decode cX12_init 200 = .ok (.sipush 1000, 3) := by decide +kernel
theorem dX12_init_203 : decode cX12_init 203 = .ok (.newarray .int, 2) := by decide +kernel
theorem dX12_init_205 : decode cX12_init 205 = .ok (.putfield 91, 3) := by decide +kernel
theorem dX12_init_208 : decode cX12_init 208 = .ok (.aload_n 0, 1) := by decide +kernel
theorem dX12_init_209 : decode cX12_init 209 = .ok (.sipush 1000, 3) := by decide +kernel
theorem dX12_init_212 : decode cX12_init 212 = .ok (.newarray .int, 2) := by decide +kernel
theorem dX12_init_214 : decode cX12_init 214 = .ok (.putfield 94, 3) := by decide +kernel
theorem dX12_init_217 : decode cX12_init 217 = .ok (.aload_n 0, 1) := by decide +kernel
theorem dX12_init_218 : decode cX12_init 218 = .ok (.sipush 1000, 3) := by decide +kernel
theorem dX12_init_221 : decode cX12_init 221 = .ok (.newarray .int, 2) := by decide +kernel
theorem dX12_init_223 : decode cX12_init 223 = .ok (.putfield 97, 3) := by decide +kernel
theorem dX12_init_226 : decode cX12_init 226 = .ok (.aload_n 0, 1) := by decide +kernel
theorem dX12_init_227 : decode cX12_init 227 = .ok (.sipush 1000, 3) := by decide +kernel
theorem dX12_init_230 : decode cX12_init 230 = .ok (.newarray .int, 2) := by decide +kernel
theorem dX12_init_232 : decode cX12_init 232 = .ok (.putfield 100, 3) := by decide +kernel
theorem dX12_init_235 : decode cX12_init 235 = .ok (.aload_n 0, 1) := by decide +kernel
theorem dX12_init_236 : decode cX12_init 236 = .ok (.sipush 1000, 3) := by decide +kernel
theorem dX12_init_239 : decode cX12_init 239 = .ok (.newarray .int, 2) := by decide +kernel
theorem dX12_init_241 : decode cX12_init 241 = .ok (.putfield 103, 3) := by decide +kernel
theorem dX12_init_244 : decode cX12_init 244 = .ok (.aload_n 0, 1) := by decide +kernel
theorem dX12_init_245 : decode cX12_init 245 = .ok (.sipush 1000, 3) := by decide +kernel
theorem dX12_init_248 : decode cX12_init 248 = .ok (.newarray .int, 2) := by decide +kernel
theorem dX12_init_250 : decode cX12_init 250 = .ok (.putfield 106, 3) := by decide +kernel
theorem dX12_init_253 : decode cX12_init 253 = .ok (.aload_n 0, 1) := by decide +kernel
theorem dX12_init_254 : decode cX12_init 254 = .ok (.bipush 48, 2) := by decide +kernel
theorem dX12_init_256 : decode cX12_init 256 = .ok (.newarray .int, 2) := by decide +kernel
theorem dX12_init_258 : decode cX12_init 258 = .ok (.putfield 109, 3) := by decide +kernel
theorem dX12_init_261 : decode cX12_init 261 = .ok (.aload_n 0, 1) := by decide +kernel
theorem dX12_init_262 : decode cX12_init 262 = .ok (.sipush 1000, 3) := by decide +kernel
theorem dX12_init_265 : decode cX12_init 265 = .ok (.newarray .int, 2) := by decide +kernel
theorem dX12_init_267 : decode cX12_init 267 = .ok (.putfield 112, 3) := by decide +kernel
theorem dX12_init_270 : decode cX12_init 270 = .ok (.aload_n 0, 1) := by decide +kernel
theorem dX12_init_271 : decode cX12_init 271 = .ok (.sipush 1000, 3) := by decide +kernel
theorem dX12_init_274 : decode cX12_init 274 = .ok (.newarray .int, 2) := by decide +kernel
theorem dX12_init_276 : decode cX12_init 276 = .ok (.putfield 115, 3) := by decide +kernel
theorem dX12_init_279 : decode cX12_init 279 = .ok (.aload_n 0, 1) := by decide +kernel
theorem dX12_init_280 : decode cX12_init 280 = .ok (.sipush 1000, 3) := by decide +kernel
theorem dX12_init_283 : decode cX12_init 283 = .ok (.newarray .int, 2) := by decide +kernel
theorem dX12_init_285 : decode cX12_init 285 = .ok (.putfield 118, 3) := by decide +kernel
theorem dX12_init_288 : decode cX12_init 288 = .ok (.aload_n 0, 1) := by decide +kernel
theorem dX12_init_289 : decode cX12_init 289 = .ok (.sipush 1000, 3) := by decide +kernel
theorem dX12_init_292 : decode cX12_init 292 = .ok (.newarray .int, 2) := by decide +kernel
theorem dX12_init_294 : decode cX12_init 294 = .ok (.putfield 121, 3) := by decide +kernel
theorem dX12_init_297 : decode cX12_init 297 = .ok (.aload_n 0, 1) := by decide +kernel
theorem dX12_init_298 : decode cX12_init 298 = .ok (.bipush 8, 2) := by decide +kernel
theorem dX12_init_300 : decode cX12_init 300 = .ok (.newarray .int, 2) := by decide +kernel
theorem dX12_init_302 : decode cX12_init 302 = .ok (.putfield 124, 3) := by decide +kernel
theorem dX12_init_305 : decode cX12_init 305 = .ok (.aload_n 0, 1) := by decide +kernel
theorem dX12_init_306 : decode cX12_init 306 = .ok (.bipush 8, 2) := by decide +kernel
theorem dX12_init_308 : decode cX12_init 308 = .ok (.newarray .int, 2) := by decide +kernel
theorem dX12_init_310 : decode cX12_init 310 = .ok (.putfield 127, 3) := by decide +kernel
theorem dX12_init_313 : decode cX12_init 313 = .ok (.aload_n 0, 1) := by decide +kernel
theorem dX12_init_314 : decode cX12_init 314 = .ok (.bipush 48, 2) := by decide +kernel
theorem dX12_init_316 : decode cX12_init 316 = .ok (.newarray .int, 2) := by decide +kernel
theorem dX12_init_318 : decode cX12_init 318 = .ok (.putfield 130, 3) := by decide +kernel
theorem dX12_init_321 : decode cX12_init 321 = .ok (.aload_n 0, 1) := by decide +kernel
theorem dX12_init_322 : decode cX12_init 322 = .ok (.iconst 3, 1) := by decide +kernel
theorem dX12_init_323 : decode cX12_init 323 = .ok (.newarray .int, 2) := by decide +kernel
theorem dX12_init_325 : decode cX12_init 325 = .ok (.putfield 133, 3) := by decide +kernel
theorem dX12_init_328 : decode cX12_init 328 = .ok (.aload_n 0, 1) := by decide +kernel
theorem dX12_init_329 : decode cX12_init 329 = .ok (.bipush 48, 2) := by decide +kernel
theorem dX12_init_331 : decode cX12_init 331 = .ok (.newarray .int, 2) := by decide +kernel
theorem dX12_init_333 : decode cX12_init 333 = .ok (.putfield 136, 3) := by decide +kernel
theorem dX12_init_336 : decode cX12_init 336 = .ok (.aload_n 0, 1) := by decide +kernel
theorem dX12_init_337 : decode cX12_init 337 = .ok (.iconst 5, 1) := by decide +kernel
theorem dX12_init_338 : decode cX12_init 338 = .ok (.newarray .int, 2) := by decide +kernel
theorem dX12_init_340 : decode cX12_init 340 = .ok (.putfield 139, 3) := by decide +kernel
theorem dX12_init_343 : decode cX12_init 343 = .ok (.aload_n 0, 1) := by decide +kernel
theorem dX12_init_344 : decode cX12_init 344 = .ok (.iconst 5, 1) := by decide +kernel
theorem dX12_init_345 : decode cX12_init 345 = .ok (.newarray .int, 2) := by decide +kernel
theorem dX12_init_347 : decode cX12_init 347 = .ok (.putfield 142, 3) := by decide +kernel
theorem dX12_init_350 : decode cX12_init 350 = .ok (.aload_n 0, 1) := by decide +kernel
theorem dX12_init_351 : decode cX12_init 351 = .ok (.sipush 432, 3) := by decide +kernel
theorem dX12_init_354 : decode cX12_init 354 = .ok (.newarray .int, 2) := by decide +kernel
theorem dX12_init_356 : decode cX12_init 356 = .ok (.putfield 145, 3) := by decide +kernel
theorem dX12_init_359 : decode cX12_init 359 = .ok (.aload_n 0, 1) := by decide +kernel
theorem dX12_init_360 : decode cX12_init 360 = .ok (.bipush 24, 2) := by decide +kernel
theorem dX12_init_362 : decode cX12_init 362 = .ok (.newarray .int, 2) := by decide +kernel
theorem dX12_init_364 : decode cX12_init 364 = .ok (.putfield 148, 3) := by decide +kernel
theorem dX12_init_367 : decode cX12_init 367 = .ok (.aload_n 0, 1) := by decide +kernel
theorem dX12_init_368 : decode cX12_init 368 = .ok (.bipush 8, 2) := by decide +kernel
theorem dX12_init_370 : decode cX12_init 370 = .ok (.newarray .int, 2) := by decide +kernel
theorem dX12_init_372 : decode cX12_init 372 = .ok (.putfield 151, 3) := by decide +kernel
theorem dX12_init_375 : decode cX12_init 375 = .ok (.aload_n 0, 1) := by decide +kernel
theorem dX12_init_376 : decode cX12_init 376 = .ok (.bipush 8, 2) := by decide +kernel
theorem dX12_init_378 : decode cX12_init 378 = .ok (.newarray .int, 2) := by decide +kernel
theorem dX12_init_380 : decode cX12_init 380 = .ok (.putfield 154, 3) := by decide +kernel
theorem dX12_init_383 : decode cX12_init 383 = .ok (.aload_n 0, 1) := by decide +kernel
theorem dX12_init_384 : decode cX12_init 384 = .ok (.bipush 48, 2) := by decide +kernel
theorem dX12_init_386 : decode cX12_init 386 = .ok (.newarray .int, 2) := by decide +kernel
theorem dX12_init_388 : decode cX12_init 388 = .ok (.putfield 157, 3) := by decide +kernel
theorem dX12_init_391 : decode cX12_init 391 = .ok (.aload_n 0, 1) := by decide +kernel
theorem dX12_init_392 : decode cX12_init 392 = .ok (.bipush 48, 2) := by decide +kernel
theorem dX12_init_394 : decode cX12_init 394 = .ok (.newarray .int, 2) := by decide +kernel
theorem dX12_init_396 : decode cX12_init 396 = .ok (.putfield 160, 3) := by decide +kernel
theorem dX12_init_399 : decode cX12_init 399 = .ok (.aload_n 0, 1) := by decide +kernel
theorem dX12_init_400 : decode cX12_init 400 = .ok (.bipush 6, 2) := by decide +kernel
theorem dX12_init_402 : decode cX12_init 402 = .ok (.newarray .int, 2) := by decide +kernel
theorem dX12_init_404 : decode cX12_init 404 = .ok (.putfield 163, 3) := by decide +kernel
theorem dX12_init_407 : decode cX12_init 407 = .ok (.aload_n 0, 1) := by decide +kernel
theorem dX12_init_408 : decode cX12_init 408 = .ok (.bipush 8, 2) := by decide +kernel
theorem dX12_init_410 : decode cX12_init 410 = .ok (.newarray .int, 2) := by decide +kernel
theorem dX12_init_412 : decode cX12_init 412 = .ok (.putfield 166, 3) := by decide +kernel
theorem dX12_init_415 : decode cX12_init 415 = .ok (.aload_n 0, 1) := by decide +kernel
theorem dX12_init_416 : decode cX12_init 416 = .ok (.bipush 8, 2) := by decide +kernel
theorem dX12_init_418 : decode cX12_init 418 = .ok (.newarray .boolean, 2) := by decide +kernel
theorem dX12_init_420 : decode cX12_init 420 = .ok (.putfield 169, 3) := by decide +kernel
theorem dX12_init_423 : decode cX12_init 423 = .ok (.aload_n 0, 1) := by decide +kernel
theorem dX12_init_424 : decode cX12_init 424 = .ok (.bipush 48, 2) := by decide +kernel
theorem dX12_init_426 : decode cX12_init 426 = .ok (.newarray .int, 2) := by decide +kernel
theorem dX12_init_428 : decode cX12_init 428 = .ok (.putfield 172, 3) := by decide +kernel
theorem dX12_init_431 : decode cX12_init 431 = .ok (.aload_n 0, 1) := by decide +kernel
theorem dX12_init_432 : decode cX12_init 432 = .ok (.bipush 48, 2) := by decide +kernel
theorem dX12_init_434 : decode cX12_init 434 = .ok (.newarray .int, 2) := by decide +kernel
theorem dX12_init_436 : decode cX12_init 436 = .ok (.putfield 175, 3) := by decide +kernel
theorem dX12_init_439 : decode cX12_init 439 = .ok (.aload_n 0, 1) := by decide +kernel
theorem dX12_init_440 : decode cX12_init 440 = .ok (.bipush 48, 2) := by decide +kernel
theorem dX12_init_442 : decode cX12_init 442 = .ok (.newarray .int, 2) := by decide +kernel
theorem dX12_init_444 : decode cX12_init 444 = .ok (.putfield 178, 3) := by decide +kernel
theorem dX12_init_447 : decode cX12_init 447 = .ok (.aload_n 0, 1) := by decide +kernel
theorem dX12_init_448 : decode cX12_init 448 = .ok (.bipush 48, 2) := by decide +kernel
theorem dX12_init_450 : decode cX12_init 450 = .ok (.newarray .int, 2) := by decide +kernel
theorem dX12_init_452 : decode cX12_init 452 = .ok (.putfield 181, 3) := by decide +kernel
theorem dX12_init_455 : decode cX12_init 455 = .ok (.return_, 1) := by decide +kernel
theorem dX12_thrown_0 : decode cX12_thrown 0 = .ok (.aload_n 0, 1) := by decide +kernel
theorem dX12_thrown_1 : decode cX12_thrown 1 = .ok (.getfield 184, 3) := by decide +kernel
theorem dX12_thrown_4 : decode cX12_thrown 4 = .ok (.ireturn, 1) := by decide +kernel
theorem dX12_right_0 : decode cX12_right 0 = .ok (.aload_n 0, 1) := by decide +kernel
theorem dX12_right_1 : decode cX12_right 1 = .ok (.getfield 184, 3) := by decide +kernel
theorem dX12_right_4 : decode cX12_right 4 = .ok (.ifCond .ne 12, 3) := by decide +kernel
theorem dX12_right_7 : decode cX12_right 7 = .ok (.iload_n 1, 1) := by decide +kernel
theorem dX12_right_8 : decode cX12_right 8 = .ok (.ifCond .ne 8, 3) := by decide +kernel
theorem dX12_right_11 : decode cX12_right 11 = .ok (.aload_n 0, 1) := by decide +kernel
theorem dX12_right_12 : decode cX12_right 12 = .ok (.iload_n 2, 1) := by decide +kernel
theorem dX12_right_13 : decode cX12_right 13 = .ok (.putfield 184, 3) := by decide +kernel
theorem dX12_right_16 : decode cX12_right 16 = .ok (.aload_n 0, 1) := by decide +kernel
theorem dX12_right_17 : decode cX12_right 17 = .ok (.getfield 184, 3) := by decide +kernel
theorem dX12_right_20 : decode cX12_right 20 = .ok (.ifCond .ne 7, 3) := by decide +kernel
theorem dX12_right_23 : decode cX12_right 23 = .ok (.iconst 1, 1) := by decide +kernel
theorem dX12_right_24 : decode cX12_right 24 = .ok (.goto 4, 3) := by decide +kernel
theorem dX12_right_27 : decode cX12_right 27 = .ok (.iconst 0, 1) := by decide +kernel
theorem dX12_right_28 : decode cX12_right 28 = .ok (.ireturn, 1) := by decide +kernel
theorem dX12_within_0 : decode cX12_within 0 = .ok (.iload_n 0, 1) := by decide +kernel
theorem dX12_within_1 : decode cX12_within 1 = .ok (.iload_n 1, 1) := by decide +kernel
theorem dX12_within_2 : decode cX12_within 2 = .ok (.if_icmp .lt 12, 3) := by decide +kernel
theorem dX12_within_5 : decode cX12_within 5 = .ok (.iload_n 0, 1) := by decide +kernel
theorem dX12_within_6 : decode cX12_within 6 = .ok (.iload_n 2, 1) := by decide +kernel
theorem dX12_within_7 : decode cX12_within 7 = .ok (.if_icmp .gt 7, 3) := by decide +kernel
theorem dX12_within_10 : decode cX12_within 10 = .ok (.iconst 1, 1) := by decide +kernel
theorem dX12_within_11 : decode cX12_within 11 = .ok (.goto 4, 3) := by decide +kernel
theorem dX12_within_14 : decode cX12_within 14 = .ok (.iconst 0, 1) := by decide +kernel
theorem dX12_within_15 : decode cX12_within 15 = .ok (.ireturn, 1) := by decide +kernel
theorem dX12_feed_0 : decode cX12_feed 0 = .ok (.aload_n 0, 1) := by decide +kernel
theorem dX12_feed_1 : decode cX12_feed 1 = .ok (.iconst 0, 1) := by decide +kernel
theorem dX12_feed_2 : decode cX12_feed 2 = .ok (.putfield 184, 3) := by decide +kernel
theorem dX12_feed_5 : decode cX12_feed 5 = .ok (.aload_n 0, 1) := by decide +kernel
theorem dX12_feed_6 : decode cX12_feed 6 = .ok (.getfield 187, 3) := by decide +kernel
theorem dX12_feed_9 : decode cX12_feed 9 = .ok (.bipush 20, 2) := by decide +kernel
theorem dX12_feed_11 : decode cX12_feed 11 = .ok (.iadd, 1) := by decide +kernel
theorem dX12_feed_12 : decode cX12_feed 12 = .ok (.sipush 700, 3) := by decide +kernel
theorem dX12_feed_15 : decode cX12_feed 15 = .ok (.if_icmp .le 5, 3) := by decide +kernel
theorem dX12_feed_18 : decode cX12_feed 18 = .ok (.iconst (-1), 1) := by decide +kernel
theorem dX12_feed_19 : decode cX12_feed 19 = .ok (.ireturn, 1) := by decide +kernel
theorem dX12_feed_20 : decode cX12_feed 20 = .ok (.aload_n 0, 1) := by decide +kernel
theorem dX12_feed_21 : decode cX12_feed 21 = .ok (.iload_n 1, 1) := by decide +kernel
theorem dX12_feed_22 : decode cX12_feed 22 = .ok (.invokevirtual 190, 3) := by decide +kernel
theorem dX12_feed_25 : decode cX12_feed 25 = .ok (.aload_n 0, 1) := by decide +kernel
theorem dX12_feed_26 : decode cX12_feed 26 = .ok (.iload_n 2, 1) := by decide +kernel
theorem dX12_feed_27 : decode cX12_feed 27 = .ok (.invokevirtual 190, 3) := by decide +kernel
theorem dX12_feed_30 : decode cX12_feed 30 = .ok (.aload_n 0, 1) := by decide +kernel
theorem dX12_feed_31 : decode cX12_feed 31 = .ok (.iload_n 3, 1) := by decide +kernel
theorem dX12_feed_32 : decode cX12_feed 32 = .ok (.invokevirtual 190, 3) := by decide +kernel
theorem dX12_feed_35 : decode cX12_feed 35 = .ok (.aload_n 0, 1) := by decide +kernel
theorem dX12_feed_36 : decode cX12_feed 36 = .ok (.iload 4, 2) := by decide +kernel
theorem dX12_feed_38 : decode cX12_feed 38 = .ok (.invokevirtual 190, 3) := by decide +kernel
theorem dX12_feed_41 : decode cX12_feed 41 = .ok (.aload_n 0, 1) := by decide +kernel
theorem dX12_feed_42 : decode cX12_feed 42 = .ok (.iload 5, 2) := by decide +kernel
theorem dX12_feed_44 : decode cX12_feed 44 = .ok (.invokevirtual 190, 3) := by decide +kernel
theorem dX12_feed_47 : decode cX12_feed 47 = .ok (.aload_n 0, 1) := by decide +kernel
theorem dX12_feed_48 : decode cX12_feed 48 = .ok (.getfield 187, 3) := by decide +kernel
theorem dX12_feed_51 : decode cX12_feed 51 = .ok (.ireturn, 1) := by decide +kernel
theorem dX12_lays_0 : decode cX12_lays 0 = .ok (.bipush 24, 2) := by decide +kernel
theorem dX12_lays_2 : decode cX12_lays 2 = .ok (.istore_n 2, 1) := by decide +kernel
theorem dX12_lays_3 : decode cX12_lays 3 = .ok (.iload_n 2, 1) := by decide +kernel
theorem dX12_lays_4 : decode cX12_lays 4 = .ok (.ifCond .lt 35, 3) := by decide +kernel
theorem dX12_lays_7 : decode cX12_lays 7 = .ok (.aload_n 0, 1) := by decide +kernel
theorem dX12_lays_8 : decode cX12_lays 8 = .ok (.getfield 44, 3) := by decide +kernel
theorem dX12_lays_11 : decode cX12_lays 11 = .ok (.aload_n 0, 1) := by decide +kernel
theorem dX12_lays_12 : decode cX12_lays 12 = .ok (.getfield 187, 3) := by decide +kernel
theorem dX12_lays_15 : decode cX12_lays 15 = .ok (.iload_n 1, 1) := by decide +kernel
theorem dX12_lays_16 : decode cX12_lays 16 = .ok (.iload_n 2, 1) := by decide +kernel
theorem dX12_lays_17 : decode cX12_lays 17 = .ok (.ishr, 1) := by decide +kernel
theorem dX12_lays_18 : decode cX12_lays 18 = .ok (.sipush 255, 3) := by decide +kernel
theorem dX12_lays_21 : decode cX12_lays 21 = .ok (.iand, 1) := by decide +kernel
theorem dX12_lays_22 : decode cX12_lays 22 = .ok (.iastore, 1) := by decide +kernel
theorem dX12_lays_23 : decode cX12_lays 23 = .ok (.aload_n 0, 1) := by decide +kernel
theorem dX12_lays_24 : decode cX12_lays 24 = .ok (.dup, 1) := by decide +kernel
theorem dX12_lays_25 : decode cX12_lays 25 = .ok (.getfield 187, 3) := by decide +kernel
theorem dX12_lays_28 : decode cX12_lays 28 = .ok (.iconst 1, 1) := by decide +kernel
theorem dX12_lays_29 : decode cX12_lays 29 = .ok (.iadd, 1) := by decide +kernel
theorem dX12_lays_30 : decode cX12_lays 30 = .ok (.putfield 187, 3) := by decide +kernel
theorem dX12_lays_33 : decode cX12_lays 33 = .ok (.iinc 2 (-8), 3) := by decide +kernel
theorem dX12_lays_36 : decode cX12_lays 36 = .ok (.goto (-33), 3) := by decide +kernel
theorem dX12_lays_39 : decode cX12_lays 39 = .ok (.return_, 1) := by decide +kernel
theorem dX12_byteAt_0 : decode cX12_byteAt 0 = .ok (.iload_n 1, 1) := by decide +kernel
theorem dX12_byteAt_1 : decode cX12_byteAt 1 = .ok (.aload_n 0, 1) := by decide +kernel
theorem dX12_byteAt_2 : decode cX12_byteAt 2 = .ok (.getfield 194, 3) := by decide +kernel
theorem dX12_byteAt_5 : decode cX12_byteAt 5 = .ok (.if_icmp .ge 12, 3) := by decide +kernel
theorem dX12_byteAt_8 : decode cX12_byteAt 8 = .ok (.aload_n 0, 1) := by decide +kernel
theorem dX12_byteAt_9 : decode cX12_byteAt 9 = .ok (.getfield 44, 3) := by decide +kernel
theorem dX12_byteAt_12 : decode cX12_byteAt 12 = .ok (.iload_n 1, 1) := by decide +kernel
theorem dX12_byteAt_13 : decode cX12_byteAt 13 = .ok (.iaload, 1) := by decide +kernel
theorem dX12_byteAt_14 : decode cX12_byteAt 14 = .ok (.goto 4, 3) := by decide +kernel
theorem dX12_byteAt_17 : decode cX12_byteAt 17 = .ok (.iconst 0, 1) := by decide +kernel
theorem dX12_byteAt_18 : decode cX12_byteAt 18 = .ok (.ireturn, 1) := by decide +kernel
theorem dX12_isLetter_0 : decode cX12_isLetter 0 = .ok (.iload_n 0, 1) := by decide +kernel
theorem dX12_isLetter_1 : decode cX12_isLetter 1 = .ok (.bipush 97, 2) := by decide +kernel
theorem dX12_isLetter_3 : decode cX12_isLetter 3 = .ok (.if_icmp .lt 13, 3) := by decide +kernel
theorem dX12_isLetter_6 : decode cX12_isLetter 6 = .ok (.iload_n 0, 1) := by decide +kernel
theorem dX12_isLetter_7 : decode cX12_isLetter 7 = .ok (.bipush 122, 2) := by decide +kernel
theorem dX12_isLetter_9 : decode cX12_isLetter 9 = .ok (.if_icmp .gt 7, 3) := by decide +kernel
theorem dX12_isLetter_12 : decode cX12_isLetter 12 = .ok (.iconst 1, 1) := by decide +kernel
theorem dX12_isLetter_13 : decode cX12_isLetter 13 = .ok (.goto 4, 3) := by decide +kernel
theorem dX12_isLetter_16 : decode cX12_isLetter 16 = .ok (.iconst 0, 1) := by decide +kernel
theorem dX12_isLetter_17 : decode cX12_isLetter 17 = .ok (.ireturn, 1) := by decide +kernel
theorem dX12_isDigit_0 : decode cX12_isDigit 0 = .ok (.iload_n 0, 1) := by decide +kernel
theorem dX12_isDigit_1 : decode cX12_isDigit 1 = .ok (.bipush 48, 2) := by decide +kernel
theorem dX12_isDigit_3 : decode cX12_isDigit 3 = .ok (.if_icmp .lt 13, 3) := by decide +kernel
theorem dX12_isDigit_6 : decode cX12_isDigit 6 = .ok (.iload_n 0, 1) := by decide +kernel
theorem dX12_isDigit_7 : decode cX12_isDigit 7 = .ok (.bipush 57, 2) := by decide +kernel
theorem dX12_isDigit_9 : decode cX12_isDigit 9 = .ok (.if_icmp .gt 7, 3) := by decide +kernel
theorem dX12_isDigit_12 : decode cX12_isDigit 12 = .ok (.iconst 1, 1) := by decide +kernel
theorem dX12_isDigit_13 : decode cX12_isDigit 13 = .ok (.goto 4, 3) := by decide +kernel
theorem dX12_isDigit_16 : decode cX12_isDigit 16 = .ok (.iconst 0, 1) := by decide +kernel
theorem dX12_isDigit_17 : decode cX12_isDigit 17 = .ok (.ireturn, 1) := by decide +kernel
theorem dX12_goes_0 : decode cX12_goes 0 = .ok (.aload_n 0, 1) := by decide +kernel
theorem dX12_goes_1 : decode cX12_goes 1 = .ok (.getfield 197, 3) := by decide +kernel
theorem dX12_goes_4 : decode cX12_goes 4 = .ok (.aload_n 0, 1) := by decide +kernel
theorem dX12_goes_5 : decode cX12_goes 5 = .ok (.getfield 194, 3) := by decide +kernel
theorem dX12_goes_8 : decode cX12_goes 8 = .ok (.if_icmp .ge 42, 3) := by decide +kernel
theorem dX12_goes_11 : decode cX12_goes 11 = .ok (.aload_n 0, 1) := by decide +kernel
theorem dX12_goes_12 : decode cX12_goes 12 = .ok (.aload_n 0, 1) := by decide +kernel
theorem dX12_goes_13 : decode cX12_goes 13 = .ok (.getfield 197, 3) := by decide +kernel
theorem dX12_goes_16 : decode cX12_goes 16 = .ok (.invokevirtual 200, 3) := by decide +kernel
theorem dX12_goes_19 : decode cX12_goes 19 = .ok (.bipush 32, 2) := by decide +kernel
theorem dX12_goes_21 : decode cX12_goes 21 = .ok (.if_icmp .eq 16, 3) := by decide +kernel
theorem dX12_goes_24 : decode cX12_goes 24 = .ok (.aload_n 0, 1) := by decide +kernel
theorem dX12_goes_25 : decode cX12_goes 25 = .ok (.aload_n 0, 1) := by decide +kernel
theorem dX12_goes_26 : decode cX12_goes 26 = .ok (.getfield 197, 3) := by decide +kernel
theorem dX12_goes_29 : decode cX12_goes 29 = .ok (.invokevirtual 200, 3) := by decide +kernel
theorem dX12_goes_32 : decode cX12_goes 32 = .ok (.bipush 10, 2) := by decide +kernel
theorem dX12_goes_34 : decode cX12_goes 34 = .ok (.if_icmp .ne 16, 3) := by decide +kernel
theorem dX12_goes_37 : decode cX12_goes 37 = .ok (.aload_n 0, 1) := by decide +kernel
theorem dX12_goes_38 : decode cX12_goes 38 = .ok (.dup, 1) := by decide +kernel
theorem dX12_goes_39 : decode cX12_goes 39 = .ok (.getfield 197, 3) := by decide +kernel
theorem dX12_goes_42 : decode cX12_goes 42 = .ok (.iconst 1, 1) := by decide +kernel
theorem dX12_goes_43 : decode cX12_goes 43 = .ok (.iadd, 1) := by decide +kernel
theorem dX12_goes_44 : decode cX12_goes 44 = .ok (.putfield 197, 3) := by decide +kernel
theorem dX12_goes_47 : decode cX12_goes 47 = .ok (.goto (-47), 3) := by decide +kernel
theorem dX12_goes_50 : decode cX12_goes 50 = .ok (.aload_n 0, 1) := by decide +kernel
theorem dX12_goes_51 : decode cX12_goes 51 = .ok (.aload_n 0, 1) := by decide +kernel
theorem dX12_goes_52 : decode cX12_goes 52 = .ok (.getfield 197, 3) := by decide +kernel
theorem dX12_goes_55 : decode cX12_goes 55 = .ok (.putfield 204, 3) := by decide +kernel
theorem dX12_goes_58 : decode cX12_goes 58 = .ok (.aload_n 0, 1) := by decide +kernel
theorem dX12_goes_59 : decode cX12_goes 59 = .ok (.lconst 0, 1) := by decide +kernel
theorem dX12_goes_60 : decode cX12_goes 60 = .ok (.putfield 207, 3) := by decide +kernel
theorem dX12_goes_63 : decode cX12_goes 63 = .ok (.aload_n 0, 1) := by decide +kernel
theorem dX12_goes_64 : decode cX12_goes 64 = .ok (.iconst 0, 1) := by decide +kernel
theorem dX12_goes_65 : decode cX12_goes 65 = .ok (.putfield 211, 3) := by decide +kernel
theorem dX12_goes_68 : decode cX12_goes 68 = .ok (.aload_n 0, 1) := by decide +kernel
theorem dX12_goes_69 : decode cX12_goes 69 = .ok (.aload_n 0, 1) := by decide +kernel
theorem dX12_goes_70 : decode cX12_goes 70 = .ok (.getfield 197, 3) := by decide +kernel
theorem dX12_goes_73 : decode cX12_goes 73 = .ok (.invokevirtual 200, 3) := by decide +kernel
theorem dX12_goes_76 : decode cX12_goes 76 = .ok (.istore_n 1, 1) := by decide +kernel
theorem dX12_goes_77 : decode cX12_goes 77 = .ok (.aload_n 0, 1) := by decide +kernel
theorem dX12_goes_78 : decode cX12_goes 78 = .ok (.getfield 197, 3) := by decide +kernel
theorem dX12_goes_81 : decode cX12_goes 81 = .ok (.aload_n 0, 1) := by decide +kernel
theorem dX12_goes_82 : decode cX12_goes 82 = .ok (.getfield 194, 3) := by decide +kernel
theorem dX12_goes_85 : decode cX12_goes 85 = .ok (.if_icmp .lt 11, 3) := by decide +kernel
theorem dX12_goes_88 : decode cX12_goes 88 = .ok (.aload_n 0, 1) := by decide +kernel
theorem dX12_goes_89 : decode cX12_goes 89 = .ok (.iconst 0, 1) := by decide +kernel
theorem dX12_goes_90 : decode cX12_goes 90 = .ok (.putfield 214, 3) := by decide +kernel
theorem dX12_goes_93 : decode cX12_goes 93 = .ok (.goto 185, 3) := by decide +kernel
theorem dX12_goes_96 : decode cX12_goes 96 = .ok (.iload_n 1, 1) := by decide +kernel
theorem dX12_goes_97 : decode cX12_goes 97 = .ok (.invokestatic 217, 3) := by decide +kernel
theorem dX12_goes_100 : decode cX12_goes 100 = .ok (.ifCond .eq 75, 3) := by decide +kernel
theorem dX12_goes_103 : decode cX12_goes 103 = .ok (.aload_n 0, 1) := by decide +kernel
theorem dX12_goes_104 : decode cX12_goes 104 = .ok (.aload_n 0, 1) := by decide +kernel
theorem dX12_goes_105 : decode cX12_goes 105 = .ok (.getfield 197, 3) := by decide +kernel
theorem dX12_goes_108 : decode cX12_goes 108 = .ok (.invokevirtual 200, 3) := by decide +kernel
theorem dX12_goes_111 : decode cX12_goes 111 = .ok (.invokestatic 217, 3) := by decide +kernel
theorem dX12_goes_114 : decode cX12_goes 114 = .ok (.ifCond .eq 53, 3) := by decide +kernel
theorem dX12_goes_117 : decode cX12_goes 117 = .ok (.aload_n 0, 1) := by decide +kernel
theorem dX12_goes_118 : decode cX12_goes 118 = .ok (.getfield 197, 3) := by decide +kernel
theorem dX12_goes_121 : decode cX12_goes 121 = .ok (.aload_n 0, 1) := by decide +kernel
theorem dX12_goes_122 : decode cX12_goes 122 = .ok (.getfield 204, 3) := by decide +kernel
theorem dX12_goes_125 : decode cX12_goes 125 = .ok (.isub, 1) := by decide +kernel
theorem dX12_goes_126 : decode cX12_goes 126 = .ok (.bipush 8, 2) := by decide +kernel
theorem dX12_goes_128 : decode cX12_goes 128 = .ok (.if_icmp .ge 26, 3) := by decide +kernel
theorem dX12_goes_131 : decode cX12_goes 131 = .ok (.aload_n 0, 1) := by decide +kernel
theorem dX12_goes_132 : decode cX12_goes 132 = .ok (.aload_n 0, 1) := by decide +kernel
theorem dX12_goes_133 : decode cX12_goes 133 = .ok (.getfield 207, 3) := by decide +kernel
theorem dX12_goes_136 : decode cX12_goes 136 = .ok (.iconst 5, 1) := by decide +kernel
theorem dX12_goes_137 : decode cX12_goes 137 = .ok (.lshl, 1) := by decide +kernel
theorem dX12_goes_138 : decode cX12_goes 138 = .ok (.aload_n 0, 1) := by decide +kernel
theorem dX12_goes_139 : decode cX12_goes 139 = .ok (.aload_n 0, 1) := by decide +kernel
theorem dX12_goes_140 : decode cX12_goes 140 = .ok (.getfield 197, 3) := by decide +kernel
theorem dX12_goes_143 : decode cX12_goes 143 = .ok (.invokevirtual 200, 3) := by decide +kernel
theorem dX12_goes_146 : decode cX12_goes 146 = .ok (.bipush 96, 2) := by decide +kernel
theorem dX12_goes_148 : decode cX12_goes 148 = .ok (.isub, 1) := by decide +kernel
theorem dX12_goes_149 : decode cX12_goes 149 = .ok (.i2l, 1) := by decide +kernel
theorem dX12_goes_150 : decode cX12_goes 150 = .ok (.lor, 1) := by decide +kernel
theorem dX12_goes_151 : decode cX12_goes 151 = .ok (.putfield 207, 3) := by decide +kernel
theorem dX12_goes_154 : decode cX12_goes 154 = .ok (.aload_n 0, 1) := by decide +kernel
theorem dX12_goes_155 : decode cX12_goes 155 = .ok (.dup, 1) := by decide +kernel
theorem dX12_goes_156 : decode cX12_goes 156 = .ok (.getfield 197, 3) := by decide +kernel
theorem dX12_goes_159 : decode cX12_goes 159 = .ok (.iconst 1, 1) := by decide +kernel
theorem dX12_goes_160 : decode cX12_goes 160 = .ok (.iadd, 1) := by decide +kernel
theorem dX12_goes_161 : decode cX12_goes 161 = .ok (.putfield 197, 3) := by decide +kernel
theorem dX12_goes_164 : decode cX12_goes 164 = .ok (.goto (-61), 3) := by decide +kernel
theorem dX12_goes_167 : decode cX12_goes 167 = .ok (.aload_n 0, 1) := by decide +kernel
theorem dX12_goes_168 : decode cX12_goes 168 = .ok (.iconst 1, 1) := by decide +kernel
theorem dX12_goes_169 : decode cX12_goes 169 = .ok (.putfield 214, 3) := by decide +kernel
theorem dX12_goes_172 : decode cX12_goes 172 = .ok (.goto 106, 3) := by decide +kernel
theorem dX12_goes_175 : decode cX12_goes 175 = .ok (.iload_n 1, 1) := by decide +kernel
theorem dX12_goes_176 : decode cX12_goes 176 = .ok (.invokestatic 221, 3) := by decide +kernel
theorem dX12_goes_179 : decode cX12_goes 179 = .ok (.ifCond .eq 74, 3) := by decide +kernel
theorem dX12_goes_182 : decode cX12_goes 182 = .ok (.aload_n 0, 1) := by decide +kernel
theorem dX12_goes_183 : decode cX12_goes 183 = .ok (.aload_n 0, 1) := by decide +kernel
theorem dX12_goes_184 : decode cX12_goes 184 = .ok (.getfield 197, 3) := by decide +kernel
theorem dX12_goes_187 : decode cX12_goes 187 = .ok (.invokevirtual 200, 3) := by decide +kernel
theorem dX12_goes_190 : decode cX12_goes 190 = .ok (.invokestatic 221, 3) := by decide +kernel
theorem dX12_goes_193 : decode cX12_goes 193 = .ok (.ifCond .eq 52, 3) := by decide +kernel
theorem dX12_goes_196 : decode cX12_goes 196 = .ok (.aload_n 0, 1) := by decide +kernel
theorem dX12_goes_197 : decode cX12_goes 197 = .ok (.getfield 197, 3) := by decide +kernel
theorem dX12_goes_200 : decode cX12_goes 200 = .ok (.aload_n 0, 1) := by decide +kernel
theorem dX12_goes_201 : decode cX12_goes 201 = .ok (.getfield 204, 3) := by decide +kernel
theorem dX12_goes_204 : decode cX12_goes 204 = .ok (.isub, 1) := by decide +kernel
theorem dX12_goes_205 : decode cX12_goes 205 = .ok (.iconst 4, 1) := by decide +kernel
theorem dX12_goes_206 : decode cX12_goes 206 = .ok (.if_icmp .ge 26, 3) := by decide +kernel
theorem dX12_goes_209 : decode cX12_goes 209 = .ok (.aload_n 0, 1) := by decide +kernel
theorem dX12_goes_210 : decode cX12_goes 210 = .ok (.bipush 10, 2) := by decide +kernel
theorem dX12_goes_212 : decode cX12_goes 212 = .ok (.aload_n 0, 1) := by decide +kernel
theorem dX12_goes_213 : decode cX12_goes 213 = .ok (.getfield 211, 3) := by decide +kernel
theorem dX12_goes_216 : decode cX12_goes 216 = .ok (.imul, 1) := by decide +kernel
theorem dX12_goes_217 : decode cX12_goes 217 = .ok (.aload_n 0, 1) := by decide +kernel
theorem dX12_goes_218 : decode cX12_goes 218 = .ok (.aload_n 0, 1) := by decide +kernel
theorem dX12_goes_219 : decode cX12_goes 219 = .ok (.getfield 197, 3) := by decide +kernel
theorem dX12_goes_222 : decode cX12_goes 222 = .ok (.invokevirtual 200, 3) := by decide +kernel
theorem dX12_goes_225 : decode cX12_goes 225 = .ok (.iadd, 1) := by decide +kernel
theorem dX12_goes_226 : decode cX12_goes 226 = .ok (.bipush 48, 2) := by decide +kernel
theorem dX12_goes_228 : decode cX12_goes 228 = .ok (.isub, 1) := by decide +kernel
theorem dX12_goes_229 : decode cX12_goes 229 = .ok (.putfield 211, 3) := by decide +kernel
theorem dX12_goes_232 : decode cX12_goes 232 = .ok (.aload_n 0, 1) := by decide +kernel
theorem dX12_goes_233 : decode cX12_goes 233 = .ok (.dup, 1) := by decide +kernel
theorem dX12_goes_234 : decode cX12_goes 234 = .ok (.getfield 197, 3) := by decide +kernel
theorem dX12_goes_237 : decode cX12_goes 237 = .ok (.iconst 1, 1) := by decide +kernel
theorem dX12_goes_238 : decode cX12_goes 238 = .ok (.iadd, 1) := by decide +kernel
theorem dX12_goes_239 : decode cX12_goes 239 = .ok (.putfield 197, 3) := by decide +kernel
theorem dX12_goes_242 : decode cX12_goes 242 = .ok (.goto (-60), 3) := by decide +kernel
theorem dX12_goes_245 : decode cX12_goes 245 = .ok (.aload_n 0, 1) := by decide +kernel
theorem dX12_goes_246 : decode cX12_goes 246 = .ok (.iconst 2, 1) := by decide +kernel
theorem dX12_goes_247 : decode cX12_goes 247 = .ok (.putfield 214, 3) := by decide +kernel
theorem dX12_goes_250 : decode cX12_goes 250 = .ok (.goto 28, 3) := by decide +kernel
theorem dX12_goes_253 : decode cX12_goes 253 = .ok (.aload_n 0, 1) := by decide +kernel
theorem dX12_goes_254 : decode cX12_goes 254 = .ok (.dup, 1) := by decide +kernel
theorem dX12_goes_255 : decode cX12_goes 255 = .ok (.getfield 197, 3) := by decide +kernel
theorem dX12_goes_258 : decode cX12_goes 258 = .ok (.iconst 1, 1) := by decide +kernel
theorem dX12_goes_259 : decode cX12_goes 259 = .ok (.iadd, 1) := by decide +kernel
theorem dX12_goes_260 : decode cX12_goes 260 = .ok (.putfield 197, 3) := by decide +kernel
theorem dX12_goes_263 : decode cX12_goes 263 = .ok (.aload_n 0, 1) := by decide +kernel
theorem dX12_goes_264 : decode cX12_goes 264 = .ok (.iload_n 1, 1) := by decide +kernel
theorem dX12_goes_265 : decode cX12_goes 265 = .ok (.bipush 59, 2) := by decide +kernel
theorem dX12_goes_267 : decode cX12_goes 267 = .ok (.if_icmp .ne 7, 3) := by decide +kernel
theorem dX12_goes_270 : decode cX12_goes 270 = .ok (.iconst 3, 1) := by decide +kernel
theorem dX12_goes_271 : decode cX12_goes 271 = .ok (.goto 4, 3) := by decide +kernel
theorem dX12_goes_274 : decode cX12_goes 274 = .ok (.iconst 4, 1) := by decide +kernel
theorem dX12_goes_275 : decode cX12_goes 275 = .ok (.putfield 214, 3) := by decide +kernel
theorem dX12_goes_278 : decode cX12_goes 278 = .ok (.aload_n 0, 1) := by decide +kernel
theorem dX12_goes_279 : decode cX12_goes 279 = .ok (.aload_n 0, 1) := by decide +kernel
theorem dX12_goes_280 : decode cX12_goes 280 = .ok (.getfield 197, 3) := by decide +kernel
theorem dX12_goes_283 : decode cX12_goes 283 = .ok (.aload_n 0, 1) := by decide +kernel
theorem dX12_goes_284 : decode cX12_goes 284 = .ok (.getfield 204, 3) := by decide +kernel
theorem dX12_goes_287 : decode cX12_goes 287 = .ok (.isub, 1) := by decide +kernel
theorem dX12_goes_288 : decode cX12_goes 288 = .ok (.putfield 224, 3) := by decide +kernel
theorem dX12_goes_291 : decode cX12_goes 291 = .ok (.return_, 1) := by decide +kernel
theorem dX12_spelled_0 : decode cX12_spelled 0 = .ok (.iload_n 0, 1) := by decide +kernel
theorem dX12_spelled_1 : decode cX12_spelled 1 = .ok (.bipush 96, 2) := by decide +kernel
theorem dX12_spelled_3 : decode cX12_spelled 3 = .ok (.isub, 1) := by decide +kernel
theorem dX12_spelled_4 : decode cX12_spelled 4 = .ok (.i2l, 1) := by decide +kernel
theorem dX12_spelled_5 : decode cX12_spelled 5 = .ok (.lstore 6, 2) := by decide +kernel
theorem dX12_spelled_7 : decode cX12_spelled 7 = .ok (.iload_n 1, 1) := by decide +kernel
theorem dX12_spelled_8 : decode cX12_spelled 8 = .ok (.ifCond .eq 15, 3) := by decide +kernel
theorem dX12_spelled_11 : decode cX12_spelled 11 = .ok (.lload 6, 2) := by decide +kernel
theorem dX12_spelled_13 : decode cX12_spelled 13 = .ok (.iconst 5, 1) := by decide +kernel
theorem dX12_spelled_14 : decode cX12_spelled 14 = .ok (.lshl, 1) := by decide +kernel
theorem dX12_spelled_15 : decode cX12_spelled 15 = .ok (.iload_n 1, 1) := by decide +kernel
theorem dX12_spelled_16 : decode cX12_spelled 16 = .ok (.bipush 96, 2) := by decide +kernel
theorem dX12_spelled_18 : decode cX12_spelled 18 = .ok (.isub, 1) := by decide +kernel
theorem dX12_spelled_19 : decode cX12_spelled 19 = .ok (.i2l, 1) := by decide +kernel
theorem dX12_spelled_20 : decode cX12_spelled 20 = .ok (.lor, 1) := by decide +kernel
theorem dX12_spelled_21 : decode cX12_spelled 21 = .ok (.lstore 6, 2) := by decide +kernel
theorem dX12_spelled_23 : decode cX12_spelled 23 = .ok (.iload_n 2, 1) := by decide +kernel
theorem dX12_spelled_24 : decode cX12_spelled 24 = .ok (.ifCond .eq 15, 3) := by decide +kernel
theorem dX12_spelled_27 : decode cX12_spelled 27 = .ok (.lload 6, 2) := by decide +kernel
theorem dX12_spelled_29 : decode cX12_spelled 29 = .ok (.iconst 5, 1) := by decide +kernel
theorem dX12_spelled_30 : decode cX12_spelled 30 = .ok (.lshl, 1) := by decide +kernel
theorem dX12_spelled_31 : decode cX12_spelled 31 = .ok (.iload_n 2, 1) := by decide +kernel
theorem dX12_spelled_32 : decode cX12_spelled 32 = .ok (.bipush 96, 2) := by decide +kernel
theorem dX12_spelled_34 : decode cX12_spelled 34 = .ok (.isub, 1) := by decide +kernel
theorem dX12_spelled_35 : decode cX12_spelled 35 = .ok (.i2l, 1) := by decide +kernel
theorem dX12_spelled_36 : decode cX12_spelled 36 = .ok (.lor, 1) := by decide +kernel
theorem dX12_spelled_37 : decode cX12_spelled 37 = .ok (.lstore 6, 2) := by decide +kernel
theorem dX12_spelled_39 : decode cX12_spelled 39 = .ok (.iload_n 3, 1) := by decide +kernel
theorem dX12_spelled_40 : decode cX12_spelled 40 = .ok (.ifCond .eq 15, 3) := by decide +kernel
theorem dX12_spelled_43 : decode cX12_spelled 43 = .ok (.lload 6, 2) := by decide +kernel
theorem dX12_spelled_45 : decode cX12_spelled 45 = .ok (.iconst 5, 1) := by decide +kernel
theorem dX12_spelled_46 : decode cX12_spelled 46 = .ok (.lshl, 1) := by decide +kernel
theorem dX12_spelled_47 : decode cX12_spelled 47 = .ok (.iload_n 3, 1) := by decide +kernel
theorem dX12_spelled_48 : decode cX12_spelled 48 = .ok (.bipush 96, 2) := by decide +kernel
theorem dX12_spelled_50 : decode cX12_spelled 50 = .ok (.isub, 1) := by decide +kernel
theorem dX12_spelled_51 : decode cX12_spelled 51 = .ok (.i2l, 1) := by decide +kernel
theorem dX12_spelled_52 : decode cX12_spelled 52 = .ok (.lor, 1) := by decide +kernel
theorem dX12_spelled_53 : decode cX12_spelled 53 = .ok (.lstore 6, 2) := by decide +kernel
theorem dX12_spelled_55 : decode cX12_spelled 55 = .ok (.iload 4, 2) := by decide +kernel
theorem dX12_spelled_57 : decode cX12_spelled 57 = .ok (.ifCond .eq 16, 3) := by decide +kernel
theorem dX12_spelled_60 : decode cX12_spelled 60 = .ok (.lload 6, 2) := by decide +kernel
theorem dX12_spelled_62 : decode cX12_spelled 62 = .ok (.iconst 5, 1) := by decide +kernel
theorem dX12_spelled_63 : decode cX12_spelled 63 = .ok (.lshl, 1) := by decide +kernel
theorem dX12_spelled_64 : decode cX12_spelled 64 = .ok (.iload 4, 2) := by decide +kernel
theorem dX12_spelled_66 : decode cX12_spelled 66 = .ok (.bipush 96, 2) := by decide +kernel
theorem dX12_spelled_68 : decode cX12_spelled 68 = .ok (.isub, 1) := by decide +kernel
theorem dX12_spelled_69 : decode cX12_spelled 69 = .ok (.i2l, 1) := by decide +kernel
theorem dX12_spelled_70 : decode cX12_spelled 70 = .ok (.lor, 1) := by decide +kernel
theorem dX12_spelled_71 : decode cX12_spelled 71 = .ok (.lstore 6, 2) := by decide +kernel
theorem dX12_spelled_73 : decode cX12_spelled 73 = .ok (.iload 5, 2) := by decide +kernel
theorem dX12_spelled_75 : decode cX12_spelled 75 = .ok (.ifCond .eq 16, 3) := by decide +kernel
theorem dX12_spelled_78 : decode cX12_spelled 78 = .ok (.lload 6, 2) := by decide +kernel
theorem dX12_spelled_80 : decode cX12_spelled 80 = .ok (.iconst 5, 1) := by decide +kernel
theorem dX12_spelled_81 : decode cX12_spelled 81 = .ok (.lshl, 1) := by decide +kernel
theorem dX12_spelled_82 : decode cX12_spelled 82 = .ok (.iload 5, 2) := by decide +kernel
theorem dX12_spelled_84 : decode cX12_spelled 84 = .ok (.bipush 96, 2) := by decide +kernel
theorem dX12_spelled_86 : decode cX12_spelled 86 = .ok (.isub, 1) := by decide +kernel
theorem dX12_spelled_87 : decode cX12_spelled 87 = .ok (.i2l, 1) := by decide +kernel
theorem dX12_spelled_88 : decode cX12_spelled 88 = .ok (.lor, 1) := by decide +kernel
theorem dX12_spelled_89 : decode cX12_spelled 89 = .ok (.lstore 6, 2) := by decide +kernel
theorem dX12_spelled_91 : decode cX12_spelled 91 = .ok (.lload 6, 2) := by decide +kernel
theorem dX12_spelled_93 : decode cX12_spelled 93 = .ok (.lreturn, 1) := by decide +kernel
theorem dX12_letters_0 : decode cX12_letters 0 = .ok (.iload_n 0, 1) := by decide +kernel
theorem dX12_letters_1 : decode cX12_letters 1 = .ok (.tableswitch 199 0 9 #[55, 70, 86, 99, 114, 128, 143, 156, 171, 186], 55) := by decide +kernel
theorem dX12_letters_56 : decode cX12_letters 56 = .ok (.bipush 115, 2) := by decide +kernel
theorem dX12_letters_58 : decode cX12_letters 58 = .ok (.bipush 111, 2) := by decide +kernel
theorem dX12_letters_60 : decode cX12_letters 60 = .ok (.bipush 114, 2) := by decide +kernel
theorem dX12_letters_62 : decode cX12_letters 62 = .ok (.bipush 116, 2) := by decide +kernel
theorem dX12_letters_64 : decode cX12_letters 64 = .ok (.bipush 115, 2) := by decide +kernel
theorem dX12_letters_66 : decode cX12_letters 66 = .ok (.iconst 0, 1) := by decide +kernel
theorem dX12_letters_67 : decode cX12_letters 67 = .ok (.invokestatic 227, 3) := by decide +kernel
theorem dX12_letters_70 : decode cX12_letters 70 = .ok (.lreturn, 1) := by decide +kernel
theorem dX12_letters_71 : decode cX12_letters 71 = .ok (.bipush 112, 2) := by decide +kernel
theorem dX12_letters_73 : decode cX12_letters 73 = .ok (.bipush 101, 2) := by decide +kernel
theorem dX12_letters_75 : decode cX12_letters 75 = .ok (.bipush 114, 2) := by decide +kernel
theorem dX12_letters_77 : decode cX12_letters 77 = .ok (.bipush 115, 2) := by decide +kernel
theorem dX12_letters_79 : decode cX12_letters 79 = .ok (.bipush 111, 2) := by decide +kernel
theorem dX12_letters_81 : decode cX12_letters 81 = .ok (.bipush 110, 2) := by decide +kernel
theorem dX12_letters_83 : decode cX12_letters 83 = .ok (.invokestatic 227, 3) := by decide +kernel
theorem dX12_letters_86 : decode cX12_letters 86 = .ok (.lreturn, 1) := by decide +kernel
theorem dX12_letters_87 : decode cX12_letters 87 = .ok (.bipush 104, 2) := by decide +kernel
theorem dX12_letters_89 : decode cX12_letters 89 = .ok (.bipush 97, 2) := by decide +kernel
theorem dX12_letters_91 : decode cX12_letters 91 = .ok (.bipush 115, 2) := by decide +kernel
theorem dX12_letters_93 : decode cX12_letters 93 = .ok (.iconst 0, 1) := by decide +kernel
theorem dX12_letters_94 : decode cX12_letters 94 = .ok (.iconst 0, 1) := by decide +kernel
theorem dX12_letters_95 : decode cX12_letters 95 = .ok (.iconst 0, 1) := by decide +kernel
theorem dX12_letters_96 : decode cX12_letters 96 = .ok (.invokestatic 227, 3) := by decide +kernel
theorem dX12_letters_99 : decode cX12_letters 99 = .ok (.lreturn, 1) := by decide +kernel
theorem dX12_letters_100 : decode cX12_letters 100 = .ok (.bipush 119, 2) := by decide +kernel
theorem dX12_letters_102 : decode cX12_letters 102 = .ok (.bipush 111, 2) := by decide +kernel
theorem dX12_letters_104 : decode cX12_letters 104 = .ok (.bipush 114, 2) := by decide +kernel
theorem dX12_letters_106 : decode cX12_letters 106 = .ok (.bipush 116, 2) := by decide +kernel
theorem dX12_letters_108 : decode cX12_letters 108 = .ok (.bipush 104, 2) := by decide +kernel
theorem dX12_letters_110 : decode cX12_letters 110 = .ok (.iconst 0, 1) := by decide +kernel
theorem dX12_letters_111 : decode cX12_letters 111 = .ok (.invokestatic 227, 3) := by decide +kernel
theorem dX12_letters_114 : decode cX12_letters 114 = .ok (.lreturn, 1) := by decide +kernel
theorem dX12_letters_115 : decode cX12_letters 115 = .ok (.bipush 112, 2) := by decide +kernel
theorem dX12_letters_117 : decode cX12_letters 117 = .ok (.bipush 97, 2) := by decide +kernel
theorem dX12_letters_119 : decode cX12_letters 119 = .ok (.bipush 105, 2) := by decide +kernel
theorem dX12_letters_121 : decode cX12_letters 121 = .ok (.bipush 114, 2) := by decide +kernel
theorem dX12_letters_123 : decode cX12_letters 123 = .ok (.iconst 0, 1) := by decide +kernel
theorem dX12_letters_124 : decode cX12_letters 124 = .ok (.iconst 0, 1) := by decide +kernel
theorem dX12_letters_125 : decode cX12_letters 125 = .ok (.invokestatic 227, 3) := by decide +kernel
theorem dX12_letters_128 : decode cX12_letters 128 = .ok (.lreturn, 1) := by decide +kernel
theorem dX12_letters_129 : decode cX12_letters 129 = .ok (.bipush 102, 2) := by decide +kernel
theorem dX12_letters_131 : decode cX12_letters 131 = .ok (.bipush 97, 2) := by decide +kernel
theorem dX12_letters_133 : decode cX12_letters 133 = .ok (.bipush 108, 2) := by decide +kernel
theorem dX12_letters_135 : decode cX12_letters 135 = .ok (.bipush 108, 2) := by decide +kernel
theorem dX12_letters_137 : decode cX12_letters 137 = .ok (.bipush 115, 2) := by decide +kernel
theorem dX12_letters_139 : decode cX12_letters 139 = .ok (.iconst 0, 1) := by decide +kernel
theorem dX12_letters_140 : decode cX12_letters 140 = .ok (.invokestatic 227, 3) := by decide +kernel
theorem dX12_letters_143 : decode cX12_letters 143 = .ok (.lreturn, 1) := by decide +kernel
theorem dX12_letters_144 : decode cX12_letters 144 = .ok (.bipush 108, 2) := by decide +kernel
theorem dX12_letters_146 : decode cX12_letters 146 = .ok (.bipush 97, 2) := by decide +kernel
theorem dX12_letters_148 : decode cX12_letters 148 = .ok (.bipush 119, 2) := by decide +kernel
theorem dX12_letters_150 : decode cX12_letters 150 = .ok (.iconst 0, 1) := by decide +kernel
theorem dX12_letters_151 : decode cX12_letters 151 = .ok (.iconst 0, 1) := by decide +kernel
theorem dX12_letters_152 : decode cX12_letters 152 = .ok (.iconst 0, 1) := by decide +kernel
theorem dX12_letters_153 : decode cX12_letters 153 = .ok (.invokestatic 227, 3) := by decide +kernel
theorem dX12_letters_156 : decode cX12_letters 156 = .ok (.lreturn, 1) := by decide +kernel
theorem dX12_letters_157 : decode cX12_letters 157 = .ok (.bipush 115, 2) := by decide +kernel
theorem dX12_letters_159 : decode cX12_letters 159 = .ok (.bipush 112, 2) := by decide +kernel
theorem dX12_letters_161 : decode cX12_letters 161 = .ok (.bipush 111, 2) := by decide +kernel
theorem dX12_letters_163 : decode cX12_letters 163 = .ok (.bipush 111, 2) := by decide +kernel
theorem dX12_letters_165 : decode cX12_letters 165 = .ok (.bipush 110, 2) := by decide +kernel
theorem dX12_letters_167 : decode cX12_letters 167 = .ok (.iconst 0, 1) := by decide +kernel
theorem dX12_letters_168 : decode cX12_letters 168 = .ok (.invokestatic 227, 3) := by decide +kernel
theorem dX12_letters_171 : decode cX12_letters 171 = .ok (.lreturn, 1) := by decide +kernel
theorem dX12_letters_172 : decode cX12_letters 172 = .ok (.bipush 98, 2) := by decide +kernel
theorem dX12_letters_174 : decode cX12_letters 174 = .ok (.bipush 117, 2) := by decide +kernel
theorem dX12_letters_176 : decode cX12_letters 176 = .ok (.bipush 114, 2) := by decide +kernel
theorem dX12_letters_178 : decode cX12_letters 178 = .ok (.bipush 110, 2) := by decide +kernel
theorem dX12_letters_180 : decode cX12_letters 180 = .ok (.bipush 115, 2) := by decide +kernel
theorem dX12_letters_182 : decode cX12_letters 182 = .ok (.iconst 0, 1) := by decide +kernel
theorem dX12_letters_183 : decode cX12_letters 183 = .ok (.invokestatic 227, 3) := by decide +kernel
theorem dX12_letters_186 : decode cX12_letters 186 = .ok (.lreturn, 1) := by decide +kernel
theorem dX12_letters_187 : decode cX12_letters 187 = .ok (.bipush 116, 2) := by decide +kernel
theorem dX12_letters_189 : decode cX12_letters 189 = .ok (.bipush 105, 2) := by decide +kernel
theorem dX12_letters_191 : decode cX12_letters 191 = .ok (.bipush 101, 2) := by decide +kernel
theorem dX12_letters_193 : decode cX12_letters 193 = .ok (.iconst 0, 1) := by decide +kernel
theorem dX12_letters_194 : decode cX12_letters 194 = .ok (.iconst 0, 1) := by decide +kernel
theorem dX12_letters_195 : decode cX12_letters 195 = .ok (.iconst 0, 1) := by decide +kernel
theorem dX12_letters_196 : decode cX12_letters 196 = .ok (.invokestatic 227, 3) := by decide +kernel
theorem dX12_letters_199 : decode cX12_letters 199 = .ok (.lreturn, 1) := by decide +kernel
theorem dX12_letters_200 : decode cX12_letters 200 = .ok (.bipush 109, 2) := by decide +kernel
theorem dX12_letters_202 : decode cX12_letters 202 = .ok (.bipush 101, 2) := by decide +kernel
theorem dX12_letters_204 : decode cX12_letters 204 = .ok (.bipush 101, 2) := by decide +kernel
theorem dX12_letters_206 : decode cX12_letters 206 = .ok (.bipush 116, 2) := by decide +kernel
theorem dX12_letters_208 : decode cX12_letters 208 = .ok (.iconst 0, 1) := by decide +kernel
theorem dX12_letters_209 : decode cX12_letters 209 = .ok (.iconst 0, 1) := by decide +kernel
theorem dX12_letters_210 : decode cX12_letters 210 = .ok (.invokestatic 227, 3) := by decide +kernel
theorem dX12_letters_213 : decode cX12_letters 213 = .ok (.lreturn, 1) := by decide +kernel
theorem dX12_is_0 : decode cX12_is 0 = .ok (.aload_n 0, 1) := by decide +kernel
theorem dX12_is_1 : decode cX12_is 1 = .ok (.getfield 214, 3) := by decide +kernel
theorem dX12_is_4 : decode cX12_is 4 = .ok (.iconst 1, 1) := by decide +kernel
theorem dX12_is_5 : decode cX12_is 5 = .ok (.if_icmp .ne 28, 3) := by decide +kernel
theorem dX12_is_8 : decode cX12_is 8 = .ok (.aload_n 0, 1) := by decide +kernel
theorem dX12_is_9 : decode cX12_is 9 = .ok (.getfield 224, 3) := by decide +kernel
theorem dX12_is_12 : decode cX12_is 12 = .ok (.bipush 7, 2) := by decide +kernel
theorem dX12_is_14 : decode cX12_is 14 = .ok (.if_icmp .ge 19, 3) := by decide +kernel
theorem dX12_is_17 : decode cX12_is 17 = .ok (.aload_n 0, 1) := by decide +kernel
theorem dX12_is_18 : decode cX12_is 18 = .ok (.getfield 207, 3) := by decide +kernel
theorem dX12_is_21 : decode cX12_is 21 = .ok (.iload_n 1, 1) := by decide +kernel
theorem dX12_is_22 : decode cX12_is 22 = .ok (.invokestatic 231, 3) := by decide +kernel
theorem dX12_is_25 : decode cX12_is 25 = .ok (.lcmp, 1) := by decide +kernel
theorem dX12_is_26 : decode cX12_is 26 = .ok (.ifCond .ne 7, 3) := by decide +kernel
theorem dX12_is_29 : decode cX12_is 29 = .ok (.iconst 1, 1) := by decide +kernel
theorem dX12_is_30 : decode cX12_is 30 = .ok (.goto 4, 3) := by decide +kernel
theorem dX12_is_33 : decode cX12_is 33 = .ok (.iconst 0, 1) := by decide +kernel
theorem dX12_is_34 : decode cX12_is 34 = .ok (.ireturn, 1) := by decide +kernel
theorem dX12_wrong_0 : decode cX12_wrong 0 = .ok (.aload_n 0, 1) := by decide +kernel
theorem dX12_wrong_1 : decode cX12_wrong 1 = .ok (.getfield 235, 3) := by decide +kernel
theorem dX12_wrong_4 : decode cX12_wrong 4 = .ok (.ifCond .eq 4, 3) := by decide +kernel
theorem dX12_wrong_7 : decode cX12_wrong 7 = .ok (.return_, 1) := by decide +kernel
theorem dX12_wrong_8 : decode cX12_wrong 8 = .ok (.aload_n 0, 1) := by decide +kernel
theorem dX12_wrong_9 : decode cX12_wrong 9 = .ok (.iload_n 1, 1) := by decide +kernel
theorem dX12_wrong_10 : decode cX12_wrong 10 = .ok (.putfield 235, 3) := by decide +kernel
theorem dX12_wrong_13 : decode cX12_wrong 13 = .ok (.aload_n 0, 1) := by decide +kernel
theorem dX12_wrong_14 : decode cX12_wrong 14 = .ok (.aload_n 0, 1) := by decide +kernel
theorem dX12_wrong_15 : decode cX12_wrong 15 = .ok (.getfield 204, 3) := by decide +kernel
theorem dX12_wrong_18 : decode cX12_wrong 18 = .ok (.putfield 47, 3) := by decide +kernel
theorem dX12_wrong_21 : decode cX12_wrong 21 = .ok (.return_, 1) := by decide +kernel
theorem dX12_isGood_0 : decode cX12_isGood 0 = .ok (.aload_n 0, 1) := by decide +kernel
theorem dX12_isGood_1 : decode cX12_isGood 1 = .ok (.getfield 235, 3) := by decide +kernel
theorem dX12_isGood_4 : decode cX12_isGood 4 = .ok (.ifCond .ne 7, 3) := by decide +kernel
theorem dX12_isGood_7 : decode cX12_isGood 7 = .ok (.iconst 1, 1) := by decide +kernel
theorem dX12_isGood_8 : decode cX12_isGood 8 = .ok (.goto 4, 3) := by decide +kernel
theorem dX12_isGood_11 : decode cX12_isGood 11 = .ok (.iconst 0, 1) := by decide +kernel
theorem dX12_isGood_12 : decode cX12_isGood 12 = .ok (.ireturn, 1) := by decide +kernel
theorem dX12_need_0 : decode cX12_need 0 = .ok (.aload_n 0, 1) := by decide +kernel
theorem dX12_need_1 : decode cX12_need 1 = .ok (.invokevirtual 238, 3) := by decide +kernel
theorem dX12_need_4 : decode cX12_need 4 = .ok (.ifCond .ne 4, 3) := by decide +kernel
theorem dX12_need_7 : decode cX12_need 7 = .ok (.return_, 1) := by decide +kernel
theorem dX12_need_8 : decode cX12_need 8 = .ok (.iload_n 1, 1) := by decide +kernel
theorem dX12_need_9 : decode cX12_need 9 = .ok (.ifCond .eq 10, 3) := by decide +kernel
theorem dX12_need_12 : decode cX12_need 12 = .ok (.aload_n 0, 1) := by decide +kernel
theorem dX12_need_13 : decode cX12_need 13 = .ok (.invokevirtual 242, 3) := by decide +kernel
theorem dX12_need_16 : decode cX12_need 16 = .ok (.goto 8, 3) := by decide +kernel
theorem dX12_need_19 : decode cX12_need 19 = .ok (.aload_n 0, 1) := by decide +kernel
theorem dX12_need_20 : decode cX12_need 20 = .ok (.iconst 1, 1) := by decide +kernel
theorem dX12_need_21 : decode cX12_need 21 = .ok (.invokevirtual 245, 3) := by decide +kernel
theorem dX12_need_24 : decode cX12_need 24 = .ok (.return_, 1) := by decide +kernel
theorem dX12_number_0 : decode cX12_number 0 = .ok (.aload_n 0, 1) := by decide +kernel
theorem dX12_number_1 : decode cX12_number 1 = .ok (.invokevirtual 238, 3) := by decide +kernel
theorem dX12_number_4 : decode cX12_number 4 = .ok (.ifCond .ne 5, 3) := by decide +kernel
theorem dX12_number_7 : decode cX12_number 7 = .ok (.iconst 0, 1) := by decide +kernel
theorem dX12_number_8 : decode cX12_number 8 = .ok (.ireturn, 1) := by decide +kernel
theorem dX12_number_9 : decode cX12_number 9 = .ok (.aload_n 0, 1) := by decide +kernel
theorem dX12_number_10 : decode cX12_number 10 = .ok (.getfield 214, 3) := by decide +kernel
theorem dX12_number_13 : decode cX12_number 13 = .ok (.iconst 2, 1) := by decide +kernel
theorem dX12_number_14 : decode cX12_number 14 = .ok (.if_icmp .eq 11, 3) := by decide +kernel
theorem dX12_number_17 : decode cX12_number 17 = .ok (.aload_n 0, 1) := by decide +kernel
theorem dX12_number_18 : decode cX12_number 18 = .ok (.iconst 1, 1) := by decide +kernel
theorem dX12_number_19 : decode cX12_number 19 = .ok (.invokevirtual 245, 3) := by decide +kernel
theorem dX12_number_22 : decode cX12_number 22 = .ok (.goto 32, 3) := by decide +kernel
theorem dX12_number_25 : decode cX12_number 25 = .ok (.aload_n 0, 1) := by decide +kernel
theorem dX12_number_26 : decode cX12_number 26 = .ok (.getfield 224, 3) := by decide +kernel
theorem dX12_number_29 : decode cX12_number 29 = .ok (.iconst 4, 1) := by decide +kernel
theorem dX12_number_30 : decode cX12_number 30 = .ok (.if_icmp .gt 19, 3) := by decide +kernel
theorem dX12_number_33 : decode cX12_number 33 = .ok (.aload_n 0, 1) := by decide +kernel
theorem dX12_number_34 : decode cX12_number 34 = .ok (.getfield 211, 3) := by decide +kernel
theorem dX12_number_37 : decode cX12_number 37 = .ok (.iload_n 1, 1) := by decide +kernel
theorem dX12_number_38 : decode cX12_number 38 = .ok (.if_icmp .lt 11, 3) := by decide +kernel
theorem dX12_number_41 : decode cX12_number 41 = .ok (.aload_n 0, 1) := by decide +kernel
theorem dX12_number_42 : decode cX12_number 42 = .ok (.getfield 211, 3) := by decide +kernel
theorem dX12_number_45 : decode cX12_number 45 = .ok (.iload_n 2, 1) := by decide +kernel
theorem dX12_number_46 : decode cX12_number 46 = .ok (.if_icmp .le 8, 3) := by decide +kernel
theorem dX12_number_49 : decode cX12_number 49 = .ok (.aload_n 0, 1) := by decide +kernel
theorem dX12_number_50 : decode cX12_number 50 = .ok (.iconst 2, 1) := by decide +kernel
theorem dX12_number_51 : decode cX12_number 51 = .ok (.invokevirtual 245, 3) := by decide +kernel
theorem dX12_number_54 : decode cX12_number 54 = .ok (.aload_n 0, 1) := by decide +kernel
theorem dX12_number_55 : decode cX12_number 55 = .ok (.getfield 211, 3) := by decide +kernel
theorem dX12_number_58 : decode cX12_number 58 = .ok (.istore_n 3, 1) := by decide +kernel
theorem dX12_number_59 : decode cX12_number 59 = .ok (.aload_n 0, 1) := by decide +kernel
theorem dX12_number_60 : decode cX12_number 60 = .ok (.invokevirtual 238, 3) := by decide +kernel
theorem dX12_number_63 : decode cX12_number 63 = .ok (.ifCond .eq 7, 3) := by decide +kernel
theorem dX12_number_66 : decode cX12_number 66 = .ok (.aload_n 0, 1) := by decide +kernel
theorem dX12_number_67 : decode cX12_number 67 = .ok (.invokevirtual 242, 3) := by decide +kernel
theorem dX12_number_70 : decode cX12_number 70 = .ok (.iload_n 3, 1) := by decide +kernel
theorem dX12_number_71 : decode cX12_number 71 = .ok (.ireturn, 1) := by decide +kernel
theorem dX12_among_0 : decode cX12_among 0 = .ok (.aload_n 0, 1) := by decide +kernel
theorem dX12_among_1 : decode cX12_among 1 = .ok (.invokevirtual 238, 3) := by decide +kernel
theorem dX12_among_4 : decode cX12_among 4 = .ok (.ifCond .ne 5, 3) := by decide +kernel
theorem dX12_among_7 : decode cX12_among 7 = .ok (.iconst 0, 1) := by decide +kernel
theorem dX12_among_8 : decode cX12_among 8 = .ok (.ireturn, 1) := by decide +kernel
theorem dX12_among_9 : decode cX12_among 9 = .ok (.aload_n 0, 1) := by decide +kernel
theorem dX12_among_10 : decode cX12_among 10 = .ok (.getfield 214, 3) := by decide +kernel
theorem dX12_among_13 : decode cX12_among 13 = .ok (.iconst 2, 1) := by decide +kernel
theorem dX12_among_14 : decode cX12_among 14 = .ok (.if_icmp .eq 11, 3) := by decide +kernel
theorem dX12_among_17 : decode cX12_among 17 = .ok (.aload_n 0, 1) := by decide +kernel
theorem dX12_among_18 : decode cX12_among 18 = .ok (.iconst 1, 1) := by decide +kernel
theorem dX12_among_19 : decode cX12_among 19 = .ok (.invokevirtual 245, 3) := by decide +kernel
theorem dX12_among_22 : decode cX12_among 22 = .ok (.goto 32, 3) := by decide +kernel
theorem dX12_among_25 : decode cX12_among 25 = .ok (.aload_n 0, 1) := by decide +kernel
theorem dX12_among_26 : decode cX12_among 26 = .ok (.getfield 224, 3) := by decide +kernel
theorem dX12_among_29 : decode cX12_among 29 = .ok (.iconst 4, 1) := by decide +kernel
theorem dX12_among_30 : decode cX12_among 30 = .ok (.if_icmp .le 11, 3) := by decide +kernel
theorem dX12_among_33 : decode cX12_among 33 = .ok (.aload_n 0, 1) := by decide +kernel
theorem dX12_among_34 : decode cX12_among 34 = .ok (.iconst 2, 1) := by decide +kernel
theorem dX12_among_35 : decode cX12_among 35 = .ok (.invokevirtual 245, 3) := by decide +kernel
theorem dX12_among_38 : decode cX12_among 38 = .ok (.goto 16, 3) := by decide +kernel
theorem dX12_among_41 : decode cX12_among 41 = .ok (.aload_n 0, 1) := by decide +kernel
theorem dX12_among_42 : decode cX12_among 42 = .ok (.getfield 211, 3) := by decide +kernel
theorem dX12_among_45 : decode cX12_among 45 = .ok (.iload_n 1, 1) := by decide +kernel
theorem dX12_among_46 : decode cX12_among 46 = .ok (.if_icmp .lt 8, 3) := by decide +kernel
theorem dX12_among_49 : decode cX12_among 49 = .ok (.aload_n 0, 1) := by decide +kernel
theorem dX12_among_50 : decode cX12_among 50 = .ok (.iconst 3, 1) := by decide +kernel
theorem dX12_among_51 : decode cX12_among 51 = .ok (.invokevirtual 245, 3) := by decide +kernel
theorem dX12_among_54 : decode cX12_among 54 = .ok (.aload_n 0, 1) := by decide +kernel
theorem dX12_among_55 : decode cX12_among 55 = .ok (.invokevirtual 238, 3) := by decide +kernel
theorem dX12_among_58 : decode cX12_among 58 = .ok (.ireturn, 1) := by decide +kernel
theorem dX12_taken_0 : decode cX12_taken 0 = .ok (.aload_n 0, 1) := by decide +kernel
theorem dX12_taken_1 : decode cX12_taken 1 = .ok (.iload_n 1, 1) := by decide +kernel
theorem dX12_taken_2 : decode cX12_taken 2 = .ok (.invokevirtual 248, 3) := by decide +kernel
theorem dX12_taken_5 : decode cX12_taken 5 = .ok (.ifCond .eq 10, 3) := by decide +kernel
theorem dX12_taken_8 : decode cX12_taken 8 = .ok (.aload_n 0, 1) := by decide +kernel
theorem dX12_taken_9 : decode cX12_taken 9 = .ok (.getfield 211, 3) := by decide +kernel
theorem dX12_taken_12 : decode cX12_taken 12 = .ok (.goto 4, 3) := by decide +kernel
theorem dX12_taken_15 : decode cX12_taken 15 = .ok (.iconst 0, 1) := by decide +kernel
theorem dX12_taken_16 : decode cX12_taken 16 = .ok (.istore_n 2, 1) := by decide +kernel
theorem dX12_taken_17 : decode cX12_taken 17 = .ok (.aload_n 0, 1) := by decide +kernel
theorem dX12_taken_18 : decode cX12_taken 18 = .ok (.invokevirtual 238, 3) := by decide +kernel
theorem dX12_taken_21 : decode cX12_taken 21 = .ok (.ifCond .eq 7, 3) := by decide +kernel
theorem dX12_taken_24 : decode cX12_taken 24 = .ok (.aload_n 0, 1) := by decide +kernel
theorem dX12_taken_25 : decode cX12_taken 25 = .ok (.invokevirtual 242, 3) := by decide +kernel
theorem dX12_taken_28 : decode cX12_taken 28 = .ok (.iload_n 2, 1) := by decide +kernel
theorem dX12_taken_29 : decode cX12_taken 29 = .ok (.ireturn, 1) := by decide +kernel
theorem dX12_told_0 : decode cX12_told 0 = .ok (.aload_n 0, 1) := by decide +kernel
theorem dX12_told_1 : decode cX12_told 1 = .ok (.aload_n 0, 1) := by decide +kernel
theorem dX12_told_2 : decode cX12_told 2 = .ok (.getfield 251, 3) := by decide +kernel
theorem dX12_told_5 : decode cX12_told 5 = .ok (.invokevirtual 248, 3) := by decide +kernel
theorem dX12_told_8 : decode cX12_told 8 = .ok (.ifCond .ne 4, 3) := by decide +kernel
theorem dX12_told_11 : decode cX12_told 11 = .ok (.return_, 1) := by decide +kernel
theorem dX12_told_12 : decode cX12_told 12 = .ok (.bipush 8, 2) := by decide +kernel
theorem dX12_told_14 : decode cX12_told 14 = .ok (.aload_n 0, 1) := by decide +kernel
theorem dX12_told_15 : decode cX12_told 15 = .ok (.getfield 254, 3) := by decide +kernel
theorem dX12_told_18 : decode cX12_told 18 = .ok (.imul, 1) := by decide +kernel
theorem dX12_told_19 : decode cX12_told 19 = .ok (.aload_n 0, 1) := by decide +kernel
theorem dX12_told_20 : decode cX12_told 20 = .ok (.getfield 211, 3) := by decide +kernel
theorem dX12_told_23 : decode cX12_told 23 = .ok (.iadd, 1) := by decide +kernel
theorem dX12_told_24 : decode cX12_told 24 = .ok (.istore 4, 2) := by decide +kernel
theorem dX12_told_26 : decode cX12_told 26 = .ok (.aload_n 1, 1) := by decide +kernel
theorem dX12_told_27 : decode cX12_told 27 = .ok (.iload 4, 2) := by decide +kernel
theorem dX12_told_29 : decode cX12_told 29 = .ok (.baload, 1) := by decide +kernel
theorem dX12_told_30 : decode cX12_told 30 = .ok (.ifCond .eq 8, 3) := by decide +kernel
theorem dX12_told_33 : decode cX12_told 33 = .ok (.aload_n 0, 1) := by decide +kernel
theorem dX12_told_34 : decode cX12_told 34 = .ok (.iconst 5, 1) := by decide +kernel
theorem dX12_told_35 : decode cX12_told 35 = .ok (.invokevirtual 245, 3) := by decide +kernel
theorem dX12_told_38 : decode cX12_told 38 = .ok (.aload_n 0, 1) := by decide +kernel
theorem dX12_told_39 : decode cX12_told 39 = .ok (.invokevirtual 238, 3) := by decide +kernel
theorem dX12_told_42 : decode cX12_told 42 = .ok (.ifCond .ne 4, 3) := by decide +kernel
theorem dX12_told_45 : decode cX12_told 45 = .ok (.return_, 1) := by decide +kernel
theorem dX12_told_46 : decode cX12_told 46 = .ok (.aload_n 0, 1) := by decide +kernel
theorem dX12_told_47 : decode cX12_told 47 = .ok (.invokevirtual 242, 3) := by decide +kernel
theorem dX12_told_50 : decode cX12_told 50 = .ok (.aload_n 1, 1) := by decide +kernel
theorem dX12_told_51 : decode cX12_told 51 = .ok (.iload 4, 2) := by decide +kernel
theorem dX12_told_53 : decode cX12_told 53 = .ok (.iconst 1, 1) := by decide +kernel
theorem dX12_told_54 : decode cX12_told 54 = .ok (.bastore, 1) := by decide +kernel
theorem dX12_told_55 : decode cX12_told 55 = .ok (.aload_n 2, 1) := by decide +kernel
theorem dX12_told_56 : decode cX12_told 56 = .ok (.iload 4, 2) := by decide +kernel
theorem dX12_told_58 : decode cX12_told 58 = .ok (.aload_n 0, 1) := by decide +kernel
theorem dX12_told_59 : decode cX12_told 59 = .ok (.iconst 0, 1) := by decide +kernel
theorem dX12_told_60 : decode cX12_told 60 = .ok (.iload_n 3, 1) := by decide +kernel
theorem dX12_told_61 : decode cX12_told 61 = .ok (.invokevirtual 257, 3) := by decide +kernel
theorem dX12_told_64 : decode cX12_told 64 = .ok (.iastore, 1) := by decide +kernel
theorem dX12_told_65 : decode cX12_told 65 = .ok (.return_, 1) := by decide +kernel
theorem dX12_readsPair_0 : decode cX12_readsPair 0 = .ok (.aload_n 0, 1) := by decide +kernel
theorem dX12_readsPair_1 : decode cX12_readsPair 1 = .ok (.getfield 56, 3) := by decide +kernel
theorem dX12_readsPair_4 : decode cX12_readsPair 4 = .ok (.aload_n 0, 1) := by decide +kernel
theorem dX12_readsPair_5 : decode cX12_readsPair 5 = .ok (.getfield 254, 3) := by decide +kernel
theorem dX12_readsPair_8 : decode cX12_readsPair 8 = .ok (.iaload, 1) := by decide +kernel
theorem dX12_readsPair_9 : decode cX12_readsPair 9 = .ok (.bipush 6, 2) := by decide +kernel
theorem dX12_readsPair_11 : decode cX12_readsPair 11 = .ok (.if_icmp .ne 8, 3) := by decide +kernel
theorem dX12_readsPair_14 : decode cX12_readsPair 14 = .ok (.aload_n 0, 1) := by decide +kernel
theorem dX12_readsPair_15 : decode cX12_readsPair 15 = .ok (.iconst 2, 1) := by decide +kernel
theorem dX12_readsPair_16 : decode cX12_readsPair 16 = .ok (.invokevirtual 245, 3) := by decide +kernel
theorem dX12_readsPair_19 : decode cX12_readsPair 19 = .ok (.aload_n 0, 1) := by decide +kernel
theorem dX12_readsPair_20 : decode cX12_readsPair 20 = .ok (.invokevirtual 238, 3) := by decide +kernel
theorem dX12_readsPair_23 : decode cX12_readsPair 23 = .ok (.ifCond .ne 4, 3) := by decide +kernel
theorem dX12_readsPair_26 : decode cX12_readsPair 26 = .ok (.return_, 1) := by decide +kernel
theorem dX12_readsPair_27 : decode cX12_readsPair 27 = .ok (.aload_n 0, 1) := by decide +kernel
theorem dX12_readsPair_28 : decode cX12_readsPair 28 = .ok (.invokevirtual 242, 3) := by decide +kernel
theorem dX12_readsPair_31 : decode cX12_readsPair 31 = .ok (.bipush 18, 2) := by decide +kernel
theorem dX12_readsPair_33 : decode cX12_readsPair 33 = .ok (.aload_n 0, 1) := by decide +kernel
theorem dX12_readsPair_34 : decode cX12_readsPair 34 = .ok (.getfield 254, 3) := by decide +kernel
theorem dX12_readsPair_37 : decode cX12_readsPair 37 = .ok (.imul, 1) := by decide +kernel
theorem dX12_readsPair_38 : decode cX12_readsPair 38 = .ok (.iconst 3, 1) := by decide +kernel
theorem dX12_readsPair_39 : decode cX12_readsPair 39 = .ok (.aload_n 0, 1) := by decide +kernel
theorem dX12_readsPair_40 : decode cX12_readsPair 40 = .ok (.getfield 56, 3) := by decide +kernel
theorem dX12_readsPair_43 : decode cX12_readsPair 43 = .ok (.aload_n 0, 1) := by decide +kernel
theorem dX12_readsPair_44 : decode cX12_readsPair 44 = .ok (.getfield 254, 3) := by decide +kernel
theorem dX12_readsPair_47 : decode cX12_readsPair 47 = .ok (.iaload, 1) := by decide +kernel
theorem dX12_readsPair_48 : decode cX12_readsPair 48 = .ok (.imul, 1) := by decide +kernel
theorem dX12_readsPair_49 : decode cX12_readsPair 49 = .ok (.iadd, 1) := by decide +kernel
theorem dX12_readsPair_50 : decode cX12_readsPair 50 = .ok (.istore_n 1, 1) := by decide +kernel
theorem dX12_readsPair_51 : decode cX12_readsPair 51 = .ok (.aload_n 0, 1) := by decide +kernel
theorem dX12_readsPair_52 : decode cX12_readsPair 52 = .ok (.aload_n 0, 1) := by decide +kernel
theorem dX12_readsPair_53 : decode cX12_readsPair 53 = .ok (.getfield 251, 3) := by decide +kernel
theorem dX12_readsPair_56 : decode cX12_readsPair 56 = .ok (.invokevirtual 261, 3) := by decide +kernel
theorem dX12_readsPair_59 : decode cX12_readsPair 59 = .ok (.istore_n 2, 1) := by decide +kernel
theorem dX12_readsPair_60 : decode cX12_readsPair 60 = .ok (.aload_n 0, 1) := by decide +kernel
theorem dX12_readsPair_61 : decode cX12_readsPair 61 = .ok (.aload_n 0, 1) := by decide +kernel
theorem dX12_readsPair_62 : decode cX12_readsPair 62 = .ok (.getfield 251, 3) := by decide +kernel
theorem dX12_readsPair_65 : decode cX12_readsPair 65 = .ok (.invokevirtual 248, 3) := by decide +kernel
theorem dX12_readsPair_68 : decode cX12_readsPair 68 = .ok (.ifCond .eq 16, 3) := by decide +kernel
theorem dX12_readsPair_71 : decode cX12_readsPair 71 = .ok (.aload_n 0, 1) := by decide +kernel
theorem dX12_readsPair_72 : decode cX12_readsPair 72 = .ok (.getfield 211, 3) := by decide +kernel
theorem dX12_readsPair_75 : decode cX12_readsPair 75 = .ok (.iload_n 2, 1) := by decide +kernel
theorem dX12_readsPair_76 : decode cX12_readsPair 76 = .ok (.if_icmp .ne 8, 3) := by decide +kernel
theorem dX12_readsPair_79 : decode cX12_readsPair 79 = .ok (.aload_n 0, 1) := by decide +kernel
theorem dX12_readsPair_80 : decode cX12_readsPair 80 = .ok (.iconst 4, 1) := by decide +kernel
theorem dX12_readsPair_81 : decode cX12_readsPair 81 = .ok (.invokevirtual 245, 3) := by decide +kernel
theorem dX12_readsPair_84 : decode cX12_readsPair 84 = .ok (.aload_n 0, 1) := by decide +kernel
theorem dX12_readsPair_85 : decode cX12_readsPair 85 = .ok (.getfield 211, 3) := by decide +kernel
theorem dX12_readsPair_88 : decode cX12_readsPair 88 = .ok (.istore_n 3, 1) := by decide +kernel
theorem dX12_readsPair_89 : decode cX12_readsPair 89 = .ok (.aload_n 0, 1) := by decide +kernel
theorem dX12_readsPair_90 : decode cX12_readsPair 90 = .ok (.invokevirtual 238, 3) := by decide +kernel
theorem dX12_readsPair_93 : decode cX12_readsPair 93 = .ok (.ifCond .eq 7, 3) := by decide +kernel
theorem dX12_readsPair_96 : decode cX12_readsPair 96 = .ok (.aload_n 0, 1) := by decide +kernel
theorem dX12_readsPair_97 : decode cX12_readsPair 97 = .ok (.invokevirtual 242, 3) := by decide +kernel
theorem dX12_readsPair_100 : decode cX12_readsPair 100 = .ok (.aload_n 0, 1) := by decide +kernel
theorem dX12_readsPair_101 : decode cX12_readsPair 101 = .ok (.iconst 0, 1) := by decide +kernel
theorem dX12_readsPair_102 : decode cX12_readsPair 102 = .ok (.bipush 99, 2) := by decide +kernel
theorem dX12_readsPair_104 : decode cX12_readsPair 104 = .ok (.invokevirtual 257, 3) := by decide +kernel
theorem dX12_readsPair_107 : decode cX12_readsPair 107 = .ok (.istore 4, 2) := by decide +kernel
theorem dX12_readsPair_109 : decode cX12_readsPair 109 = .ok (.aload_n 0, 1) := by decide +kernel
theorem dX12_readsPair_110 : decode cX12_readsPair 110 = .ok (.invokevirtual 238, 3) := by decide +kernel
theorem dX12_readsPair_113 : decode cX12_readsPair 113 = .ok (.ifCond .ne 4, 3) := by decide +kernel
theorem dX12_readsPair_116 : decode cX12_readsPair 116 = .ok (.return_, 1) := by decide +kernel
theorem dX12_readsPair_117 : decode cX12_readsPair 117 = .ok (.aload_n 0, 1) := by decide +kernel
theorem dX12_readsPair_118 : decode cX12_readsPair 118 = .ok (.getfield 59, 3) := by decide +kernel
theorem dX12_readsPair_121 : decode cX12_readsPair 121 = .ok (.iload_n 1, 1) := by decide +kernel
theorem dX12_readsPair_122 : decode cX12_readsPair 122 = .ok (.iload_n 2, 1) := by decide +kernel
theorem dX12_readsPair_123 : decode cX12_readsPair 123 = .ok (.iastore, 1) := by decide +kernel
theorem dX12_readsPair_124 : decode cX12_readsPair 124 = .ok (.aload_n 0, 1) := by decide +kernel
theorem dX12_readsPair_125 : decode cX12_readsPair 125 = .ok (.getfield 59, 3) := by decide +kernel
theorem dX12_readsPair_128 : decode cX12_readsPair 128 = .ok (.iload_n 1, 1) := by decide +kernel
theorem dX12_readsPair_129 : decode cX12_readsPair 129 = .ok (.iconst 1, 1) := by decide +kernel
theorem dX12_readsPair_130 : decode cX12_readsPair 130 = .ok (.iadd, 1) := by decide +kernel
theorem dX12_readsPair_131 : decode cX12_readsPair 131 = .ok (.iload_n 3, 1) := by decide +kernel
theorem dX12_readsPair_132 : decode cX12_readsPair 132 = .ok (.iastore, 1) := by decide +kernel
theorem dX12_readsPair_133 : decode cX12_readsPair 133 = .ok (.aload_n 0, 1) := by decide +kernel
theorem dX12_readsPair_134 : decode cX12_readsPair 134 = .ok (.getfield 59, 3) := by decide +kernel
theorem dX12_readsPair_137 : decode cX12_readsPair 137 = .ok (.iload_n 1, 1) := by decide +kernel
theorem dX12_readsPair_138 : decode cX12_readsPair 138 = .ok (.iconst 2, 1) := by decide +kernel
theorem dX12_readsPair_139 : decode cX12_readsPair 139 = .ok (.iadd, 1) := by decide +kernel
theorem dX12_readsPair_140 : decode cX12_readsPair 140 = .ok (.iload 4, 2) := by decide +kernel
theorem dX12_readsPair_142 : decode cX12_readsPair 142 = .ok (.iastore, 1) := by decide +kernel
theorem dX12_readsPair_143 : decode cX12_readsPair 143 = .ok (.aload_n 0, 1) := by decide +kernel
theorem dX12_readsPair_144 : decode cX12_readsPair 144 = .ok (.getfield 56, 3) := by decide +kernel
theorem dX12_readsPair_147 : decode cX12_readsPair 147 = .ok (.aload_n 0, 1) := by decide +kernel
theorem dX12_readsPair_148 : decode cX12_readsPair 148 = .ok (.getfield 254, 3) := by decide +kernel
theorem dX12_readsPair_151 : decode cX12_readsPair 151 = .ok (.dup2, 1) := by decide +kernel
theorem dX12_readsPair_152 : decode cX12_readsPair 152 = .ok (.iaload, 1) := by decide +kernel
theorem dX12_readsPair_153 : decode cX12_readsPair 153 = .ok (.iconst 1, 1) := by decide +kernel
theorem dX12_readsPair_154 : decode cX12_readsPair 154 = .ok (.iadd, 1) := by decide +kernel
theorem dX12_readsPair_155 : decode cX12_readsPair 155 = .ok (.iastore, 1) := by decide +kernel
theorem dX12_readsPair_156 : decode cX12_readsPair 156 = .ok (.return_, 1) := by decide +kernel
theorem dX12_readsPerson_0 : decode cX12_readsPerson 0 = .ok (.aload_n 0, 1) := by decide +kernel
theorem dX12_readsPerson_1 : decode cX12_readsPerson 1 = .ok (.getfield 254, 3) := by decide +kernel
theorem dX12_readsPerson_4 : decode cX12_readsPerson 4 = .ok (.bipush 6, 2) := by decide +kernel
theorem dX12_readsPerson_6 : decode cX12_readsPerson 6 = .ok (.if_icmp .ne 8, 3) := by decide +kernel
theorem dX12_readsPerson_9 : decode cX12_readsPerson 9 = .ok (.aload_n 0, 1) := by decide +kernel
theorem dX12_readsPerson_10 : decode cX12_readsPerson 10 = .ok (.iconst 2, 1) := by decide +kernel
theorem dX12_readsPerson_11 : decode cX12_readsPerson 11 = .ok (.invokevirtual 245, 3) := by decide +kernel
theorem dX12_readsPerson_14 : decode cX12_readsPerson 14 = .ok (.aload_n 0, 1) := by decide +kernel
theorem dX12_readsPerson_15 : decode cX12_readsPerson 15 = .ok (.invokevirtual 238, 3) := by decide +kernel
theorem dX12_readsPerson_18 : decode cX12_readsPerson 18 = .ok (.ifCond .ne 4, 3) := by decide +kernel
theorem dX12_readsPerson_21 : decode cX12_readsPerson 21 = .ok (.return_, 1) := by decide +kernel
theorem dX12_readsPerson_22 : decode cX12_readsPerson 22 = .ok (.aload_n 0, 1) := by decide +kernel
theorem dX12_readsPerson_23 : decode cX12_readsPerson 23 = .ok (.invokevirtual 242, 3) := by decide +kernel
theorem dX12_readsPerson_26 : decode cX12_readsPerson 26 = .ok (.iconst 0, 1) := by decide +kernel
theorem dX12_readsPerson_27 : decode cX12_readsPerson 27 = .ok (.istore_n 1, 1) := by decide +kernel
theorem dX12_readsPerson_28 : decode cX12_readsPerson 28 = .ok (.iload_n 1, 1) := by decide +kernel
theorem dX12_readsPerson_29 : decode cX12_readsPerson 29 = .ok (.bipush 8, 2) := by decide +kernel
theorem dX12_readsPerson_31 : decode cX12_readsPerson 31 = .ok (.if_icmp .ge 69, 3) := by decide +kernel
theorem dX12_readsPerson_34 : decode cX12_readsPerson 34 = .ok (.aload_n 0, 1) := by decide +kernel
theorem dX12_readsPerson_35 : decode cX12_readsPerson 35 = .ok (.getfield 68, 3) := by decide +kernel
theorem dX12_readsPerson_38 : decode cX12_readsPerson 38 = .ok (.bipush 8, 2) := by decide +kernel
theorem dX12_readsPerson_40 : decode cX12_readsPerson 40 = .ok (.aload_n 0, 1) := by decide +kernel
theorem dX12_readsPerson_41 : decode cX12_readsPerson 41 = .ok (.getfield 254, 3) := by decide +kernel
theorem dX12_readsPerson_44 : decode cX12_readsPerson 44 = .ok (.imul, 1) := by decide +kernel
theorem dX12_readsPerson_45 : decode cX12_readsPerson 45 = .ok (.iload_n 1, 1) := by decide +kernel
theorem dX12_readsPerson_46 : decode cX12_readsPerson 46 = .ok (.iadd, 1) := by decide +kernel
theorem dX12_readsPerson_47 : decode cX12_readsPerson 47 = .ok (.iconst 0, 1) := by decide +kernel
theorem dX12_readsPerson_48 : decode cX12_readsPerson 48 = .ok (.iastore, 1) := by decide +kernel
theorem dX12_readsPerson_49 : decode cX12_readsPerson 49 = .ok (.aload_n 0, 1) := by decide +kernel
theorem dX12_readsPerson_50 : decode cX12_readsPerson 50 = .ok (.getfield 50, 3) := by decide +kernel
theorem dX12_readsPerson_53 : decode cX12_readsPerson 53 = .ok (.bipush 8, 2) := by decide +kernel
theorem dX12_readsPerson_55 : decode cX12_readsPerson 55 = .ok (.aload_n 0, 1) := by decide +kernel
theorem dX12_readsPerson_56 : decode cX12_readsPerson 56 = .ok (.getfield 254, 3) := by decide +kernel
theorem dX12_readsPerson_59 : decode cX12_readsPerson 59 = .ok (.imul, 1) := by decide +kernel
theorem dX12_readsPerson_60 : decode cX12_readsPerson 60 = .ok (.iload_n 1, 1) := by decide +kernel
theorem dX12_readsPerson_61 : decode cX12_readsPerson 61 = .ok (.iadd, 1) := by decide +kernel
theorem dX12_readsPerson_62 : decode cX12_readsPerson 62 = .ok (.iconst 0, 1) := by decide +kernel
theorem dX12_readsPerson_63 : decode cX12_readsPerson 63 = .ok (.iastore, 1) := by decide +kernel
theorem dX12_readsPerson_64 : decode cX12_readsPerson 64 = .ok (.aload_n 0, 1) := by decide +kernel
theorem dX12_readsPerson_65 : decode cX12_readsPerson 65 = .ok (.getfield 71, 3) := by decide +kernel
theorem dX12_readsPerson_68 : decode cX12_readsPerson 68 = .ok (.bipush 8, 2) := by decide +kernel
theorem dX12_readsPerson_70 : decode cX12_readsPerson 70 = .ok (.aload_n 0, 1) := by decide +kernel
theorem dX12_readsPerson_71 : decode cX12_readsPerson 71 = .ok (.getfield 254, 3) := by decide +kernel
theorem dX12_readsPerson_74 : decode cX12_readsPerson 74 = .ok (.imul, 1) := by decide +kernel
theorem dX12_readsPerson_75 : decode cX12_readsPerson 75 = .ok (.iload_n 1, 1) := by decide +kernel
theorem dX12_readsPerson_76 : decode cX12_readsPerson 76 = .ok (.iadd, 1) := by decide +kernel
theorem dX12_readsPerson_77 : decode cX12_readsPerson 77 = .ok (.iconst 0, 1) := by decide +kernel
theorem dX12_readsPerson_78 : decode cX12_readsPerson 78 = .ok (.bastore, 1) := by decide +kernel
theorem dX12_readsPerson_79 : decode cX12_readsPerson 79 = .ok (.aload_n 0, 1) := by decide +kernel
theorem dX12_readsPerson_80 : decode cX12_readsPerson 80 = .ok (.getfield 75, 3) := by decide +kernel
theorem dX12_readsPerson_83 : decode cX12_readsPerson 83 = .ok (.bipush 8, 2) := by decide +kernel
theorem dX12_readsPerson_85 : decode cX12_readsPerson 85 = .ok (.aload_n 0, 1) := by decide +kernel
theorem dX12_readsPerson_86 : decode cX12_readsPerson 86 = .ok (.getfield 254, 3) := by decide +kernel
theorem dX12_readsPerson_89 : decode cX12_readsPerson 89 = .ok (.imul, 1) := by decide +kernel
theorem dX12_readsPerson_90 : decode cX12_readsPerson 90 = .ok (.iload_n 1, 1) := by decide +kernel
theorem dX12_readsPerson_91 : decode cX12_readsPerson 91 = .ok (.iadd, 1) := by decide +kernel
theorem dX12_readsPerson_92 : decode cX12_readsPerson 92 = .ok (.iconst 0, 1) := by decide +kernel
theorem dX12_readsPerson_93 : decode cX12_readsPerson 93 = .ok (.bastore, 1) := by decide +kernel
theorem dX12_readsPerson_94 : decode cX12_readsPerson 94 = .ok (.iinc 1 1, 3) := by decide +kernel
theorem dX12_readsPerson_97 : decode cX12_readsPerson 97 = .ok (.goto (-69), 3) := by decide +kernel
theorem dX12_readsPerson_100 : decode cX12_readsPerson 100 = .ok (.aload_n 0, 1) := by decide +kernel
theorem dX12_readsPerson_101 : decode cX12_readsPerson 101 = .ok (.getfield 53, 3) := by decide +kernel
theorem dX12_readsPerson_104 : decode cX12_readsPerson 104 = .ok (.aload_n 0, 1) := by decide +kernel
theorem dX12_readsPerson_105 : decode cX12_readsPerson 105 = .ok (.getfield 254, 3) := by decide +kernel
theorem dX12_readsPerson_108 : decode cX12_readsPerson 108 = .ok (.iconst 0, 1) := by decide +kernel
theorem dX12_readsPerson_109 : decode cX12_readsPerson 109 = .ok (.iastore, 1) := by decide +kernel
theorem dX12_readsPerson_110 : decode cX12_readsPerson 110 = .ok (.aload_n 0, 1) := by decide +kernel
theorem dX12_readsPerson_111 : decode cX12_readsPerson 111 = .ok (.getfield 78, 3) := by decide +kernel
theorem dX12_readsPerson_114 : decode cX12_readsPerson 114 = .ok (.aload_n 0, 1) := by decide +kernel
theorem dX12_readsPerson_115 : decode cX12_readsPerson 115 = .ok (.getfield 254, 3) := by decide +kernel
theorem dX12_readsPerson_118 : decode cX12_readsPerson 118 = .ok (.iconst 0, 1) := by decide +kernel
theorem dX12_readsPerson_119 : decode cX12_readsPerson 119 = .ok (.bastore, 1) := by decide +kernel
theorem dX12_readsPerson_120 : decode cX12_readsPerson 120 = .ok (.aload_n 0, 1) := by decide +kernel
theorem dX12_readsPerson_121 : decode cX12_readsPerson 121 = .ok (.getfield 56, 3) := by decide +kernel
theorem dX12_readsPerson_124 : decode cX12_readsPerson 124 = .ok (.aload_n 0, 1) := by decide +kernel
theorem dX12_readsPerson_125 : decode cX12_readsPerson 125 = .ok (.getfield 254, 3) := by decide +kernel
theorem dX12_readsPerson_128 : decode cX12_readsPerson 128 = .ok (.iconst 0, 1) := by decide +kernel
theorem dX12_readsPerson_129 : decode cX12_readsPerson 129 = .ok (.iastore, 1) := by decide +kernel
theorem dX12_readsPerson_130 : decode cX12_readsPerson 130 = .ok (.iconst 1, 1) := by decide +kernel
theorem dX12_readsPerson_131 : decode cX12_readsPerson 131 = .ok (.istore_n 1, 1) := by decide +kernel
theorem dX12_readsPerson_132 : decode cX12_readsPerson 132 = .ok (.iload_n 1, 1) := by decide +kernel
theorem dX12_readsPerson_133 : decode cX12_readsPerson 133 = .ok (.ifCond .eq 153, 3) := by decide +kernel
theorem dX12_readsPerson_136 : decode cX12_readsPerson 136 = .ok (.aload_n 0, 1) := by decide +kernel
theorem dX12_readsPerson_137 : decode cX12_readsPerson 137 = .ok (.invokevirtual 238, 3) := by decide +kernel
theorem dX12_readsPerson_140 : decode cX12_readsPerson 140 = .ok (.ifCond .eq 146, 3) := by decide +kernel
theorem dX12_readsPerson_143 : decode cX12_readsPerson 143 = .ok (.aload_n 0, 1) := by decide +kernel
theorem dX12_readsPerson_144 : decode cX12_readsPerson 144 = .ok (.iconst 2, 1) := by decide +kernel
theorem dX12_readsPerson_145 : decode cX12_readsPerson 145 = .ok (.invokevirtual 264, 3) := by decide +kernel
theorem dX12_readsPerson_148 : decode cX12_readsPerson 148 = .ok (.ifCond .eq 24, 3) := by decide +kernel
theorem dX12_readsPerson_151 : decode cX12_readsPerson 151 = .ok (.aload_n 0, 1) := by decide +kernel
theorem dX12_readsPerson_152 : decode cX12_readsPerson 152 = .ok (.invokevirtual 242, 3) := by decide +kernel
theorem dX12_readsPerson_155 : decode cX12_readsPerson 155 = .ok (.aload_n 0, 1) := by decide +kernel
theorem dX12_readsPerson_156 : decode cX12_readsPerson 156 = .ok (.aload_n 0, 1) := by decide +kernel
theorem dX12_readsPerson_157 : decode cX12_readsPerson 157 = .ok (.getfield 71, 3) := by decide +kernel
theorem dX12_readsPerson_160 : decode cX12_readsPerson 160 = .ok (.aload_n 0, 1) := by decide +kernel
theorem dX12_readsPerson_161 : decode cX12_readsPerson 161 = .ok (.getfield 68, 3) := by decide +kernel
theorem dX12_readsPerson_164 : decode cX12_readsPerson 164 = .ok (.bipush 20, 2) := by decide +kernel
theorem dX12_readsPerson_166 : decode cX12_readsPerson 166 = .ok (.invokevirtual 267, 3) := by decide +kernel
theorem dX12_readsPerson_169 : decode cX12_readsPerson 169 = .ok (.goto (-37), 3) := by decide +kernel
theorem dX12_readsPerson_172 : decode cX12_readsPerson 172 = .ok (.aload_n 0, 1) := by decide +kernel
theorem dX12_readsPerson_173 : decode cX12_readsPerson 173 = .ok (.iconst 3, 1) := by decide +kernel
theorem dX12_readsPerson_174 : decode cX12_readsPerson 174 = .ok (.invokevirtual 264, 3) := by decide +kernel
theorem dX12_readsPerson_177 : decode cX12_readsPerson 177 = .ok (.ifCond .eq 24, 3) := by decide +kernel
theorem dX12_readsPerson_180 : decode cX12_readsPerson 180 = .ok (.aload_n 0, 1) := by decide +kernel
theorem dX12_readsPerson_181 : decode cX12_readsPerson 181 = .ok (.invokevirtual 242, 3) := by decide +kernel
theorem dX12_readsPerson_184 : decode cX12_readsPerson 184 = .ok (.aload_n 0, 1) := by decide +kernel
theorem dX12_readsPerson_185 : decode cX12_readsPerson 185 = .ok (.aload_n 0, 1) := by decide +kernel
theorem dX12_readsPerson_186 : decode cX12_readsPerson 186 = .ok (.getfield 75, 3) := by decide +kernel
theorem dX12_readsPerson_189 : decode cX12_readsPerson 189 = .ok (.aload_n 0, 1) := by decide +kernel
theorem dX12_readsPerson_190 : decode cX12_readsPerson 190 = .ok (.getfield 50, 3) := by decide +kernel
theorem dX12_readsPerson_193 : decode cX12_readsPerson 193 = .ok (.bipush 99, 2) := by decide +kernel
theorem dX12_readsPerson_195 : decode cX12_readsPerson 195 = .ok (.invokevirtual 267, 3) := by decide +kernel
theorem dX12_readsPerson_198 : decode cX12_readsPerson 198 = .ok (.goto (-66), 3) := by decide +kernel
theorem dX12_readsPerson_201 : decode cX12_readsPerson 201 = .ok (.aload_n 0, 1) := by decide +kernel
theorem dX12_readsPerson_202 : decode cX12_readsPerson 202 = .ok (.iconst 4, 1) := by decide +kernel
theorem dX12_readsPerson_203 : decode cX12_readsPerson 203 = .ok (.invokevirtual 264, 3) := by decide +kernel
theorem dX12_readsPerson_206 : decode cX12_readsPerson 206 = .ok (.ifCond .eq 10, 3) := by decide +kernel
theorem dX12_readsPerson_209 : decode cX12_readsPerson 209 = .ok (.aload_n 0, 1) := by decide +kernel
theorem dX12_readsPerson_210 : decode cX12_readsPerson 210 = .ok (.invokevirtual 271, 3) := by decide +kernel
theorem dX12_readsPerson_213 : decode cX12_readsPerson 213 = .ok (.goto (-81), 3) := by decide +kernel
theorem dX12_readsPerson_216 : decode cX12_readsPerson 216 = .ok (.aload_n 0, 1) := by decide +kernel
theorem dX12_readsPerson_217 : decode cX12_readsPerson 217 = .ok (.iconst 5, 1) := by decide +kernel
theorem dX12_readsPerson_218 : decode cX12_readsPerson 218 = .ok (.invokevirtual 264, 3) := by decide +kernel
theorem dX12_readsPerson_221 : decode cX12_readsPerson 221 = .ok (.ifCond .eq 60, 3) := by decide +kernel
theorem dX12_readsPerson_224 : decode cX12_readsPerson 224 = .ok (.aload_n 0, 1) := by decide +kernel
theorem dX12_readsPerson_225 : decode cX12_readsPerson 225 = .ok (.getfield 78, 3) := by decide +kernel
theorem dX12_readsPerson_228 : decode cX12_readsPerson 228 = .ok (.aload_n 0, 1) := by decide +kernel
theorem dX12_readsPerson_229 : decode cX12_readsPerson 229 = .ok (.getfield 254, 3) := by decide +kernel
theorem dX12_readsPerson_232 : decode cX12_readsPerson 232 = .ok (.baload, 1) := by decide +kernel
theorem dX12_readsPerson_233 : decode cX12_readsPerson 233 = .ok (.ifCond .eq 8, 3) := by decide +kernel
theorem dX12_readsPerson_236 : decode cX12_readsPerson 236 = .ok (.aload_n 0, 1) := by decide +kernel
theorem dX12_readsPerson_237 : decode cX12_readsPerson 237 = .ok (.iconst 5, 1) := by decide +kernel
theorem dX12_readsPerson_238 : decode cX12_readsPerson 238 = .ok (.invokevirtual 245, 3) := by decide +kernel
theorem dX12_readsPerson_241 : decode cX12_readsPerson 241 = .ok (.aload_n 0, 1) := by decide +kernel
theorem dX12_readsPerson_242 : decode cX12_readsPerson 242 = .ok (.invokevirtual 238, 3) := by decide +kernel
theorem dX12_readsPerson_245 : decode cX12_readsPerson 245 = .ok (.ifCond .eq (-113), 3) := by decide +kernel
theorem dX12_readsPerson_248 : decode cX12_readsPerson 248 = .ok (.aload_n 0, 1) := by decide +kernel
theorem dX12_readsPerson_249 : decode cX12_readsPerson 249 = .ok (.invokevirtual 242, 3) := by decide +kernel
theorem dX12_readsPerson_252 : decode cX12_readsPerson 252 = .ok (.aload_n 0, 1) := by decide +kernel
theorem dX12_readsPerson_253 : decode cX12_readsPerson 253 = .ok (.getfield 78, 3) := by decide +kernel
theorem dX12_readsPerson_256 : decode cX12_readsPerson 256 = .ok (.aload_n 0, 1) := by decide +kernel
theorem dX12_readsPerson_257 : decode cX12_readsPerson 257 = .ok (.getfield 254, 3) := by decide +kernel
theorem dX12_readsPerson_260 : decode cX12_readsPerson 260 = .ok (.iconst 1, 1) := by decide +kernel
theorem dX12_readsPerson_261 : decode cX12_readsPerson 261 = .ok (.bastore, 1) := by decide +kernel
theorem dX12_readsPerson_262 : decode cX12_readsPerson 262 = .ok (.aload_n 0, 1) := by decide +kernel
theorem dX12_readsPerson_263 : decode cX12_readsPerson 263 = .ok (.getfield 53, 3) := by decide +kernel
theorem dX12_readsPerson_266 : decode cX12_readsPerson 266 = .ok (.aload_n 0, 1) := by decide +kernel
theorem dX12_readsPerson_267 : decode cX12_readsPerson 267 = .ok (.getfield 254, 3) := by decide +kernel
theorem dX12_readsPerson_270 : decode cX12_readsPerson 270 = .ok (.aload_n 0, 1) := by decide +kernel
theorem dX12_readsPerson_271 : decode cX12_readsPerson 271 = .ok (.iconst 0, 1) := by decide +kernel
theorem dX12_readsPerson_272 : decode cX12_readsPerson 272 = .ok (.bipush 100, 2) := by decide +kernel
theorem dX12_readsPerson_274 : decode cX12_readsPerson 274 = .ok (.invokevirtual 257, 3) := by decide +kernel
theorem dX12_readsPerson_277 : decode cX12_readsPerson 277 = .ok (.iastore, 1) := by decide +kernel
theorem dX12_readsPerson_278 : decode cX12_readsPerson 278 = .ok (.goto (-146), 3) := by decide +kernel
theorem dX12_readsPerson_281 : decode cX12_readsPerson 281 = .ok (.iconst 0, 1) := by decide +kernel
theorem dX12_readsPerson_282 : decode cX12_readsPerson 282 = .ok (.istore_n 1, 1) := by decide +kernel
theorem dX12_readsPerson_283 : decode cX12_readsPerson 283 = .ok (.goto (-151), 3) := by decide +kernel
theorem dX12_readsPerson_286 : decode cX12_readsPerson 286 = .ok (.aload_n 0, 1) := by decide +kernel
theorem dX12_readsPerson_287 : decode cX12_readsPerson 287 = .ok (.invokevirtual 238, 3) := by decide +kernel
theorem dX12_readsPerson_290 : decode cX12_readsPerson 290 = .ok (.ifCond .eq 13, 3) := by decide +kernel
theorem dX12_readsPerson_293 : decode cX12_readsPerson 293 = .ok (.aload_n 0, 1) := by decide +kernel
theorem dX12_readsPerson_294 : decode cX12_readsPerson 294 = .ok (.dup, 1) := by decide +kernel
theorem dX12_readsPerson_295 : decode cX12_readsPerson 295 = .ok (.getfield 254, 3) := by decide +kernel
theorem dX12_readsPerson_298 : decode cX12_readsPerson 298 = .ok (.iconst 1, 1) := by decide +kernel
theorem dX12_readsPerson_299 : decode cX12_readsPerson 299 = .ok (.iadd, 1) := by decide +kernel
theorem dX12_readsPerson_300 : decode cX12_readsPerson 300 = .ok (.putfield 254, 3) := by decide +kernel
theorem dX12_readsPerson_303 : decode cX12_readsPerson 303 = .ok (.return_, 1) := by decide +kernel
theorem dX12_readsLaw_0 : decode cX12_readsLaw 0 = .ok (.aload_n 0, 1) := by decide +kernel
theorem dX12_readsLaw_1 : decode cX12_readsLaw 1 = .ok (.getfield 274, 3) := by decide +kernel
theorem dX12_readsLaw_4 : decode cX12_readsLaw 4 = .ok (.ifCond .eq 8, 3) := by decide +kernel
theorem dX12_readsLaw_7 : decode cX12_readsLaw 7 = .ok (.aload_n 0, 1) := by decide +kernel
theorem dX12_readsLaw_8 : decode cX12_readsLaw 8 = .ok (.iconst 5, 1) := by decide +kernel
theorem dX12_readsLaw_9 : decode cX12_readsLaw 9 = .ok (.invokevirtual 245, 3) := by decide +kernel
theorem dX12_readsLaw_12 : decode cX12_readsLaw 12 = .ok (.aload_n 0, 1) := by decide +kernel
theorem dX12_readsLaw_13 : decode cX12_readsLaw 13 = .ok (.invokevirtual 238, 3) := by decide +kernel
theorem dX12_readsLaw_16 : decode cX12_readsLaw 16 = .ok (.ifCond .ne 4, 3) := by decide +kernel
theorem dX12_readsLaw_19 : decode cX12_readsLaw 19 = .ok (.return_, 1) := by decide +kernel
theorem dX12_readsLaw_20 : decode cX12_readsLaw 20 = .ok (.aload_n 0, 1) := by decide +kernel
theorem dX12_readsLaw_21 : decode cX12_readsLaw 21 = .ok (.iconst 1, 1) := by decide +kernel
theorem dX12_readsLaw_22 : decode cX12_readsLaw 22 = .ok (.putfield 274, 3) := by decide +kernel
theorem dX12_readsLaw_25 : decode cX12_readsLaw 25 = .ok (.aload_n 0, 1) := by decide +kernel
theorem dX12_readsLaw_26 : decode cX12_readsLaw 26 = .ok (.invokevirtual 242, 3) := by decide +kernel
theorem dX12_readsLaw_29 : decode cX12_readsLaw 29 = .ok (.aload_n 0, 1) := by decide +kernel
theorem dX12_readsLaw_30 : decode cX12_readsLaw 30 = .ok (.aload_n 0, 1) := by decide +kernel
theorem dX12_readsLaw_31 : decode cX12_readsLaw 31 = .ok (.iconst 1, 1) := by decide +kernel
theorem dX12_readsLaw_32 : decode cX12_readsLaw 32 = .ok (.iconst 3, 1) := by decide +kernel
theorem dX12_readsLaw_33 : decode cX12_readsLaw 33 = .ok (.invokevirtual 257, 3) := by decide +kernel
theorem dX12_readsLaw_36 : decode cX12_readsLaw 36 = .ok (.putfield 278, 3) := by decide +kernel
theorem dX12_readsLaw_39 : decode cX12_readsLaw 39 = .ok (.aload_n 0, 1) := by decide +kernel
theorem dX12_readsLaw_40 : decode cX12_readsLaw 40 = .ok (.invokevirtual 238, 3) := by decide +kernel
theorem dX12_readsLaw_43 : decode cX12_readsLaw 43 = .ok (.ifCond .eq 28, 3) := by decide +kernel
theorem dX12_readsLaw_46 : decode cX12_readsLaw 46 = .ok (.aload_n 0, 1) := by decide +kernel
theorem dX12_readsLaw_47 : decode cX12_readsLaw 47 = .ok (.bipush 7, 2) := by decide +kernel
theorem dX12_readsLaw_49 : decode cX12_readsLaw 49 = .ok (.invokevirtual 264, 3) := by decide +kernel
theorem dX12_readsLaw_52 : decode cX12_readsLaw 52 = .ok (.ifCond .eq 19, 3) := by decide +kernel
theorem dX12_readsLaw_55 : decode cX12_readsLaw 55 = .ok (.aload_n 0, 1) := by decide +kernel
theorem dX12_readsLaw_56 : decode cX12_readsLaw 56 = .ok (.invokevirtual 242, 3) := by decide +kernel
theorem dX12_readsLaw_59 : decode cX12_readsLaw 59 = .ok (.aload_n 0, 1) := by decide +kernel
theorem dX12_readsLaw_60 : decode cX12_readsLaw 60 = .ok (.aload_n 0, 1) := by decide +kernel
theorem dX12_readsLaw_61 : decode cX12_readsLaw 61 = .ok (.aload_n 0, 1) := by decide +kernel
theorem dX12_readsLaw_62 : decode cX12_readsLaw 62 = .ok (.getfield 251, 3) := by decide +kernel
theorem dX12_readsLaw_65 : decode cX12_readsLaw 65 = .ok (.invokevirtual 261, 3) := by decide +kernel
theorem dX12_readsLaw_68 : decode cX12_readsLaw 68 = .ok (.putfield 281, 3) := by decide +kernel
theorem dX12_readsLaw_71 : decode cX12_readsLaw 71 = .ok (.aload_n 0, 1) := by decide +kernel
theorem dX12_readsLaw_72 : decode cX12_readsLaw 72 = .ok (.invokevirtual 238, 3) := by decide +kernel
theorem dX12_readsLaw_75 : decode cX12_readsLaw 75 = .ok (.ifCond .eq 21, 3) := by decide +kernel
theorem dX12_readsLaw_78 : decode cX12_readsLaw 78 = .ok (.aload_n 0, 1) := by decide +kernel
theorem dX12_readsLaw_79 : decode cX12_readsLaw 79 = .ok (.bipush 8, 2) := by decide +kernel
theorem dX12_readsLaw_81 : decode cX12_readsLaw 81 = .ok (.invokevirtual 264, 3) := by decide +kernel
theorem dX12_readsLaw_84 : decode cX12_readsLaw 84 = .ok (.ifCond .eq 12, 3) := by decide +kernel
theorem dX12_readsLaw_87 : decode cX12_readsLaw 87 = .ok (.aload_n 0, 1) := by decide +kernel
theorem dX12_readsLaw_88 : decode cX12_readsLaw 88 = .ok (.invokevirtual 242, 3) := by decide +kernel
theorem dX12_readsLaw_91 : decode cX12_readsLaw 91 = .ok (.aload_n 0, 1) := by decide +kernel
theorem dX12_readsLaw_92 : decode cX12_readsLaw 92 = .ok (.iconst 1, 1) := by decide +kernel
theorem dX12_readsLaw_93 : decode cX12_readsLaw 93 = .ok (.putfield 284, 3) := by decide +kernel
theorem dX12_readsLaw_96 : decode cX12_readsLaw 96 = .ok (.return_, 1) := by decide +kernel
theorem dX12_readsTie_0 : decode cX12_readsTie 0 = .ok (.aload_n 0, 1) := by decide +kernel
theorem dX12_readsTie_1 : decode cX12_readsTie 1 = .ok (.getfield 287, 3) := by decide +kernel
theorem dX12_readsTie_4 : decode cX12_readsTie 4 = .ok (.iconst 4, 1) := by decide +kernel
theorem dX12_readsTie_5 : decode cX12_readsTie 5 = .ok (.if_icmp .ne 8, 3) := by decide +kernel
theorem dX12_readsTie_8 : decode cX12_readsTie 8 = .ok (.aload_n 0, 1) := by decide +kernel
theorem dX12_readsTie_9 : decode cX12_readsTie 9 = .ok (.iconst 2, 1) := by decide +kernel
theorem dX12_readsTie_10 : decode cX12_readsTie 10 = .ok (.invokevirtual 245, 3) := by decide +kernel
theorem dX12_readsTie_13 : decode cX12_readsTie 13 = .ok (.aload_n 0, 1) := by decide +kernel
theorem dX12_readsTie_14 : decode cX12_readsTie 14 = .ok (.invokevirtual 238, 3) := by decide +kernel
theorem dX12_readsTie_17 : decode cX12_readsTie 17 = .ok (.ifCond .ne 4, 3) := by decide +kernel
theorem dX12_readsTie_20 : decode cX12_readsTie 20 = .ok (.return_, 1) := by decide +kernel
theorem dX12_readsTie_21 : decode cX12_readsTie 21 = .ok (.aload_n 0, 1) := by decide +kernel
theorem dX12_readsTie_22 : decode cX12_readsTie 22 = .ok (.invokevirtual 242, 3) := by decide +kernel
theorem dX12_readsTie_25 : decode cX12_readsTie 25 = .ok (.aload_n 0, 1) := by decide +kernel
theorem dX12_readsTie_26 : decode cX12_readsTie 26 = .ok (.aload_n 0, 1) := by decide +kernel
theorem dX12_readsTie_27 : decode cX12_readsTie 27 = .ok (.getfield 251, 3) := by decide +kernel
theorem dX12_readsTie_30 : decode cX12_readsTie 30 = .ok (.invokevirtual 261, 3) := by decide +kernel
theorem dX12_readsTie_33 : decode cX12_readsTie 33 = .ok (.istore_n 1, 1) := by decide +kernel
theorem dX12_readsTie_34 : decode cX12_readsTie 34 = .ok (.aload_n 0, 1) := by decide +kernel
theorem dX12_readsTie_35 : decode cX12_readsTie 35 = .ok (.aload_n 0, 1) := by decide +kernel
theorem dX12_readsTie_36 : decode cX12_readsTie 36 = .ok (.getfield 251, 3) := by decide +kernel
theorem dX12_readsTie_39 : decode cX12_readsTie 39 = .ok (.invokevirtual 261, 3) := by decide +kernel
theorem dX12_readsTie_42 : decode cX12_readsTie 42 = .ok (.istore_n 2, 1) := by decide +kernel
theorem dX12_readsTie_43 : decode cX12_readsTie 43 = .ok (.aload_n 0, 1) := by decide +kernel
theorem dX12_readsTie_44 : decode cX12_readsTie 44 = .ok (.aload_n 0, 1) := by decide +kernel
theorem dX12_readsTie_45 : decode cX12_readsTie 45 = .ok (.getfield 251, 3) := by decide +kernel
theorem dX12_readsTie_48 : decode cX12_readsTie 48 = .ok (.invokevirtual 248, 3) := by decide +kernel
theorem dX12_readsTie_51 : decode cX12_readsTie 51 = .ok (.ifCond .eq 24, 3) := by decide +kernel
theorem dX12_readsTie_54 : decode cX12_readsTie 54 = .ok (.aload_n 0, 1) := by decide +kernel
theorem dX12_readsTie_55 : decode cX12_readsTie 55 = .ok (.getfield 211, 3) := by decide +kernel
theorem dX12_readsTie_58 : decode cX12_readsTie 58 = .ok (.iload_n 1, 1) := by decide +kernel
theorem dX12_readsTie_59 : decode cX12_readsTie 59 = .ok (.if_icmp .eq 11, 3) := by decide +kernel
theorem dX12_readsTie_62 : decode cX12_readsTie 62 = .ok (.aload_n 0, 1) := by decide +kernel
theorem dX12_readsTie_63 : decode cX12_readsTie 63 = .ok (.getfield 211, 3) := by decide +kernel
theorem dX12_readsTie_66 : decode cX12_readsTie 66 = .ok (.iload_n 2, 1) := by decide +kernel
theorem dX12_readsTie_67 : decode cX12_readsTie 67 = .ok (.if_icmp .ne 8, 3) := by decide +kernel
theorem dX12_readsTie_70 : decode cX12_readsTie 70 = .ok (.aload_n 0, 1) := by decide +kernel
theorem dX12_readsTie_71 : decode cX12_readsTie 71 = .ok (.iconst 4, 1) := by decide +kernel
theorem dX12_readsTie_72 : decode cX12_readsTie 72 = .ok (.invokevirtual 245, 3) := by decide +kernel
theorem dX12_readsTie_75 : decode cX12_readsTie 75 = .ok (.aload_n 0, 1) := by decide +kernel
theorem dX12_readsTie_76 : decode cX12_readsTie 76 = .ok (.getfield 211, 3) := by decide +kernel
theorem dX12_readsTie_79 : decode cX12_readsTie 79 = .ok (.istore_n 3, 1) := by decide +kernel
theorem dX12_readsTie_80 : decode cX12_readsTie 80 = .ok (.aload_n 0, 1) := by decide +kernel
theorem dX12_readsTie_81 : decode cX12_readsTie 81 = .ok (.invokevirtual 238, 3) := by decide +kernel
theorem dX12_readsTie_84 : decode cX12_readsTie 84 = .ok (.ifCond .ne 4, 3) := by decide +kernel
theorem dX12_readsTie_87 : decode cX12_readsTie 87 = .ok (.return_, 1) := by decide +kernel
theorem dX12_readsTie_88 : decode cX12_readsTie 88 = .ok (.aload_n 0, 1) := by decide +kernel
theorem dX12_readsTie_89 : decode cX12_readsTie 89 = .ok (.invokevirtual 242, 3) := by decide +kernel
theorem dX12_readsTie_92 : decode cX12_readsTie 92 = .ok (.aload_n 0, 1) := by decide +kernel
theorem dX12_readsTie_93 : decode cX12_readsTie 93 = .ok (.getfield 62, 3) := by decide +kernel
theorem dX12_readsTie_96 : decode cX12_readsTie 96 = .ok (.iconst 3, 1) := by decide +kernel
theorem dX12_readsTie_97 : decode cX12_readsTie 97 = .ok (.aload_n 0, 1) := by decide +kernel
theorem dX12_readsTie_98 : decode cX12_readsTie 98 = .ok (.getfield 287, 3) := by decide +kernel
theorem dX12_readsTie_101 : decode cX12_readsTie 101 = .ok (.imul, 1) := by decide +kernel
theorem dX12_readsTie_102 : decode cX12_readsTie 102 = .ok (.iload_n 1, 1) := by decide +kernel
theorem dX12_readsTie_103 : decode cX12_readsTie 103 = .ok (.iastore, 1) := by decide +kernel
theorem dX12_readsTie_104 : decode cX12_readsTie 104 = .ok (.aload_n 0, 1) := by decide +kernel
theorem dX12_readsTie_105 : decode cX12_readsTie 105 = .ok (.getfield 62, 3) := by decide +kernel
theorem dX12_readsTie_108 : decode cX12_readsTie 108 = .ok (.iconst 3, 1) := by decide +kernel
theorem dX12_readsTie_109 : decode cX12_readsTie 109 = .ok (.aload_n 0, 1) := by decide +kernel
theorem dX12_readsTie_110 : decode cX12_readsTie 110 = .ok (.getfield 287, 3) := by decide +kernel
theorem dX12_readsTie_113 : decode cX12_readsTie 113 = .ok (.imul, 1) := by decide +kernel
theorem dX12_readsTie_114 : decode cX12_readsTie 114 = .ok (.iconst 1, 1) := by decide +kernel
theorem dX12_readsTie_115 : decode cX12_readsTie 115 = .ok (.iadd, 1) := by decide +kernel
theorem dX12_readsTie_116 : decode cX12_readsTie 116 = .ok (.iload_n 2, 1) := by decide +kernel
theorem dX12_readsTie_117 : decode cX12_readsTie 117 = .ok (.iastore, 1) := by decide +kernel
theorem dX12_readsTie_118 : decode cX12_readsTie 118 = .ok (.aload_n 0, 1) := by decide +kernel
theorem dX12_readsTie_119 : decode cX12_readsTie 119 = .ok (.getfield 62, 3) := by decide +kernel
theorem dX12_readsTie_122 : decode cX12_readsTie 122 = .ok (.iconst 3, 1) := by decide +kernel
theorem dX12_readsTie_123 : decode cX12_readsTie 123 = .ok (.aload_n 0, 1) := by decide +kernel
theorem dX12_readsTie_124 : decode cX12_readsTie 124 = .ok (.getfield 287, 3) := by decide +kernel
theorem dX12_readsTie_127 : decode cX12_readsTie 127 = .ok (.imul, 1) := by decide +kernel
theorem dX12_readsTie_128 : decode cX12_readsTie 128 = .ok (.iconst 2, 1) := by decide +kernel
theorem dX12_readsTie_129 : decode cX12_readsTie 129 = .ok (.iadd, 1) := by decide +kernel
theorem dX12_readsTie_130 : decode cX12_readsTie 130 = .ok (.iload_n 3, 1) := by decide +kernel
theorem dX12_readsTie_131 : decode cX12_readsTie 131 = .ok (.iastore, 1) := by decide +kernel
theorem dX12_readsTie_132 : decode cX12_readsTie 132 = .ok (.aload_n 0, 1) := by decide +kernel
theorem dX12_readsTie_133 : decode cX12_readsTie 133 = .ok (.dup, 1) := by decide +kernel
theorem dX12_readsTie_134 : decode cX12_readsTie 134 = .ok (.getfield 287, 3) := by decide +kernel
theorem dX12_readsTie_137 : decode cX12_readsTie 137 = .ok (.iconst 1, 1) := by decide +kernel
theorem dX12_readsTie_138 : decode cX12_readsTie 138 = .ok (.iadd, 1) := by decide +kernel
theorem dX12_readsTie_139 : decode cX12_readsTie 139 = .ok (.putfield 287, 3) := by decide +kernel
theorem dX12_readsTie_142 : decode cX12_readsTie 142 = .ok (.return_, 1) := by decide +kernel
theorem dX12_readsMeeting_0 : decode cX12_readsMeeting 0 = .ok (.aload_n 0, 1) := by decide +kernel
theorem dX12_readsMeeting_1 : decode cX12_readsMeeting 1 = .ok (.getfield 290, 3) := by decide +kernel
theorem dX12_readsMeeting_4 : decode cX12_readsMeeting 4 = .ok (.bipush 8, 2) := by decide +kernel
theorem dX12_readsMeeting_6 : decode cX12_readsMeeting 6 = .ok (.if_icmp .ne 8, 3) := by decide +kernel
theorem dX12_readsMeeting_9 : decode cX12_readsMeeting 9 = .ok (.aload_n 0, 1) := by decide +kernel
theorem dX12_readsMeeting_10 : decode cX12_readsMeeting 10 = .ok (.iconst 2, 1) := by decide +kernel
theorem dX12_readsMeeting_11 : decode cX12_readsMeeting 11 = .ok (.invokevirtual 245, 3) := by decide +kernel
theorem dX12_readsMeeting_14 : decode cX12_readsMeeting 14 = .ok (.aload_n 0, 1) := by decide +kernel
theorem dX12_readsMeeting_15 : decode cX12_readsMeeting 15 = .ok (.invokevirtual 238, 3) := by decide +kernel
theorem dX12_readsMeeting_18 : decode cX12_readsMeeting 18 = .ok (.ifCond .ne 4, 3) := by decide +kernel
theorem dX12_readsMeeting_21 : decode cX12_readsMeeting 21 = .ok (.return_, 1) := by decide +kernel
theorem dX12_readsMeeting_22 : decode cX12_readsMeeting 22 = .ok (.aload_n 0, 1) := by decide +kernel
theorem dX12_readsMeeting_23 : decode cX12_readsMeeting 23 = .ok (.invokevirtual 242, 3) := by decide +kernel
theorem dX12_readsMeeting_26 : decode cX12_readsMeeting 26 = .ok (.aload_n 0, 1) := by decide +kernel
theorem dX12_readsMeeting_27 : decode cX12_readsMeeting 27 = .ok (.aload_n 0, 1) := by decide +kernel
theorem dX12_readsMeeting_28 : decode cX12_readsMeeting 28 = .ok (.getfield 254, 3) := by decide +kernel
theorem dX12_readsMeeting_31 : decode cX12_readsMeeting 31 = .ok (.invokevirtual 261, 3) := by decide +kernel
theorem dX12_readsMeeting_34 : decode cX12_readsMeeting 34 = .ok (.istore_n 1, 1) := by decide +kernel
theorem dX12_readsMeeting_35 : decode cX12_readsMeeting 35 = .ok (.aload_n 0, 1) := by decide +kernel
theorem dX12_readsMeeting_36 : decode cX12_readsMeeting 36 = .ok (.aload_n 0, 1) := by decide +kernel
theorem dX12_readsMeeting_37 : decode cX12_readsMeeting 37 = .ok (.getfield 254, 3) := by decide +kernel
theorem dX12_readsMeeting_40 : decode cX12_readsMeeting 40 = .ok (.invokevirtual 248, 3) := by decide +kernel
theorem dX12_readsMeeting_43 : decode cX12_readsMeeting 43 = .ok (.ifCond .eq 16, 3) := by decide +kernel
theorem dX12_readsMeeting_46 : decode cX12_readsMeeting 46 = .ok (.aload_n 0, 1) := by decide +kernel
theorem dX12_readsMeeting_47 : decode cX12_readsMeeting 47 = .ok (.getfield 211, 3) := by decide +kernel
theorem dX12_readsMeeting_50 : decode cX12_readsMeeting 50 = .ok (.iload_n 1, 1) := by decide +kernel
theorem dX12_readsMeeting_51 : decode cX12_readsMeeting 51 = .ok (.if_icmp .ne 8, 3) := by decide +kernel
theorem dX12_readsMeeting_54 : decode cX12_readsMeeting 54 = .ok (.aload_n 0, 1) := by decide +kernel
theorem dX12_readsMeeting_55 : decode cX12_readsMeeting 55 = .ok (.iconst 4, 1) := by decide +kernel
theorem dX12_readsMeeting_56 : decode cX12_readsMeeting 56 = .ok (.invokevirtual 245, 3) := by decide +kernel
theorem dX12_readsMeeting_59 : decode cX12_readsMeeting 59 = .ok (.aload_n 0, 1) := by decide +kernel
theorem dX12_readsMeeting_60 : decode cX12_readsMeeting 60 = .ok (.getfield 211, 3) := by decide +kernel
theorem dX12_readsMeeting_63 : decode cX12_readsMeeting 63 = .ok (.istore_n 2, 1) := by decide +kernel
theorem dX12_readsMeeting_64 : decode cX12_readsMeeting 64 = .ok (.aload_n 0, 1) := by decide +kernel
theorem dX12_readsMeeting_65 : decode cX12_readsMeeting 65 = .ok (.invokevirtual 238, 3) := by decide +kernel
theorem dX12_readsMeeting_68 : decode cX12_readsMeeting 68 = .ok (.ifCond .ne 4, 3) := by decide +kernel
theorem dX12_readsMeeting_71 : decode cX12_readsMeeting 71 = .ok (.return_, 1) := by decide +kernel
theorem dX12_readsMeeting_72 : decode cX12_readsMeeting 72 = .ok (.aload_n 0, 1) := by decide +kernel
theorem dX12_readsMeeting_73 : decode cX12_readsMeeting 73 = .ok (.invokevirtual 242, 3) := by decide +kernel
theorem dX12_readsMeeting_76 : decode cX12_readsMeeting 76 = .ok (.aload_n 0, 1) := by decide +kernel
theorem dX12_readsMeeting_77 : decode cX12_readsMeeting 77 = .ok (.getfield 65, 3) := by decide +kernel
theorem dX12_readsMeeting_80 : decode cX12_readsMeeting 80 = .ok (.iconst 2, 1) := by decide +kernel
theorem dX12_readsMeeting_81 : decode cX12_readsMeeting 81 = .ok (.aload_n 0, 1) := by decide +kernel
theorem dX12_readsMeeting_82 : decode cX12_readsMeeting 82 = .ok (.getfield 290, 3) := by decide +kernel
theorem dX12_readsMeeting_85 : decode cX12_readsMeeting 85 = .ok (.imul, 1) := by decide +kernel
theorem dX12_readsMeeting_86 : decode cX12_readsMeeting 86 = .ok (.iload_n 1, 1) := by decide +kernel
theorem dX12_readsMeeting_87 : decode cX12_readsMeeting 87 = .ok (.iastore, 1) := by decide +kernel
theorem dX12_readsMeeting_88 : decode cX12_readsMeeting 88 = .ok (.aload_n 0, 1) := by decide +kernel
theorem dX12_readsMeeting_89 : decode cX12_readsMeeting 89 = .ok (.getfield 65, 3) := by decide +kernel
theorem dX12_readsMeeting_92 : decode cX12_readsMeeting 92 = .ok (.iconst 2, 1) := by decide +kernel
theorem dX12_readsMeeting_93 : decode cX12_readsMeeting 93 = .ok (.aload_n 0, 1) := by decide +kernel
theorem dX12_readsMeeting_94 : decode cX12_readsMeeting 94 = .ok (.getfield 290, 3) := by decide +kernel
theorem dX12_readsMeeting_97 : decode cX12_readsMeeting 97 = .ok (.imul, 1) := by decide +kernel
theorem dX12_readsMeeting_98 : decode cX12_readsMeeting 98 = .ok (.iconst 1, 1) := by decide +kernel
theorem dX12_readsMeeting_99 : decode cX12_readsMeeting 99 = .ok (.iadd, 1) := by decide +kernel
theorem dX12_readsMeeting_100 : decode cX12_readsMeeting 100 = .ok (.iload_n 2, 1) := by decide +kernel
theorem dX12_readsMeeting_101 : decode cX12_readsMeeting 101 = .ok (.iastore, 1) := by decide +kernel
theorem dX12_readsMeeting_102 : decode cX12_readsMeeting 102 = .ok (.aload_n 0, 1) := by decide +kernel
theorem dX12_readsMeeting_103 : decode cX12_readsMeeting 103 = .ok (.dup, 1) := by decide +kernel
theorem dX12_readsMeeting_104 : decode cX12_readsMeeting 104 = .ok (.getfield 290, 3) := by decide +kernel
theorem dX12_readsMeeting_107 : decode cX12_readsMeeting 107 = .ok (.iconst 1, 1) := by decide +kernel
theorem dX12_readsMeeting_108 : decode cX12_readsMeeting 108 = .ok (.iadd, 1) := by decide +kernel
theorem dX12_readsMeeting_109 : decode cX12_readsMeeting 109 = .ok (.putfield 290, 3) := by decide +kernel
theorem dX12_readsMeeting_112 : decode cX12_readsMeeting 112 = .ok (.return_, 1) := by decide +kernel
theorem dX12_line_0 : decode cX12_line 0 = .ok (.aload_n 0, 1) := by decide +kernel
theorem dX12_line_1 : decode cX12_line 1 = .ok (.iconst 0, 1) := by decide +kernel
theorem dX12_line_2 : decode cX12_line 2 = .ok (.invokevirtual 264, 3) := by decide +kernel
theorem dX12_line_5 : decode cX12_line 5 = .ok (.ifCond .eq 38, 3) := by decide +kernel
theorem dX12_line_8 : decode cX12_line 8 = .ok (.iload_n 1, 1) := by decide +kernel
theorem dX12_line_9 : decode cX12_line 9 = .ok (.ifCond .ne 8, 3) := by decide +kernel
theorem dX12_line_12 : decode cX12_line 12 = .ok (.aload_n 0, 1) := by decide +kernel
theorem dX12_line_13 : decode cX12_line 13 = .ok (.iconst 5, 1) := by decide +kernel
theorem dX12_line_14 : decode cX12_line 14 = .ok (.invokevirtual 245, 3) := by decide +kernel
theorem dX12_line_17 : decode cX12_line 17 = .ok (.aload_n 0, 1) := by decide +kernel
theorem dX12_line_18 : decode cX12_line 18 = .ok (.invokevirtual 238, 3) := by decide +kernel
theorem dX12_line_21 : decode cX12_line 21 = .ok (.ifCond .ne 4, 3) := by decide +kernel
theorem dX12_line_24 : decode cX12_line 24 = .ok (.return_, 1) := by decide +kernel
theorem dX12_line_25 : decode cX12_line 25 = .ok (.aload_n 0, 1) := by decide +kernel
theorem dX12_line_26 : decode cX12_line 26 = .ok (.invokevirtual 242, 3) := by decide +kernel
theorem dX12_line_29 : decode cX12_line 29 = .ok (.aload_n 0, 1) := by decide +kernel
theorem dX12_line_30 : decode cX12_line 30 = .ok (.aload_n 0, 1) := by decide +kernel
theorem dX12_line_31 : decode cX12_line 31 = .ok (.iconst 1, 1) := by decide +kernel
theorem dX12_line_32 : decode cX12_line 32 = .ok (.bipush 8, 2) := by decide +kernel
theorem dX12_line_34 : decode cX12_line 34 = .ok (.invokevirtual 257, 3) := by decide +kernel
theorem dX12_line_37 : decode cX12_line 37 = .ok (.putfield 251, 3) := by decide +kernel
theorem dX12_line_40 : decode cX12_line 40 = .ok (.goto 71, 3) := by decide +kernel
theorem dX12_line_43 : decode cX12_line 43 = .ok (.aload_n 0, 1) := by decide +kernel
theorem dX12_line_44 : decode cX12_line 44 = .ok (.iconst 1, 1) := by decide +kernel
theorem dX12_line_45 : decode cX12_line 45 = .ok (.invokevirtual 264, 3) := by decide +kernel
theorem dX12_line_48 : decode cX12_line 48 = .ok (.ifCond .eq 10, 3) := by decide +kernel
theorem dX12_line_51 : decode cX12_line 51 = .ok (.aload_n 0, 1) := by decide +kernel
theorem dX12_line_52 : decode cX12_line 52 = .ok (.invokevirtual 293, 3) := by decide +kernel
theorem dX12_line_55 : decode cX12_line 55 = .ok (.goto 56, 3) := by decide +kernel
theorem dX12_line_58 : decode cX12_line 58 = .ok (.aload_n 0, 1) := by decide +kernel
theorem dX12_line_59 : decode cX12_line 59 = .ok (.bipush 6, 2) := by decide +kernel
theorem dX12_line_61 : decode cX12_line 61 = .ok (.invokevirtual 264, 3) := by decide +kernel
theorem dX12_line_64 : decode cX12_line 64 = .ok (.ifCond .eq 10, 3) := by decide +kernel
theorem dX12_line_67 : decode cX12_line 67 = .ok (.aload_n 0, 1) := by decide +kernel
theorem dX12_line_68 : decode cX12_line 68 = .ok (.invokevirtual 296, 3) := by decide +kernel
theorem dX12_line_71 : decode cX12_line 71 = .ok (.goto 40, 3) := by decide +kernel
theorem dX12_line_74 : decode cX12_line 74 = .ok (.aload_n 0, 1) := by decide +kernel
theorem dX12_line_75 : decode cX12_line 75 = .ok (.bipush 9, 2) := by decide +kernel
theorem dX12_line_77 : decode cX12_line 77 = .ok (.invokevirtual 264, 3) := by decide +kernel
theorem dX12_line_80 : decode cX12_line 80 = .ok (.ifCond .eq 10, 3) := by decide +kernel
theorem dX12_line_83 : decode cX12_line 83 = .ok (.aload_n 0, 1) := by decide +kernel
theorem dX12_line_84 : decode cX12_line 84 = .ok (.invokevirtual 299, 3) := by decide +kernel
theorem dX12_line_87 : decode cX12_line 87 = .ok (.goto 24, 3) := by decide +kernel
theorem dX12_line_90 : decode cX12_line 90 = .ok (.aload_n 0, 1) := by decide +kernel
theorem dX12_line_91 : decode cX12_line 91 = .ok (.bipush 10, 2) := by decide +kernel
theorem dX12_line_93 : decode cX12_line 93 = .ok (.invokevirtual 264, 3) := by decide +kernel
theorem dX12_line_96 : decode cX12_line 96 = .ok (.ifCond .eq 10, 3) := by decide +kernel
theorem dX12_line_99 : decode cX12_line 99 = .ok (.aload_n 0, 1) := by decide +kernel
theorem dX12_line_100 : decode cX12_line 100 = .ok (.invokevirtual 302, 3) := by decide +kernel
theorem dX12_line_103 : decode cX12_line 103 = .ok (.goto 8, 3) := by decide +kernel
theorem dX12_line_106 : decode cX12_line 106 = .ok (.aload_n 0, 1) := by decide +kernel
theorem dX12_line_107 : decode cX12_line 107 = .ok (.iconst 1, 1) := by decide +kernel
theorem dX12_line_108 : decode cX12_line 108 = .ok (.invokevirtual 245, 3) := by decide +kernel
theorem dX12_line_111 : decode cX12_line 111 = .ok (.aload_n 0, 1) := by decide +kernel
theorem dX12_line_112 : decode cX12_line 112 = .ok (.aload_n 0, 1) := by decide +kernel
theorem dX12_line_113 : decode cX12_line 113 = .ok (.getfield 214, 3) := by decide +kernel
theorem dX12_line_116 : decode cX12_line 116 = .ok (.iconst 3, 1) := by decide +kernel
theorem dX12_line_117 : decode cX12_line 117 = .ok (.if_icmp .ne 7, 3) := by decide +kernel
theorem dX12_line_120 : decode cX12_line 120 = .ok (.iconst 1, 1) := by decide +kernel
theorem dX12_line_121 : decode cX12_line 121 = .ok (.goto 4, 3) := by decide +kernel
theorem dX12_line_124 : decode cX12_line 124 = .ok (.iconst 0, 1) := by decide +kernel
theorem dX12_line_125 : decode cX12_line 125 = .ok (.invokevirtual 305, 3) := by decide +kernel
theorem dX12_line_128 : decode cX12_line 128 = .ok (.return_, 1) := by decide +kernel
theorem dX12_copies_0 : decode cX12_copies 0 = .ok (.iconst 0, 1) := by decide +kernel
theorem dX12_copies_1 : decode cX12_copies 1 = .ok (.istore_n 3, 1) := by decide +kernel
theorem dX12_copies_2 : decode cX12_copies 2 = .ok (.iload_n 3, 1) := by decide +kernel
theorem dX12_copies_3 : decode cX12_copies 3 = .ok (.aload_n 1, 1) := by decide +kernel
theorem dX12_copies_4 : decode cX12_copies 4 = .ok (.arraylength, 1) := by decide +kernel
theorem dX12_copies_5 : decode cX12_copies 5 = .ok (.if_icmp .ge 15, 3) := by decide +kernel
theorem dX12_copies_8 : decode cX12_copies 8 = .ok (.aload_n 2, 1) := by decide +kernel
theorem dX12_copies_9 : decode cX12_copies 9 = .ok (.iload_n 3, 1) := by decide +kernel
theorem dX12_copies_10 : decode cX12_copies 10 = .ok (.aload_n 1, 1) := by decide +kernel
theorem dX12_copies_11 : decode cX12_copies 11 = .ok (.iload_n 3, 1) := by decide +kernel
theorem dX12_copies_12 : decode cX12_copies 12 = .ok (.iaload, 1) := by decide +kernel
theorem dX12_copies_13 : decode cX12_copies 13 = .ok (.iastore, 1) := by decide +kernel
theorem dX12_copies_14 : decode cX12_copies 14 = .ok (.iinc 3 1, 3) := by decide +kernel
theorem dX12_copies_17 : decode cX12_copies 17 = .ok (.goto (-15), 3) := by decide +kernel
theorem dX12_copies_20 : decode cX12_copies 20 = .ok (.return_, 1) := by decide +kernel
theorem dX12_town_0 : decode cX12_town 0 = .ok (.aload_n 0, 1) := by decide +kernel
theorem dX12_town_1 : decode cX12_town 1 = .ok (.iconst 0, 1) := by decide +kernel
theorem dX12_town_2 : decode cX12_town 2 = .ok (.putfield 184, 3) := by decide +kernel
theorem dX12_town_5 : decode cX12_town 5 = .ok (.aload_n 0, 1) := by decide +kernel
theorem dX12_town_6 : decode cX12_town 6 = .ok (.iload_n 1, 1) := by decide +kernel
theorem dX12_town_7 : decode cX12_town 7 = .ok (.ifCond .lt 15, 3) := by decide +kernel
theorem dX12_town_10 : decode cX12_town 10 = .ok (.iload_n 1, 1) := by decide +kernel
theorem dX12_town_11 : decode cX12_town 11 = .ok (.aload_n 0, 1) := by decide +kernel
theorem dX12_town_12 : decode cX12_town 12 = .ok (.getfield 187, 3) := by decide +kernel
theorem dX12_town_15 : decode cX12_town 15 = .ok (.if_icmp .gt 7, 3) := by decide +kernel
theorem dX12_town_18 : decode cX12_town 18 = .ok (.iconst 1, 1) := by decide +kernel
theorem dX12_town_19 : decode cX12_town 19 = .ok (.goto 4, 3) := by decide +kernel
theorem dX12_town_22 : decode cX12_town 22 = .ok (.iconst 0, 1) := by decide +kernel
theorem dX12_town_23 : decode cX12_town 23 = .ok (.iconst 1, 1) := by decide +kernel
theorem dX12_town_24 : decode cX12_town 24 = .ok (.invokevirtual 309, 3) := by decide +kernel
theorem dX12_town_27 : decode cX12_town 27 = .ok (.ifCond .ne 5, 3) := by decide +kernel
theorem dX12_town_30 : decode cX12_town 30 = .ok (.iconst 0, 1) := by decide +kernel
theorem dX12_town_31 : decode cX12_town 31 = .ok (.ireturn, 1) := by decide +kernel
theorem dX12_town_32 : decode cX12_town 32 = .ok (.aload_n 0, 1) := by decide +kernel
theorem dX12_town_33 : decode cX12_town 33 = .ok (.iconst 0, 1) := by decide +kernel
theorem dX12_town_34 : decode cX12_town 34 = .ok (.putfield 187, 3) := by decide +kernel
theorem dX12_town_37 : decode cX12_town 37 = .ok (.aload_n 0, 1) := by decide +kernel
theorem dX12_town_38 : decode cX12_town 38 = .ok (.iconst (-1), 1) := by decide +kernel
theorem dX12_town_39 : decode cX12_town 39 = .ok (.putfield 47, 3) := by decide +kernel
theorem dX12_town_42 : decode cX12_town 42 = .ok (.aload_n 0, 1) := by decide +kernel
theorem dX12_town_43 : decode cX12_town 43 = .ok (.iconst 0, 1) := by decide +kernel
theorem dX12_town_44 : decode cX12_town 44 = .ok (.putfield 235, 3) := by decide +kernel
theorem dX12_town_47 : decode cX12_town 47 = .ok (.aload_n 0, 1) := by decide +kernel
theorem dX12_town_48 : decode cX12_town 48 = .ok (.iload_n 1, 1) := by decide +kernel
theorem dX12_town_49 : decode cX12_town 49 = .ok (.putfield 194, 3) := by decide +kernel
theorem dX12_town_52 : decode cX12_town 52 = .ok (.aload_n 0, 1) := by decide +kernel
theorem dX12_town_53 : decode cX12_town 53 = .ok (.iconst 0, 1) := by decide +kernel
theorem dX12_town_54 : decode cX12_town 54 = .ok (.putfield 197, 3) := by decide +kernel
theorem dX12_town_57 : decode cX12_town 57 = .ok (.aload_n 0, 1) := by decide +kernel
theorem dX12_town_58 : decode cX12_town 58 = .ok (.iconst 0, 1) := by decide +kernel
theorem dX12_town_59 : decode cX12_town 59 = .ok (.putfield 254, 3) := by decide +kernel
theorem dX12_town_62 : decode cX12_town 62 = .ok (.aload_n 0, 1) := by decide +kernel
theorem dX12_town_63 : decode cX12_town 63 = .ok (.iconst 1, 1) := by decide +kernel
theorem dX12_town_64 : decode cX12_town 64 = .ok (.putfield 251, 3) := by decide +kernel
theorem dX12_town_67 : decode cX12_town 67 = .ok (.aload_n 0, 1) := by decide +kernel
theorem dX12_town_68 : decode cX12_town 68 = .ok (.iconst 2, 1) := by decide +kernel
theorem dX12_town_69 : decode cX12_town 69 = .ok (.putfield 278, 3) := by decide +kernel
theorem dX12_town_72 : decode cX12_town 72 = .ok (.aload_n 0, 1) := by decide +kernel
theorem dX12_town_73 : decode cX12_town 73 = .ok (.iconst (-1), 1) := by decide +kernel
theorem dX12_town_74 : decode cX12_town 74 = .ok (.putfield 281, 3) := by decide +kernel
theorem dX12_town_77 : decode cX12_town 77 = .ok (.aload_n 0, 1) := by decide +kernel
theorem dX12_town_78 : decode cX12_town 78 = .ok (.iconst 0, 1) := by decide +kernel
theorem dX12_town_79 : decode cX12_town 79 = .ok (.putfield 287, 3) := by decide +kernel
theorem dX12_town_82 : decode cX12_town 82 = .ok (.aload_n 0, 1) := by decide +kernel
theorem dX12_town_83 : decode cX12_town 83 = .ok (.iconst 0, 1) := by decide +kernel
theorem dX12_town_84 : decode cX12_town 84 = .ok (.putfield 290, 3) := by decide +kernel
theorem dX12_town_87 : decode cX12_town 87 = .ok (.aload_n 0, 1) := by decide +kernel
theorem dX12_town_88 : decode cX12_town 88 = .ok (.iconst 0, 1) := by decide +kernel
theorem dX12_town_89 : decode cX12_town 89 = .ok (.putfield 284, 3) := by decide +kernel
theorem dX12_town_92 : decode cX12_town 92 = .ok (.aload_n 0, 1) := by decide +kernel
theorem dX12_town_93 : decode cX12_town 93 = .ok (.iconst 0, 1) := by decide +kernel
theorem dX12_town_94 : decode cX12_town 94 = .ok (.putfield 274, 3) := by decide +kernel
theorem dX12_town_97 : decode cX12_town 97 = .ok (.aload_n 0, 1) := by decide +kernel
theorem dX12_town_98 : decode cX12_town 98 = .ok (.invokevirtual 242, 3) := by decide +kernel
theorem dX12_town_101 : decode cX12_town 101 = .ok (.iconst 1, 1) := by decide +kernel
theorem dX12_town_102 : decode cX12_town 102 = .ok (.istore_n 2, 1) := by decide +kernel
theorem dX12_town_103 : decode cX12_town 103 = .ok (.aload_n 0, 1) := by decide +kernel
theorem dX12_town_104 : decode cX12_town 104 = .ok (.invokevirtual 238, 3) := by decide +kernel
theorem dX12_town_107 : decode cX12_town 107 = .ok (.ifCond .eq 20, 3) := by decide +kernel
theorem dX12_town_110 : decode cX12_town 110 = .ok (.aload_n 0, 1) := by decide +kernel
theorem dX12_town_111 : decode cX12_town 111 = .ok (.getfield 214, 3) := by decide +kernel
theorem dX12_town_114 : decode cX12_town 114 = .ok (.ifCond .eq 13, 3) := by decide +kernel
theorem dX12_town_117 : decode cX12_town 117 = .ok (.aload_n 0, 1) := by decide +kernel
theorem dX12_town_118 : decode cX12_town 118 = .ok (.iload_n 2, 1) := by decide +kernel
theorem dX12_town_119 : decode cX12_town 119 = .ok (.invokevirtual 313, 3) := by decide +kernel
theorem dX12_town_122 : decode cX12_town 122 = .ok (.iconst 0, 1) := by decide +kernel
theorem dX12_town_123 : decode cX12_town 123 = .ok (.istore_n 2, 1) := by decide +kernel
theorem dX12_town_124 : decode cX12_town 124 = .ok (.goto (-21), 3) := by decide +kernel
theorem dX12_town_127 : decode cX12_town 127 = .ok (.aload_n 0, 1) := by decide +kernel
theorem dX12_town_128 : decode cX12_town 128 = .ok (.invokevirtual 238, 3) := by decide +kernel
theorem dX12_town_131 : decode cX12_town 131 = .ok (.ifCond .ne 18, 3) := by decide +kernel
theorem dX12_town_134 : decode cX12_town 134 = .ok (.aload_n 0, 1) := by decide +kernel
theorem dX12_town_135 : decode cX12_town 135 = .ok (.getfield 41, 3) := by decide +kernel
theorem dX12_town_138 : decode cX12_town 138 = .ok (.iconst 0, 1) := by decide +kernel
theorem dX12_town_139 : decode cX12_town 139 = .ok (.dup2, 1) := by decide +kernel
theorem dX12_town_140 : decode cX12_town 140 = .ok (.iaload, 1) := by decide +kernel
theorem dX12_town_141 : decode cX12_town 141 = .ok (.iconst 1, 1) := by decide +kernel
theorem dX12_town_142 : decode cX12_town 142 = .ok (.iadd, 1) := by decide +kernel
theorem dX12_town_143 : decode cX12_town 143 = .ok (.iastore, 1) := by decide +kernel
theorem dX12_town_144 : decode cX12_town 144 = .ok (.aload_n 0, 1) := by decide +kernel
theorem dX12_town_145 : decode cX12_town 145 = .ok (.getfield 235, 3) := by decide +kernel
theorem dX12_town_148 : decode cX12_town 148 = .ok (.ireturn, 1) := by decide +kernel
theorem dX12_town_149 : decode cX12_town 149 = .ok (.aload_n 0, 1) := by decide +kernel
theorem dX12_town_150 : decode cX12_town 150 = .ok (.aload_n 0, 1) := by decide +kernel
theorem dX12_town_151 : decode cX12_town 151 = .ok (.getfield 254, 3) := by decide +kernel
theorem dX12_town_154 : decode cX12_town 154 = .ok (.putfield 316, 3) := by decide +kernel
theorem dX12_town_157 : decode cX12_town 157 = .ok (.aload_n 0, 1) := by decide +kernel
theorem dX12_town_158 : decode cX12_town 158 = .ok (.aload_n 0, 1) := by decide +kernel
theorem dX12_town_159 : decode cX12_town 159 = .ok (.getfield 251, 3) := by decide +kernel
theorem dX12_town_162 : decode cX12_town 162 = .ok (.putfield 7, 3) := by decide +kernel
theorem dX12_town_165 : decode cX12_town 165 = .ok (.aload_n 0, 1) := by decide +kernel
theorem dX12_town_166 : decode cX12_town 166 = .ok (.aload_n 0, 1) := by decide +kernel
theorem dX12_town_167 : decode cX12_town 167 = .ok (.getfield 278, 3) := by decide +kernel
theorem dX12_town_170 : decode cX12_town 170 = .ok (.putfield 13, 3) := by decide +kernel
theorem dX12_town_173 : decode cX12_town 173 = .ok (.aload_n 0, 1) := by decide +kernel
theorem dX12_town_174 : decode cX12_town 174 = .ok (.aload_n 0, 1) := by decide +kernel
theorem dX12_town_175 : decode cX12_town 175 = .ok (.getfield 281, 3) := by decide +kernel
theorem dX12_town_178 : decode cX12_town 178 = .ok (.putfield 16, 3) := by decide +kernel
theorem dX12_town_181 : decode cX12_town 181 = .ok (.aload_n 0, 1) := by decide +kernel
theorem dX12_town_182 : decode cX12_town 182 = .ok (.aload_n 0, 1) := by decide +kernel
theorem dX12_town_183 : decode cX12_town 183 = .ok (.getfield 287, 3) := by decide +kernel
theorem dX12_town_186 : decode cX12_town 186 = .ok (.putfield 319, 3) := by decide +kernel
theorem dX12_town_189 : decode cX12_town 189 = .ok (.aload_n 0, 1) := by decide +kernel
theorem dX12_town_190 : decode cX12_town 190 = .ok (.aload_n 0, 1) := by decide +kernel
theorem dX12_town_191 : decode cX12_town 191 = .ok (.getfield 290, 3) := by decide +kernel
theorem dX12_town_194 : decode cX12_town 194 = .ok (.putfield 322, 3) := by decide +kernel
theorem dX12_town_197 : decode cX12_town 197 = .ok (.aload_n 0, 1) := by decide +kernel
theorem dX12_town_198 : decode cX12_town 198 = .ok (.aload_n 0, 1) := by decide +kernel
theorem dX12_town_199 : decode cX12_town 199 = .ok (.getfield 284, 3) := by decide +kernel
theorem dX12_town_202 : decode cX12_town 202 = .ok (.putfield 325, 3) := by decide +kernel
theorem dX12_town_205 : decode cX12_town 205 = .ok (.aload_n 0, 1) := by decide +kernel
theorem dX12_town_206 : decode cX12_town 206 = .ok (.aload_n 0, 1) := by decide +kernel
theorem dX12_town_207 : decode cX12_town 207 = .ok (.getfield 50, 3) := by decide +kernel
theorem dX12_town_210 : decode cX12_town 210 = .ok (.aload_n 0, 1) := by decide +kernel
theorem dX12_town_211 : decode cX12_town 211 = .ok (.getfield 19, 3) := by decide +kernel
theorem dX12_town_214 : decode cX12_town 214 = .ok (.invokevirtual 328, 3) := by decide +kernel
theorem dX12_town_217 : decode cX12_town 217 = .ok (.aload_n 0, 1) := by decide +kernel
theorem dX12_town_218 : decode cX12_town 218 = .ok (.aload_n 0, 1) := by decide +kernel
theorem dX12_town_219 : decode cX12_town 219 = .ok (.getfield 53, 3) := by decide +kernel
theorem dX12_town_222 : decode cX12_town 222 = .ok (.aload_n 0, 1) := by decide +kernel
theorem dX12_town_223 : decode cX12_town 223 = .ok (.getfield 23, 3) := by decide +kernel
theorem dX12_town_226 : decode cX12_town 226 = .ok (.invokevirtual 328, 3) := by decide +kernel
theorem dX12_town_229 : decode cX12_town 229 = .ok (.aload_n 0, 1) := by decide +kernel
theorem dX12_town_230 : decode cX12_town 230 = .ok (.aload_n 0, 1) := by decide +kernel
theorem dX12_town_231 : decode cX12_town 231 = .ok (.getfield 56, 3) := by decide +kernel
theorem dX12_town_234 : decode cX12_town 234 = .ok (.aload_n 0, 1) := by decide +kernel
theorem dX12_town_235 : decode cX12_town 235 = .ok (.getfield 26, 3) := by decide +kernel
theorem dX12_town_238 : decode cX12_town 238 = .ok (.invokevirtual 328, 3) := by decide +kernel
theorem dX12_town_241 : decode cX12_town 241 = .ok (.aload_n 0, 1) := by decide +kernel
theorem dX12_town_242 : decode cX12_town 242 = .ok (.aload_n 0, 1) := by decide +kernel
theorem dX12_town_243 : decode cX12_town 243 = .ok (.getfield 59, 3) := by decide +kernel
theorem dX12_town_246 : decode cX12_town 246 = .ok (.aload_n 0, 1) := by decide +kernel
theorem dX12_town_247 : decode cX12_town 247 = .ok (.getfield 29, 3) := by decide +kernel
theorem dX12_town_250 : decode cX12_town 250 = .ok (.invokevirtual 328, 3) := by decide +kernel
theorem dX12_town_253 : decode cX12_town 253 = .ok (.aload_n 0, 1) := by decide +kernel
theorem dX12_town_254 : decode cX12_town 254 = .ok (.aload_n 0, 1) := by decide +kernel
theorem dX12_town_255 : decode cX12_town 255 = .ok (.getfield 62, 3) := by decide +kernel
theorem dX12_town_258 : decode cX12_town 258 = .ok (.aload_n 0, 1) := by decide +kernel
theorem dX12_town_259 : decode cX12_town 259 = .ok (.getfield 32, 3) := by decide +kernel
theorem dX12_town_262 : decode cX12_town 262 = .ok (.invokevirtual 328, 3) := by decide +kernel
theorem dX12_town_265 : decode cX12_town 265 = .ok (.aload_n 0, 1) := by decide +kernel
theorem dX12_town_266 : decode cX12_town 266 = .ok (.aload_n 0, 1) := by decide +kernel
theorem dX12_town_267 : decode cX12_town 267 = .ok (.getfield 65, 3) := by decide +kernel
theorem dX12_town_270 : decode cX12_town 270 = .ok (.aload_n 0, 1) := by decide +kernel
theorem dX12_town_271 : decode cX12_town 271 = .ok (.getfield 35, 3) := by decide +kernel
theorem dX12_town_274 : decode cX12_town 274 = .ok (.invokevirtual 328, 3) := by decide +kernel
theorem dX12_town_277 : decode cX12_town 277 = .ok (.iconst 0, 1) := by decide +kernel
theorem dX12_town_278 : decode cX12_town 278 = .ok (.istore_n 3, 1) := by decide +kernel
theorem dX12_town_279 : decode cX12_town 279 = .ok (.iload_n 3, 1) := by decide +kernel
theorem dX12_town_280 : decode cX12_town 280 = .ok (.bipush 48, 2) := by decide +kernel
theorem dX12_town_282 : decode cX12_town 282 = .ok (.if_icmp .ge 36, 3) := by decide +kernel
theorem dX12_town_285 : decode cX12_town 285 = .ok (.aload_n 0, 1) := by decide +kernel
theorem dX12_town_286 : decode cX12_town 286 = .ok (.getfield 38, 3) := by decide +kernel
theorem dX12_town_289 : decode cX12_town 289 = .ok (.iload_n 3, 1) := by decide +kernel
theorem dX12_town_290 : decode cX12_town 290 = .ok (.iload_n 3, 1) := by decide +kernel
theorem dX12_town_291 : decode cX12_town 291 = .ok (.bipush 8, 2) := by decide +kernel
theorem dX12_town_293 : decode cX12_town 293 = .ok (.aload_n 0, 1) := by decide +kernel
theorem dX12_town_294 : decode cX12_town 294 = .ok (.getfield 316, 3) := by decide +kernel
theorem dX12_town_297 : decode cX12_town 297 = .ok (.imul, 1) := by decide +kernel
theorem dX12_town_298 : decode cX12_town 298 = .ok (.if_icmp .ge 12, 3) := by decide +kernel
theorem dX12_town_301 : decode cX12_town 301 = .ok (.aload_n 0, 1) := by decide +kernel
theorem dX12_town_302 : decode cX12_town 302 = .ok (.getfield 68, 3) := by decide +kernel
theorem dX12_town_305 : decode cX12_town 305 = .ok (.iload_n 3, 1) := by decide +kernel
theorem dX12_town_306 : decode cX12_town 306 = .ok (.iaload, 1) := by decide +kernel
theorem dX12_town_307 : decode cX12_town 307 = .ok (.goto 4, 3) := by decide +kernel
theorem dX12_town_310 : decode cX12_town 310 = .ok (.iconst 0, 1) := by decide +kernel
theorem dX12_town_311 : decode cX12_town 311 = .ok (.iastore, 1) := by decide +kernel
theorem dX12_town_312 : decode cX12_town 312 = .ok (.iinc 3 1, 3) := by decide +kernel
theorem dX12_town_315 : decode cX12_town 315 = .ok (.goto (-36), 3) := by decide +kernel
theorem dX12_town_318 : decode cX12_town 318 = .ok (.aload_n 0, 1) := by decide +kernel
theorem dX12_town_319 : decode cX12_town 319 = .ok (.iconst 0, 1) := by decide +kernel
theorem dX12_town_320 : decode cX12_town 320 = .ok (.putfield 332, 3) := by decide +kernel
theorem dX12_town_323 : decode cX12_town 323 = .ok (.aload_n 0, 1) := by decide +kernel
theorem dX12_town_324 : decode cX12_town 324 = .ok (.iconst 0, 1) := by decide +kernel
theorem dX12_town_325 : decode cX12_town 325 = .ok (.putfield 335, 3) := by decide +kernel
theorem dX12_town_328 : decode cX12_town 328 = .ok (.aload_n 0, 1) := by decide +kernel
theorem dX12_town_329 : decode cX12_town 329 = .ok (.iconst 0, 1) := by decide +kernel
theorem dX12_town_330 : decode cX12_town 330 = .ok (.putfield 338, 3) := by decide +kernel
theorem dX12_town_333 : decode cX12_town 333 = .ok (.aload_n 0, 1) := by decide +kernel
theorem dX12_town_334 : decode cX12_town 334 = .ok (.iconst 0, 1) := by decide +kernel
theorem dX12_town_335 : decode cX12_town 335 = .ok (.putfield 341, 3) := by decide +kernel
theorem dX12_town_338 : decode cX12_town 338 = .ok (.aload_n 0, 1) := by decide +kernel
theorem dX12_town_339 : decode cX12_town 339 = .ok (.iconst 0, 1) := by decide +kernel
theorem dX12_town_340 : decode cX12_town 340 = .ok (.putfield 344, 3) := by decide +kernel
theorem dX12_town_343 : decode cX12_town 343 = .ok (.iconst 0, 1) := by decide +kernel
theorem dX12_town_344 : decode cX12_town 344 = .ok (.ireturn, 1) := by decide +kernel
theorem dX12_fault_0 : decode cX12_fault 0 = .ok (.aload_n 0, 1) := by decide +kernel
theorem dX12_fault_1 : decode cX12_fault 1 = .ok (.iconst 0, 1) := by decide +kernel
theorem dX12_fault_2 : decode cX12_fault 2 = .ok (.putfield 184, 3) := by decide +kernel
theorem dX12_fault_5 : decode cX12_fault 5 = .ok (.aload_n 0, 1) := by decide +kernel
theorem dX12_fault_6 : decode cX12_fault 6 = .ok (.getfield 47, 3) := by decide +kernel
theorem dX12_fault_9 : decode cX12_fault 9 = .ok (.ireturn, 1) := by decide +kernel
theorem dX12_isPerson_0 : decode cX12_isPerson 0 = .ok (.aload_n 0, 1) := by decide +kernel
theorem dX12_isPerson_1 : decode cX12_isPerson 1 = .ok (.iload_n 1, 1) := by decide +kernel
theorem dX12_isPerson_2 : decode cX12_isPerson 2 = .ok (.ifCond .lt 15, 3) := by decide +kernel
theorem dX12_isPerson_5 : decode cX12_isPerson 5 = .ok (.iload_n 1, 1) := by decide +kernel
theorem dX12_isPerson_6 : decode cX12_isPerson 6 = .ok (.aload_n 0, 1) := by decide +kernel
theorem dX12_isPerson_7 : decode cX12_isPerson 7 = .ok (.getfield 316, 3) := by decide +kernel
theorem dX12_isPerson_10 : decode cX12_isPerson 10 = .ok (.if_icmp .ge 7, 3) := by decide +kernel
theorem dX12_isPerson_13 : decode cX12_isPerson 13 = .ok (.iconst 1, 1) := by decide +kernel
theorem dX12_isPerson_14 : decode cX12_isPerson 14 = .ok (.goto 4, 3) := by decide +kernel
theorem dX12_isPerson_17 : decode cX12_isPerson 17 = .ok (.iconst 0, 1) := by decide +kernel
theorem dX12_isPerson_18 : decode cX12_isPerson 18 = .ok (.iconst 1, 1) := by decide +kernel
theorem dX12_isPerson_19 : decode cX12_isPerson 19 = .ok (.invokevirtual 309, 3) := by decide +kernel
theorem dX12_isPerson_22 : decode cX12_isPerson 22 = .ok (.ireturn, 1) := by decide +kernel
theorem dX12_isSort_0 : decode cX12_isSort 0 = .ok (.aload_n 0, 1) := by decide +kernel
theorem dX12_isSort_1 : decode cX12_isSort 1 = .ok (.iload_n 1, 1) := by decide +kernel
theorem dX12_isSort_2 : decode cX12_isSort 2 = .ok (.ifCond .lt 15, 3) := by decide +kernel
theorem dX12_isSort_5 : decode cX12_isSort 5 = .ok (.iload_n 1, 1) := by decide +kernel
theorem dX12_isSort_6 : decode cX12_isSort 6 = .ok (.aload_n 0, 1) := by decide +kernel
theorem dX12_isSort_7 : decode cX12_isSort 7 = .ok (.getfield 7, 3) := by decide +kernel
theorem dX12_isSort_10 : decode cX12_isSort 10 = .ok (.if_icmp .ge 7, 3) := by decide +kernel
theorem dX12_isSort_13 : decode cX12_isSort 13 = .ok (.iconst 1, 1) := by decide +kernel
theorem dX12_isSort_14 : decode cX12_isSort 14 = .ok (.goto 4, 3) := by decide +kernel
theorem dX12_isSort_17 : decode cX12_isSort 17 = .ok (.iconst 0, 1) := by decide +kernel
theorem dX12_isSort_18 : decode cX12_isSort 18 = .ok (.iconst 1, 1) := by decide +kernel
theorem dX12_isSort_19 : decode cX12_isSort 19 = .ok (.invokevirtual 309, 3) := by decide +kernel
theorem dX12_isSort_22 : decode cX12_isSort 22 = .ok (.ireturn, 1) := by decide +kernel
theorem dX12_leftOf_0 : decode cX12_leftOf 0 = .ok (.iconst 0, 1) := by decide +kernel
theorem dX12_leftOf_1 : decode cX12_leftOf 1 = .ok (.istore_n 3, 1) := by decide +kernel
theorem dX12_leftOf_2 : decode cX12_leftOf 2 = .ok (.iconst 0, 1) := by decide +kernel
theorem dX12_leftOf_3 : decode cX12_leftOf 3 = .ok (.istore 4, 2) := by decide +kernel
theorem dX12_leftOf_5 : decode cX12_leftOf 5 = .ok (.iload 4, 2) := by decide +kernel
theorem dX12_leftOf_7 : decode cX12_leftOf 7 = .ok (.aload_n 0, 1) := by decide +kernel
theorem dX12_leftOf_8 : decode cX12_leftOf 8 = .ok (.getfield 316, 3) := by decide +kernel
theorem dX12_leftOf_11 : decode cX12_leftOf 11 = .ok (.if_icmp .ge 21, 3) := by decide +kernel
theorem dX12_leftOf_14 : decode cX12_leftOf 14 = .ok (.iload_n 3, 1) := by decide +kernel
theorem dX12_leftOf_15 : decode cX12_leftOf 15 = .ok (.aload_n 1, 1) := by decide +kernel
theorem dX12_leftOf_16 : decode cX12_leftOf 16 = .ok (.bipush 8, 2) := by decide +kernel
theorem dX12_leftOf_18 : decode cX12_leftOf 18 = .ok (.iload 4, 2) := by decide +kernel
theorem dX12_leftOf_20 : decode cX12_leftOf 20 = .ok (.imul, 1) := by decide +kernel
theorem dX12_leftOf_21 : decode cX12_leftOf 21 = .ok (.iload_n 2, 1) := by decide +kernel
theorem dX12_leftOf_22 : decode cX12_leftOf 22 = .ok (.iadd, 1) := by decide +kernel
theorem dX12_leftOf_23 : decode cX12_leftOf 23 = .ok (.iaload, 1) := by decide +kernel
theorem dX12_leftOf_24 : decode cX12_leftOf 24 = .ok (.iadd, 1) := by decide +kernel
theorem dX12_leftOf_25 : decode cX12_leftOf 25 = .ok (.istore_n 3, 1) := by decide +kernel
theorem dX12_leftOf_26 : decode cX12_leftOf 26 = .ok (.iinc 4 1, 3) := by decide +kernel
theorem dX12_leftOf_29 : decode cX12_leftOf 29 = .ok (.goto (-24), 3) := by decide +kernel
theorem dX12_leftOf_32 : decode cX12_leftOf 32 = .ok (.iload_n 3, 1) := by decide +kernel
theorem dX12_leftOf_33 : decode cX12_leftOf 33 = .ok (.ireturn, 1) := by decide +kernel
theorem dX12_allThings_0 : decode cX12_allThings 0 = .ok (.iconst 0, 1) := by decide +kernel
theorem dX12_allThings_1 : decode cX12_allThings 1 = .ok (.istore_n 2, 1) := by decide +kernel
theorem dX12_allThings_2 : decode cX12_allThings 2 = .ok (.iconst 0, 1) := by decide +kernel
theorem dX12_allThings_3 : decode cX12_allThings 3 = .ok (.istore_n 3, 1) := by decide +kernel
theorem dX12_allThings_4 : decode cX12_allThings 4 = .ok (.iload_n 3, 1) := by decide +kernel
theorem dX12_allThings_5 : decode cX12_allThings 5 = .ok (.aload_n 0, 1) := by decide +kernel
theorem dX12_allThings_6 : decode cX12_allThings 6 = .ok (.getfield 7, 3) := by decide +kernel
theorem dX12_allThings_9 : decode cX12_allThings 9 = .ok (.if_icmp .ge 18, 3) := by decide +kernel
theorem dX12_allThings_12 : decode cX12_allThings 12 = .ok (.iload_n 2, 1) := by decide +kernel
theorem dX12_allThings_13 : decode cX12_allThings 13 = .ok (.aload_n 0, 1) := by decide +kernel
theorem dX12_allThings_14 : decode cX12_allThings 14 = .ok (.aload_n 1, 1) := by decide +kernel
theorem dX12_allThings_15 : decode cX12_allThings 15 = .ok (.iload_n 3, 1) := by decide +kernel
theorem dX12_allThings_16 : decode cX12_allThings 16 = .ok (.invokevirtual 347, 3) := by decide +kernel
theorem dX12_allThings_19 : decode cX12_allThings 19 = .ok (.iadd, 1) := by decide +kernel
theorem dX12_allThings_20 : decode cX12_allThings 20 = .ok (.istore_n 2, 1) := by decide +kernel
theorem dX12_allThings_21 : decode cX12_allThings 21 = .ok (.iinc 3 1, 3) := by decide +kernel
theorem dX12_allThings_24 : decode cX12_allThings 24 = .ok (.goto (-20), 3) := by decide +kernel
theorem dX12_allThings_27 : decode cX12_allThings 27 = .ok (.iload_n 2, 1) := by decide +kernel
theorem dX12_allThings_28 : decode cX12_allThings 28 = .ok (.ireturn, 1) := by decide +kernel
theorem dX12_bagOf_0 : decode cX12_bagOf 0 = .ok (.iconst 0, 1) := by decide +kernel
theorem dX12_bagOf_1 : decode cX12_bagOf 1 = .ok (.istore_n 3, 1) := by decide +kernel
theorem dX12_bagOf_2 : decode cX12_bagOf 2 = .ok (.iconst 0, 1) := by decide +kernel
theorem dX12_bagOf_3 : decode cX12_bagOf 3 = .ok (.istore 4, 2) := by decide +kernel
theorem dX12_bagOf_5 : decode cX12_bagOf 5 = .ok (.iload 4, 2) := by decide +kernel
theorem dX12_bagOf_7 : decode cX12_bagOf 7 = .ok (.aload_n 0, 1) := by decide +kernel
theorem dX12_bagOf_8 : decode cX12_bagOf 8 = .ok (.getfield 7, 3) := by decide +kernel
theorem dX12_bagOf_11 : decode cX12_bagOf 11 = .ok (.if_icmp .ge 73, 3) := by decide +kernel
theorem dX12_bagOf_14 : decode cX12_bagOf 14 = .ok (.iconst 0, 1) := by decide +kernel
theorem dX12_bagOf_15 : decode cX12_bagOf 15 = .ok (.istore 5, 2) := by decide +kernel
theorem dX12_bagOf_17 : decode cX12_bagOf 17 = .ok (.iload 5, 2) := by decide +kernel
theorem dX12_bagOf_19 : decode cX12_bagOf 19 = .ok (.aload_n 1, 1) := by decide +kernel
theorem dX12_bagOf_20 : decode cX12_bagOf 20 = .ok (.bipush 8, 2) := by decide +kernel
theorem dX12_bagOf_22 : decode cX12_bagOf 22 = .ok (.iload_n 2, 1) := by decide +kernel
theorem dX12_bagOf_23 : decode cX12_bagOf 23 = .ok (.imul, 1) := by decide +kernel
theorem dX12_bagOf_24 : decode cX12_bagOf 24 = .ok (.iload 4, 2) := by decide +kernel
theorem dX12_bagOf_26 : decode cX12_bagOf 26 = .ok (.iadd, 1) := by decide +kernel
theorem dX12_bagOf_27 : decode cX12_bagOf 27 = .ok (.iaload, 1) := by decide +kernel
theorem dX12_bagOf_28 : decode cX12_bagOf 28 = .ok (.if_icmp .ge 50, 3) := by decide +kernel
theorem dX12_bagOf_31 : decode cX12_bagOf 31 = .ok (.bipush 100, 2) := by decide +kernel
theorem dX12_bagOf_33 : decode cX12_bagOf 33 = .ok (.aload_n 0, 1) := by decide +kernel
theorem dX12_bagOf_34 : decode cX12_bagOf 34 = .ok (.getfield 23, 3) := by decide +kernel
theorem dX12_bagOf_37 : decode cX12_bagOf 37 = .ok (.iload_n 2, 1) := by decide +kernel
theorem dX12_bagOf_38 : decode cX12_bagOf 38 = .ok (.iaload, 1) := by decide +kernel
theorem dX12_bagOf_39 : decode cX12_bagOf 39 = .ok (.iload 5, 2) := by decide +kernel
theorem dX12_bagOf_41 : decode cX12_bagOf 41 = .ok (.imul, 1) := by decide +kernel
theorem dX12_bagOf_42 : decode cX12_bagOf 42 = .ok (.isub, 1) := by decide +kernel
theorem dX12_bagOf_43 : decode cX12_bagOf 43 = .ok (.istore 6, 2) := by decide +kernel
theorem dX12_bagOf_45 : decode cX12_bagOf 45 = .ok (.iload_n 3, 1) := by decide +kernel
theorem dX12_bagOf_46 : decode cX12_bagOf 46 = .ok (.iload 6, 2) := by decide +kernel
theorem dX12_bagOf_48 : decode cX12_bagOf 48 = .ok (.ifCond .le 21, 3) := by decide +kernel
theorem dX12_bagOf_51 : decode cX12_bagOf 51 = .ok (.aload_n 0, 1) := by decide +kernel
theorem dX12_bagOf_52 : decode cX12_bagOf 52 = .ok (.getfield 19, 3) := by decide +kernel
theorem dX12_bagOf_55 : decode cX12_bagOf 55 = .ok (.bipush 8, 2) := by decide +kernel
theorem dX12_bagOf_57 : decode cX12_bagOf 57 = .ok (.iload_n 2, 1) := by decide +kernel
theorem dX12_bagOf_58 : decode cX12_bagOf 58 = .ok (.imul, 1) := by decide +kernel
theorem dX12_bagOf_59 : decode cX12_bagOf 59 = .ok (.iload 4, 2) := by decide +kernel
theorem dX12_bagOf_61 : decode cX12_bagOf 61 = .ok (.iadd, 1) := by decide +kernel
theorem dX12_bagOf_62 : decode cX12_bagOf 62 = .ok (.iaload, 1) := by decide +kernel
theorem dX12_bagOf_63 : decode cX12_bagOf 63 = .ok (.iload 6, 2) := by decide +kernel
theorem dX12_bagOf_65 : decode cX12_bagOf 65 = .ok (.imul, 1) := by decide +kernel
theorem dX12_bagOf_66 : decode cX12_bagOf 66 = .ok (.goto 4, 3) := by decide +kernel
theorem dX12_bagOf_69 : decode cX12_bagOf 69 = .ok (.iconst 0, 1) := by decide +kernel
theorem dX12_bagOf_70 : decode cX12_bagOf 70 = .ok (.iadd, 1) := by decide +kernel
theorem dX12_bagOf_71 : decode cX12_bagOf 71 = .ok (.istore_n 3, 1) := by decide +kernel
theorem dX12_bagOf_72 : decode cX12_bagOf 72 = .ok (.iinc 5 1, 3) := by decide +kernel
theorem dX12_bagOf_75 : decode cX12_bagOf 75 = .ok (.goto (-58), 3) := by decide +kernel
theorem dX12_bagOf_78 : decode cX12_bagOf 78 = .ok (.iinc 4 1, 3) := by decide +kernel
theorem dX12_bagOf_81 : decode cX12_bagOf 81 = .ok (.goto (-76), 3) := by decide +kernel
theorem dX12_bagOf_84 : decode cX12_bagOf 84 = .ok (.iconst 0, 1) := by decide +kernel
theorem dX12_bagOf_85 : decode cX12_bagOf 85 = .ok (.istore 4, 2) := by decide +kernel
theorem dX12_bagOf_87 : decode cX12_bagOf 87 = .ok (.iload 4, 2) := by decide +kernel
theorem dX12_bagOf_89 : decode cX12_bagOf 89 = .ok (.aload_n 0, 1) := by decide +kernel
theorem dX12_bagOf_90 : decode cX12_bagOf 90 = .ok (.getfield 26, 3) := by decide +kernel
theorem dX12_bagOf_93 : decode cX12_bagOf 93 = .ok (.iload_n 2, 1) := by decide +kernel
theorem dX12_bagOf_94 : decode cX12_bagOf 94 = .ok (.iaload, 1) := by decide +kernel
theorem dX12_bagOf_95 : decode cX12_bagOf 95 = .ok (.if_icmp .ge 75, 3) := by decide +kernel
theorem dX12_bagOf_98 : decode cX12_bagOf 98 = .ok (.bipush 18, 2) := by decide +kernel
theorem dX12_bagOf_100 : decode cX12_bagOf 100 = .ok (.iload_n 2, 1) := by decide +kernel
theorem dX12_bagOf_101 : decode cX12_bagOf 101 = .ok (.imul, 1) := by decide +kernel
theorem dX12_bagOf_102 : decode cX12_bagOf 102 = .ok (.iconst 3, 1) := by decide +kernel
theorem dX12_bagOf_103 : decode cX12_bagOf 103 = .ok (.iload 4, 2) := by decide +kernel
theorem dX12_bagOf_105 : decode cX12_bagOf 105 = .ok (.imul, 1) := by decide +kernel
theorem dX12_bagOf_106 : decode cX12_bagOf 106 = .ok (.iadd, 1) := by decide +kernel
theorem dX12_bagOf_107 : decode cX12_bagOf 107 = .ok (.istore 5, 2) := by decide +kernel
theorem dX12_bagOf_109 : decode cX12_bagOf 109 = .ok (.iload_n 3, 1) := by decide +kernel
theorem dX12_bagOf_110 : decode cX12_bagOf 110 = .ok (.aload_n 1, 1) := by decide +kernel
theorem dX12_bagOf_111 : decode cX12_bagOf 111 = .ok (.bipush 8, 2) := by decide +kernel
theorem dX12_bagOf_113 : decode cX12_bagOf 113 = .ok (.iload_n 2, 1) := by decide +kernel
theorem dX12_bagOf_114 : decode cX12_bagOf 114 = .ok (.imul, 1) := by decide +kernel
theorem dX12_bagOf_115 : decode cX12_bagOf 115 = .ok (.aload_n 0, 1) := by decide +kernel
theorem dX12_bagOf_116 : decode cX12_bagOf 116 = .ok (.getfield 29, 3) := by decide +kernel
theorem dX12_bagOf_119 : decode cX12_bagOf 119 = .ok (.iload 5, 2) := by decide +kernel
theorem dX12_bagOf_121 : decode cX12_bagOf 121 = .ok (.iaload, 1) := by decide +kernel
theorem dX12_bagOf_122 : decode cX12_bagOf 122 = .ok (.iadd, 1) := by decide +kernel
theorem dX12_bagOf_123 : decode cX12_bagOf 123 = .ok (.iaload, 1) := by decide +kernel
theorem dX12_bagOf_124 : decode cX12_bagOf 124 = .ok (.ifCond .le 37, 3) := by decide +kernel
theorem dX12_bagOf_127 : decode cX12_bagOf 127 = .ok (.aload_n 1, 1) := by decide +kernel
theorem dX12_bagOf_128 : decode cX12_bagOf 128 = .ok (.bipush 8, 2) := by decide +kernel
theorem dX12_bagOf_130 : decode cX12_bagOf 130 = .ok (.iload_n 2, 1) := by decide +kernel
theorem dX12_bagOf_131 : decode cX12_bagOf 131 = .ok (.imul, 1) := by decide +kernel
theorem dX12_bagOf_132 : decode cX12_bagOf 132 = .ok (.aload_n 0, 1) := by decide +kernel
theorem dX12_bagOf_133 : decode cX12_bagOf 133 = .ok (.getfield 29, 3) := by decide +kernel
theorem dX12_bagOf_136 : decode cX12_bagOf 136 = .ok (.iload 5, 2) := by decide +kernel
theorem dX12_bagOf_138 : decode cX12_bagOf 138 = .ok (.iconst 1, 1) := by decide +kernel
theorem dX12_bagOf_139 : decode cX12_bagOf 139 = .ok (.iadd, 1) := by decide +kernel
theorem dX12_bagOf_140 : decode cX12_bagOf 140 = .ok (.iaload, 1) := by decide +kernel
theorem dX12_bagOf_141 : decode cX12_bagOf 141 = .ok (.iadd, 1) := by decide +kernel
theorem dX12_bagOf_142 : decode cX12_bagOf 142 = .ok (.iaload, 1) := by decide +kernel
theorem dX12_bagOf_143 : decode cX12_bagOf 143 = .ok (.ifCond .le 18, 3) := by decide +kernel
theorem dX12_bagOf_146 : decode cX12_bagOf 146 = .ok (.bipush 100, 2) := by decide +kernel
theorem dX12_bagOf_148 : decode cX12_bagOf 148 = .ok (.aload_n 0, 1) := by decide +kernel
theorem dX12_bagOf_149 : decode cX12_bagOf 149 = .ok (.getfield 29, 3) := by decide +kernel
theorem dX12_bagOf_152 : decode cX12_bagOf 152 = .ok (.iload 5, 2) := by decide +kernel
theorem dX12_bagOf_154 : decode cX12_bagOf 154 = .ok (.iconst 2, 1) := by decide +kernel
theorem dX12_bagOf_155 : decode cX12_bagOf 155 = .ok (.iadd, 1) := by decide +kernel
theorem dX12_bagOf_156 : decode cX12_bagOf 156 = .ok (.iaload, 1) := by decide +kernel
theorem dX12_bagOf_157 : decode cX12_bagOf 157 = .ok (.imul, 1) := by decide +kernel
theorem dX12_bagOf_158 : decode cX12_bagOf 158 = .ok (.goto 4, 3) := by decide +kernel
theorem dX12_bagOf_161 : decode cX12_bagOf 161 = .ok (.iconst 0, 1) := by decide +kernel
theorem dX12_bagOf_162 : decode cX12_bagOf 162 = .ok (.iadd, 1) := by decide +kernel
theorem dX12_bagOf_163 : decode cX12_bagOf 163 = .ok (.istore_n 3, 1) := by decide +kernel
theorem dX12_bagOf_164 : decode cX12_bagOf 164 = .ok (.iinc 4 1, 3) := by decide +kernel
theorem dX12_bagOf_167 : decode cX12_bagOf 167 = .ok (.goto (-80), 3) := by decide +kernel
theorem dX12_bagOf_170 : decode cX12_bagOf 170 = .ok (.iload_n 3, 1) := by decide +kernel
theorem dX12_bagOf_171 : decode cX12_bagOf 171 = .ok (.ireturn, 1) := by decide +kernel
theorem dX12_allWorth_0 : decode cX12_allWorth 0 = .ok (.iconst 0, 1) := by decide +kernel
theorem dX12_allWorth_1 : decode cX12_allWorth 1 = .ok (.istore_n 2, 1) := by decide +kernel
theorem dX12_allWorth_2 : decode cX12_allWorth 2 = .ok (.iconst 0, 1) := by decide +kernel
theorem dX12_allWorth_3 : decode cX12_allWorth 3 = .ok (.istore_n 3, 1) := by decide +kernel
theorem dX12_allWorth_4 : decode cX12_allWorth 4 = .ok (.iload_n 3, 1) := by decide +kernel
theorem dX12_allWorth_5 : decode cX12_allWorth 5 = .ok (.aload_n 0, 1) := by decide +kernel
theorem dX12_allWorth_6 : decode cX12_allWorth 6 = .ok (.getfield 316, 3) := by decide +kernel
theorem dX12_allWorth_9 : decode cX12_allWorth 9 = .ok (.if_icmp .ge 18, 3) := by decide +kernel
theorem dX12_allWorth_12 : decode cX12_allWorth 12 = .ok (.iload_n 2, 1) := by decide +kernel
theorem dX12_allWorth_13 : decode cX12_allWorth 13 = .ok (.aload_n 0, 1) := by decide +kernel
theorem dX12_allWorth_14 : decode cX12_allWorth 14 = .ok (.aload_n 1, 1) := by decide +kernel
theorem dX12_allWorth_15 : decode cX12_allWorth 15 = .ok (.iload_n 3, 1) := by decide +kernel
theorem dX12_allWorth_16 : decode cX12_allWorth 16 = .ok (.invokevirtual 351, 3) := by decide +kernel
theorem dX12_allWorth_19 : decode cX12_allWorth 19 = .ok (.iadd, 1) := by decide +kernel
theorem dX12_allWorth_20 : decode cX12_allWorth 20 = .ok (.istore_n 2, 1) := by decide +kernel
theorem dX12_allWorth_21 : decode cX12_allWorth 21 = .ok (.iinc 3 1, 3) := by decide +kernel
theorem dX12_allWorth_24 : decode cX12_allWorth 24 = .ok (.goto (-20), 3) := by decide +kernel
theorem dX12_allWorth_27 : decode cX12_allWorth 27 = .ok (.iload_n 2, 1) := by decide +kernel
theorem dX12_allWorth_28 : decode cX12_allWorth 28 = .ok (.ireturn, 1) := by decide +kernel
theorem dX12_count_0 : decode cX12_count 0 = .ok (.aload_n 0, 1) := by decide +kernel
theorem dX12_count_1 : decode cX12_count 1 = .ok (.iconst 0, 1) := by decide +kernel
theorem dX12_count_2 : decode cX12_count 2 = .ok (.putfield 184, 3) := by decide +kernel
theorem dX12_count_5 : decode cX12_count 5 = .ok (.aload_n 0, 1) := by decide +kernel
theorem dX12_count_6 : decode cX12_count 6 = .ok (.iload_n 1, 1) := by decide +kernel
theorem dX12_count_7 : decode cX12_count 7 = .ok (.iconst 0, 1) := by decide +kernel
theorem dX12_count_8 : decode cX12_count 8 = .ok (.bipush 11, 2) := by decide +kernel
theorem dX12_count_10 : decode cX12_count 10 = .ok (.invokestatic 354, 3) := by decide +kernel
theorem dX12_count_13 : decode cX12_count 13 = .ok (.iconst 1, 1) := by decide +kernel
theorem dX12_count_14 : decode cX12_count 14 = .ok (.invokevirtual 309, 3) := by decide +kernel
theorem dX12_count_17 : decode cX12_count 17 = .ok (.ifCond .ne 5, 3) := by decide +kernel
theorem dX12_count_20 : decode cX12_count 20 = .ok (.iconst 0, 1) := by decide +kernel
theorem dX12_count_21 : decode cX12_count 21 = .ok (.ireturn, 1) := by decide +kernel
theorem dX12_count_22 : decode cX12_count 22 = .ok (.iload_n 1, 1) := by decide +kernel
theorem dX12_count_23 : decode cX12_count 23 = .ok (.tableswitch 106 0 8 #[49, 54, 59, 64, 69, 82, 87, 92, 97], 49) := by decide +kernel
theorem dX12_count_72 : decode cX12_count 72 = .ok (.aload_n 0, 1) := by decide +kernel
theorem dX12_count_73 : decode cX12_count 73 = .ok (.getfield 316, 3) := by decide +kernel
theorem dX12_count_76 : decode cX12_count 76 = .ok (.ireturn, 1) := by decide +kernel
theorem dX12_count_77 : decode cX12_count 77 = .ok (.aload_n 0, 1) := by decide +kernel
theorem dX12_count_78 : decode cX12_count 78 = .ok (.getfield 7, 3) := by decide +kernel
theorem dX12_count_81 : decode cX12_count 81 = .ok (.ireturn, 1) := by decide +kernel
theorem dX12_count_82 : decode cX12_count 82 = .ok (.aload_n 0, 1) := by decide +kernel
theorem dX12_count_83 : decode cX12_count 83 = .ok (.getfield 13, 3) := by decide +kernel
theorem dX12_count_86 : decode cX12_count 86 = .ok (.ireturn, 1) := by decide +kernel
theorem dX12_count_87 : decode cX12_count 87 = .ok (.aload_n 0, 1) := by decide +kernel
theorem dX12_count_88 : decode cX12_count 88 = .ok (.getfield 16, 3) := by decide +kernel
theorem dX12_count_91 : decode cX12_count 91 = .ok (.ireturn, 1) := by decide +kernel
theorem dX12_count_92 : decode cX12_count 92 = .ok (.aload_n 0, 1) := by decide +kernel
theorem dX12_count_93 : decode cX12_count 93 = .ok (.getfield 325, 3) := by decide +kernel
theorem dX12_count_96 : decode cX12_count 96 = .ok (.ifCond .eq 7, 3) := by decide +kernel
theorem dX12_count_99 : decode cX12_count 99 = .ok (.iconst 1, 1) := by decide +kernel
theorem dX12_count_100 : decode cX12_count 100 = .ok (.goto 4, 3) := by decide +kernel
theorem dX12_count_103 : decode cX12_count 103 = .ok (.iconst 0, 1) := by decide +kernel
theorem dX12_count_104 : decode cX12_count 104 = .ok (.ireturn, 1) := by decide +kernel
theorem dX12_count_105 : decode cX12_count 105 = .ok (.aload_n 0, 1) := by decide +kernel
theorem dX12_count_106 : decode cX12_count 106 = .ok (.getfield 319, 3) := by decide +kernel
theorem dX12_count_109 : decode cX12_count 109 = .ok (.ireturn, 1) := by decide +kernel
theorem dX12_count_110 : decode cX12_count 110 = .ok (.aload_n 0, 1) := by decide +kernel
theorem dX12_count_111 : decode cX12_count 111 = .ok (.getfield 322, 3) := by decide +kernel
theorem dX12_count_114 : decode cX12_count 114 = .ok (.ireturn, 1) := by decide +kernel
theorem dX12_count_115 : decode cX12_count 115 = .ok (.aload_n 0, 1) := by decide +kernel
theorem dX12_count_116 : decode cX12_count 116 = .ok (.getfield 187, 3) := by decide +kernel
theorem dX12_count_119 : decode cX12_count 119 = .ok (.ireturn, 1) := by decide +kernel
theorem dX12_count_120 : decode cX12_count 120 = .ok (.aload_n 0, 1) := by decide +kernel
theorem dX12_count_121 : decode cX12_count 121 = .ok (.aload_n 0, 1) := by decide +kernel
theorem dX12_count_122 : decode cX12_count 122 = .ok (.getfield 38, 3) := by decide +kernel
theorem dX12_count_125 : decode cX12_count 125 = .ok (.invokevirtual 358, 3) := by decide +kernel
theorem dX12_count_128 : decode cX12_count 128 = .ok (.ireturn, 1) := by decide +kernel
theorem dX12_count_129 : decode cX12_count 129 = .ok (.aload_n 0, 1) := by decide +kernel
theorem dX12_count_130 : decode cX12_count 130 = .ok (.getfield 41, 3) := by decide +kernel
theorem dX12_count_133 : decode cX12_count 133 = .ok (.iload_n 1, 1) := by decide +kernel
theorem dX12_count_134 : decode cX12_count 134 = .ok (.bipush 9, 2) := by decide +kernel
theorem dX12_count_136 : decode cX12_count 136 = .ok (.isub, 1) := by decide +kernel
theorem dX12_count_137 : decode cX12_count 137 = .ok (.iaload, 1) := by decide +kernel
theorem dX12_count_138 : decode cX12_count 138 = .ok (.ireturn, 1) := by decide +kernel
theorem dX12_has_0 : decode cX12_has 0 = .ok (.aload_n 0, 1) := by decide +kernel
theorem dX12_has_1 : decode cX12_has 1 = .ok (.iconst 0, 1) := by decide +kernel
theorem dX12_has_2 : decode cX12_has 2 = .ok (.putfield 184, 3) := by decide +kernel
theorem dX12_has_5 : decode cX12_has 5 = .ok (.aload_n 0, 1) := by decide +kernel
theorem dX12_has_6 : decode cX12_has 6 = .ok (.iload_n 1, 1) := by decide +kernel
theorem dX12_has_7 : decode cX12_has 7 = .ok (.invokevirtual 362, 3) := by decide +kernel
theorem dX12_has_10 : decode cX12_has 10 = .ok (.ifCond .eq 25, 3) := by decide +kernel
theorem dX12_has_13 : decode cX12_has 13 = .ok (.aload_n 0, 1) := by decide +kernel
theorem dX12_has_14 : decode cX12_has 14 = .ok (.iload_n 2, 1) := by decide +kernel
theorem dX12_has_15 : decode cX12_has 15 = .ok (.invokevirtual 365, 3) := by decide +kernel
theorem dX12_has_18 : decode cX12_has 18 = .ok (.ifCond .eq 17, 3) := by decide +kernel
theorem dX12_has_21 : decode cX12_has 21 = .ok (.aload_n 0, 1) := by decide +kernel
theorem dX12_has_22 : decode cX12_has 22 = .ok (.getfield 38, 3) := by decide +kernel
theorem dX12_has_25 : decode cX12_has 25 = .ok (.bipush 8, 2) := by decide +kernel
theorem dX12_has_27 : decode cX12_has 27 = .ok (.iload_n 1, 1) := by decide +kernel
theorem dX12_has_28 : decode cX12_has 28 = .ok (.imul, 1) := by decide +kernel
theorem dX12_has_29 : decode cX12_has 29 = .ok (.iload_n 2, 1) := by decide +kernel
theorem dX12_has_30 : decode cX12_has 30 = .ok (.iadd, 1) := by decide +kernel
theorem dX12_has_31 : decode cX12_has 31 = .ok (.iaload, 1) := by decide +kernel
theorem dX12_has_32 : decode cX12_has 32 = .ok (.goto 4, 3) := by decide +kernel
theorem dX12_has_35 : decode cX12_has 35 = .ok (.iconst 0, 1) := by decide +kernel
theorem dX12_has_36 : decode cX12_has 36 = .ok (.ireturn, 1) := by decide +kernel
theorem dX12_likes_0 : decode cX12_likes 0 = .ok (.aload_n 0, 1) := by decide +kernel
theorem dX12_likes_1 : decode cX12_likes 1 = .ok (.iconst 0, 1) := by decide +kernel
theorem dX12_likes_2 : decode cX12_likes 2 = .ok (.putfield 184, 3) := by decide +kernel
theorem dX12_likes_5 : decode cX12_likes 5 = .ok (.aload_n 0, 1) := by decide +kernel
theorem dX12_likes_6 : decode cX12_likes 6 = .ok (.iload_n 1, 1) := by decide +kernel
theorem dX12_likes_7 : decode cX12_likes 7 = .ok (.invokevirtual 362, 3) := by decide +kernel
theorem dX12_likes_10 : decode cX12_likes 10 = .ok (.ifCond .eq 25, 3) := by decide +kernel
theorem dX12_likes_13 : decode cX12_likes 13 = .ok (.aload_n 0, 1) := by decide +kernel
theorem dX12_likes_14 : decode cX12_likes 14 = .ok (.iload_n 2, 1) := by decide +kernel
theorem dX12_likes_15 : decode cX12_likes 15 = .ok (.invokevirtual 365, 3) := by decide +kernel
theorem dX12_likes_18 : decode cX12_likes 18 = .ok (.ifCond .eq 17, 3) := by decide +kernel
theorem dX12_likes_21 : decode cX12_likes 21 = .ok (.aload_n 0, 1) := by decide +kernel
theorem dX12_likes_22 : decode cX12_likes 22 = .ok (.getfield 19, 3) := by decide +kernel
theorem dX12_likes_25 : decode cX12_likes 25 = .ok (.bipush 8, 2) := by decide +kernel
theorem dX12_likes_27 : decode cX12_likes 27 = .ok (.iload_n 1, 1) := by decide +kernel
theorem dX12_likes_28 : decode cX12_likes 28 = .ok (.imul, 1) := by decide +kernel
theorem dX12_likes_29 : decode cX12_likes 29 = .ok (.iload_n 2, 1) := by decide +kernel
theorem dX12_likes_30 : decode cX12_likes 30 = .ok (.iadd, 1) := by decide +kernel
theorem dX12_likes_31 : decode cX12_likes 31 = .ok (.iaload, 1) := by decide +kernel
theorem dX12_likes_32 : decode cX12_likes 32 = .ok (.goto 4, 3) := by decide +kernel
theorem dX12_likes_35 : decode cX12_likes 35 = .ok (.iconst 0, 1) := by decide +kernel
theorem dX12_likes_36 : decode cX12_likes 36 = .ok (.ireturn, 1) := by decide +kernel
theorem dX12_worth_0 : decode cX12_worth 0 = .ok (.aload_n 0, 1) := by decide +kernel
theorem dX12_worth_1 : decode cX12_worth 1 = .ok (.iconst 0, 1) := by decide +kernel
theorem dX12_worth_2 : decode cX12_worth 2 = .ok (.putfield 184, 3) := by decide +kernel
theorem dX12_worth_5 : decode cX12_worth 5 = .ok (.iload_n 1, 1) := by decide +kernel
theorem dX12_worth_6 : decode cX12_worth 6 = .ok (.iconst (-1), 1) := by decide +kernel
theorem dX12_worth_7 : decode cX12_worth 7 = .ok (.if_icmp .ne 12, 3) := by decide +kernel
theorem dX12_worth_10 : decode cX12_worth 10 = .ok (.aload_n 0, 1) := by decide +kernel
theorem dX12_worth_11 : decode cX12_worth 11 = .ok (.aload_n 0, 1) := by decide +kernel
theorem dX12_worth_12 : decode cX12_worth 12 = .ok (.getfield 38, 3) := by decide +kernel
theorem dX12_worth_15 : decode cX12_worth 15 = .ok (.invokevirtual 368, 3) := by decide +kernel
theorem dX12_worth_18 : decode cX12_worth 18 = .ok (.ireturn, 1) := by decide +kernel
theorem dX12_worth_19 : decode cX12_worth 19 = .ok (.aload_n 0, 1) := by decide +kernel
theorem dX12_worth_20 : decode cX12_worth 20 = .ok (.iload_n 1, 1) := by decide +kernel
theorem dX12_worth_21 : decode cX12_worth 21 = .ok (.invokevirtual 362, 3) := by decide +kernel
theorem dX12_worth_24 : decode cX12_worth 24 = .ok (.ifCond .eq 15, 3) := by decide +kernel
theorem dX12_worth_27 : decode cX12_worth 27 = .ok (.aload_n 0, 1) := by decide +kernel
theorem dX12_worth_28 : decode cX12_worth 28 = .ok (.aload_n 0, 1) := by decide +kernel
theorem dX12_worth_29 : decode cX12_worth 29 = .ok (.getfield 38, 3) := by decide +kernel
theorem dX12_worth_32 : decode cX12_worth 32 = .ok (.iload_n 1, 1) := by decide +kernel
theorem dX12_worth_33 : decode cX12_worth 33 = .ok (.invokevirtual 351, 3) := by decide +kernel
theorem dX12_worth_36 : decode cX12_worth 36 = .ok (.goto 4, 3) := by decide +kernel
theorem dX12_worth_39 : decode cX12_worth 39 = .ok (.iconst 0, 1) := by decide +kernel
theorem dX12_worth_40 : decode cX12_worth 40 = .ok (.ireturn, 1) := by decide +kernel
theorem dX12_left_0 : decode cX12_left 0 = .ok (.aload_n 0, 1) := by decide +kernel
theorem dX12_left_1 : decode cX12_left 1 = .ok (.iconst 0, 1) := by decide +kernel
theorem dX12_left_2 : decode cX12_left 2 = .ok (.putfield 184, 3) := by decide +kernel
theorem dX12_left_5 : decode cX12_left 5 = .ok (.aload_n 0, 1) := by decide +kernel
theorem dX12_left_6 : decode cX12_left 6 = .ok (.iload_n 1, 1) := by decide +kernel
theorem dX12_left_7 : decode cX12_left 7 = .ok (.invokevirtual 365, 3) := by decide +kernel
theorem dX12_left_10 : decode cX12_left 10 = .ok (.ifCond .eq 15, 3) := by decide +kernel
theorem dX12_left_13 : decode cX12_left 13 = .ok (.aload_n 0, 1) := by decide +kernel
theorem dX12_left_14 : decode cX12_left 14 = .ok (.aload_n 0, 1) := by decide +kernel
theorem dX12_left_15 : decode cX12_left 15 = .ok (.getfield 38, 3) := by decide +kernel
theorem dX12_left_18 : decode cX12_left 18 = .ok (.iload_n 1, 1) := by decide +kernel
theorem dX12_left_19 : decode cX12_left 19 = .ok (.invokevirtual 347, 3) := by decide +kernel
theorem dX12_left_22 : decode cX12_left 22 = .ok (.goto 4, 3) := by decide +kernel
theorem dX12_left_25 : decode cX12_left 25 = .ok (.iconst 0, 1) := by decide +kernel
theorem dX12_left_26 : decode cX12_left 26 = .ok (.ireturn, 1) := by decide +kernel
theorem dX12_meeting_0 : decode cX12_meeting 0 = .ok (.aload_n 0, 1) := by decide +kernel
theorem dX12_meeting_1 : decode cX12_meeting 1 = .ok (.iconst 0, 1) := by decide +kernel
theorem dX12_meeting_2 : decode cX12_meeting 2 = .ok (.putfield 184, 3) := by decide +kernel
theorem dX12_meeting_5 : decode cX12_meeting 5 = .ok (.aload_n 0, 1) := by decide +kernel
theorem dX12_meeting_6 : decode cX12_meeting 6 = .ok (.iload_n 1, 1) := by decide +kernel
theorem dX12_meeting_7 : decode cX12_meeting 7 = .ok (.ifCond .lt 24, 3) := by decide +kernel
theorem dX12_meeting_10 : decode cX12_meeting 10 = .ok (.iload_n 1, 1) := by decide +kernel
theorem dX12_meeting_11 : decode cX12_meeting 11 = .ok (.aload_n 0, 1) := by decide +kernel
theorem dX12_meeting_12 : decode cX12_meeting 12 = .ok (.getfield 322, 3) := by decide +kernel
theorem dX12_meeting_15 : decode cX12_meeting 15 = .ok (.if_icmp .ge 16, 3) := by decide +kernel
theorem dX12_meeting_18 : decode cX12_meeting 18 = .ok (.iload_n 2, 1) := by decide +kernel
theorem dX12_meeting_19 : decode cX12_meeting 19 = .ok (.ifCond .eq 8, 3) := by decide +kernel
theorem dX12_meeting_22 : decode cX12_meeting 22 = .ok (.iload_n 2, 1) := by decide +kernel
theorem dX12_meeting_23 : decode cX12_meeting 23 = .ok (.iconst 1, 1) := by decide +kernel
theorem dX12_meeting_24 : decode cX12_meeting 24 = .ok (.if_icmp .ne 7, 3) := by decide +kernel
theorem dX12_meeting_27 : decode cX12_meeting 27 = .ok (.iconst 1, 1) := by decide +kernel
theorem dX12_meeting_28 : decode cX12_meeting 28 = .ok (.goto 4, 3) := by decide +kernel
theorem dX12_meeting_31 : decode cX12_meeting 31 = .ok (.iconst 0, 1) := by decide +kernel
theorem dX12_meeting_32 : decode cX12_meeting 32 = .ok (.iconst 1, 1) := by decide +kernel
theorem dX12_meeting_33 : decode cX12_meeting 33 = .ok (.invokevirtual 309, 3) := by decide +kernel
theorem dX12_meeting_36 : decode cX12_meeting 36 = .ok (.ifCond .eq 16, 3) := by decide +kernel
theorem dX12_meeting_39 : decode cX12_meeting 39 = .ok (.aload_n 0, 1) := by decide +kernel
theorem dX12_meeting_40 : decode cX12_meeting 40 = .ok (.getfield 35, 3) := by decide +kernel
theorem dX12_meeting_43 : decode cX12_meeting 43 = .ok (.iconst 2, 1) := by decide +kernel
theorem dX12_meeting_44 : decode cX12_meeting 44 = .ok (.iload_n 1, 1) := by decide +kernel
theorem dX12_meeting_45 : decode cX12_meeting 45 = .ok (.imul, 1) := by decide +kernel
theorem dX12_meeting_46 : decode cX12_meeting 46 = .ok (.iload_n 2, 1) := by decide +kernel
theorem dX12_meeting_47 : decode cX12_meeting 47 = .ok (.iadd, 1) := by decide +kernel
theorem dX12_meeting_48 : decode cX12_meeting 48 = .ok (.iaload, 1) := by decide +kernel
theorem dX12_meeting_49 : decode cX12_meeting 49 = .ok (.goto 4, 3) := by decide +kernel
theorem dX12_meeting_52 : decode cX12_meeting 52 = .ok (.iconst 0, 1) := by decide +kernel
theorem dX12_meeting_53 : decode cX12_meeting 53 = .ok (.ireturn, 1) := by decide +kernel
theorem dX12_begins_0 : decode cX12_begins 0 = .ok (.iconst 0, 1) := by decide +kernel
theorem dX12_begins_1 : decode cX12_begins 1 = .ok (.istore_n 1, 1) := by decide +kernel
theorem dX12_begins_2 : decode cX12_begins 2 = .ok (.iload_n 1, 1) := by decide +kernel
theorem dX12_begins_3 : decode cX12_begins 3 = .ok (.aload_n 0, 1) := by decide +kernel
theorem dX12_begins_4 : decode cX12_begins 4 = .ok (.getfield 13, 3) := by decide +kernel
theorem dX12_begins_7 : decode cX12_begins 7 = .ok (.if_icmp .ge 16, 3) := by decide +kernel
theorem dX12_begins_10 : decode cX12_begins 10 = .ok (.aload_n 0, 1) := by decide +kernel
theorem dX12_begins_11 : decode cX12_begins 11 = .ok (.getfield 81, 3) := by decide +kernel
theorem dX12_begins_14 : decode cX12_begins 14 = .ok (.iload_n 1, 1) := by decide +kernel
theorem dX12_begins_15 : decode cX12_begins 15 = .ok (.iconst 0, 1) := by decide +kernel
theorem dX12_begins_16 : decode cX12_begins 16 = .ok (.iastore, 1) := by decide +kernel
theorem dX12_begins_17 : decode cX12_begins 17 = .ok (.iinc 1 1, 3) := by decide +kernel
theorem dX12_begins_20 : decode cX12_begins 20 = .ok (.goto (-18), 3) := by decide +kernel
theorem dX12_begins_23 : decode cX12_begins 23 = .ok (.return_, 1) := by decide +kernel
theorem dX12_turns_0 : decode cX12_turns 0 = .ok (.aload_n 0, 1) := by decide +kernel
theorem dX12_turns_1 : decode cX12_turns 1 = .ok (.getfield 13, 3) := by decide +kernel
theorem dX12_turns_4 : decode cX12_turns 4 = .ok (.iconst 1, 1) := by decide +kernel
theorem dX12_turns_5 : decode cX12_turns 5 = .ok (.isub, 1) := by decide +kernel
theorem dX12_turns_6 : decode cX12_turns 6 = .ok (.istore_n 1, 1) := by decide +kernel
theorem dX12_turns_7 : decode cX12_turns 7 = .ok (.iload_n 1, 1) := by decide +kernel
theorem dX12_turns_8 : decode cX12_turns 8 = .ok (.ifCond .lt 69, 3) := by decide +kernel
theorem dX12_turns_11 : decode cX12_turns 11 = .ok (.aload_n 0, 1) := by decide +kernel
theorem dX12_turns_12 : decode cX12_turns 12 = .ok (.getfield 81, 3) := by decide +kernel
theorem dX12_turns_15 : decode cX12_turns 15 = .ok (.iload_n 1, 1) := by decide +kernel
theorem dX12_turns_16 : decode cX12_turns 16 = .ok (.iaload, 1) := by decide +kernel
theorem dX12_turns_17 : decode cX12_turns 17 = .ok (.aload_n 0, 1) := by decide +kernel
theorem dX12_turns_18 : decode cX12_turns 18 = .ok (.getfield 7, 3) := by decide +kernel
theorem dX12_turns_21 : decode cX12_turns 21 = .ok (.iconst 1, 1) := by decide +kernel
theorem dX12_turns_22 : decode cX12_turns 22 = .ok (.isub, 1) := by decide +kernel
theorem dX12_turns_23 : decode cX12_turns 23 = .ok (.if_icmp .ne 6, 3) := by decide +kernel
theorem dX12_turns_26 : decode cX12_turns 26 = .ok (.goto 45, 3) := by decide +kernel
theorem dX12_turns_29 : decode cX12_turns 29 = .ok (.aload_n 0, 1) := by decide +kernel
theorem dX12_turns_30 : decode cX12_turns 30 = .ok (.getfield 81, 3) := by decide +kernel
theorem dX12_turns_33 : decode cX12_turns 33 = .ok (.iload_n 1, 1) := by decide +kernel
theorem dX12_turns_34 : decode cX12_turns 34 = .ok (.dup2, 1) := by decide +kernel
theorem dX12_turns_35 : decode cX12_turns 35 = .ok (.iaload, 1) := by decide +kernel
theorem dX12_turns_36 : decode cX12_turns 36 = .ok (.iconst 1, 1) := by decide +kernel
theorem dX12_turns_37 : decode cX12_turns 37 = .ok (.iadd, 1) := by decide +kernel
theorem dX12_turns_38 : decode cX12_turns 38 = .ok (.iastore, 1) := by decide +kernel
theorem dX12_turns_39 : decode cX12_turns 39 = .ok (.iload_n 1, 1) := by decide +kernel
theorem dX12_turns_40 : decode cX12_turns 40 = .ok (.iconst 1, 1) := by decide +kernel
theorem dX12_turns_41 : decode cX12_turns 41 = .ok (.iadd, 1) := by decide +kernel
theorem dX12_turns_42 : decode cX12_turns 42 = .ok (.istore_n 2, 1) := by decide +kernel
theorem dX12_turns_43 : decode cX12_turns 43 = .ok (.iload_n 2, 1) := by decide +kernel
theorem dX12_turns_44 : decode cX12_turns 44 = .ok (.aload_n 0, 1) := by decide +kernel
theorem dX12_turns_45 : decode cX12_turns 45 = .ok (.getfield 13, 3) := by decide +kernel
theorem dX12_turns_48 : decode cX12_turns 48 = .ok (.if_icmp .ge 21, 3) := by decide +kernel
theorem dX12_turns_51 : decode cX12_turns 51 = .ok (.aload_n 0, 1) := by decide +kernel
theorem dX12_turns_52 : decode cX12_turns 52 = .ok (.getfield 81, 3) := by decide +kernel
theorem dX12_turns_55 : decode cX12_turns 55 = .ok (.iload_n 2, 1) := by decide +kernel
theorem dX12_turns_56 : decode cX12_turns 56 = .ok (.aload_n 0, 1) := by decide +kernel
theorem dX12_turns_57 : decode cX12_turns 57 = .ok (.getfield 81, 3) := by decide +kernel
theorem dX12_turns_60 : decode cX12_turns 60 = .ok (.iload_n 1, 1) := by decide +kernel
theorem dX12_turns_61 : decode cX12_turns 61 = .ok (.iaload, 1) := by decide +kernel
theorem dX12_turns_62 : decode cX12_turns 62 = .ok (.iastore, 1) := by decide +kernel
theorem dX12_turns_63 : decode cX12_turns 63 = .ok (.iinc 2 1, 3) := by decide +kernel
theorem dX12_turns_66 : decode cX12_turns 66 = .ok (.goto (-23), 3) := by decide +kernel
theorem dX12_turns_69 : decode cX12_turns 69 = .ok (.iconst 1, 1) := by decide +kernel
theorem dX12_turns_70 : decode cX12_turns 70 = .ok (.ireturn, 1) := by decide +kernel
theorem dX12_turns_71 : decode cX12_turns 71 = .ok (.iinc 1 (-1), 3) := by decide +kernel
theorem dX12_turns_74 : decode cX12_turns 74 = .ok (.goto (-67), 3) := by decide +kernel
theorem dX12_turns_77 : decode cX12_turns 77 = .ok (.iconst 0, 1) := by decide +kernel
theorem dX12_turns_78 : decode cX12_turns 78 = .ok (.ireturn, 1) := by decide +kernel
theorem dX12_asNumber_0 : decode cX12_asNumber 0 = .ok (.iconst 0, 1) := by decide +kernel
theorem dX12_asNumber_1 : decode cX12_asNumber 1 = .ok (.istore_n 1, 1) := by decide +kernel
theorem dX12_asNumber_2 : decode cX12_asNumber 2 = .ok (.iconst 0, 1) := by decide +kernel
theorem dX12_asNumber_3 : decode cX12_asNumber 3 = .ok (.istore_n 2, 1) := by decide +kernel
theorem dX12_asNumber_4 : decode cX12_asNumber 4 = .ok (.iload_n 2, 1) := by decide +kernel
theorem dX12_asNumber_5 : decode cX12_asNumber 5 = .ok (.aload_n 0, 1) := by decide +kernel
theorem dX12_asNumber_6 : decode cX12_asNumber 6 = .ok (.getfield 13, 3) := by decide +kernel
theorem dX12_asNumber_9 : decode cX12_asNumber 9 = .ok (.if_icmp .ge 23, 3) := by decide +kernel
theorem dX12_asNumber_12 : decode cX12_asNumber 12 = .ok (.bipush 9, 2) := by decide +kernel
theorem dX12_asNumber_14 : decode cX12_asNumber 14 = .ok (.iload_n 1, 1) := by decide +kernel
theorem dX12_asNumber_15 : decode cX12_asNumber 15 = .ok (.imul, 1) := by decide +kernel
theorem dX12_asNumber_16 : decode cX12_asNumber 16 = .ok (.aload_n 0, 1) := by decide +kernel
theorem dX12_asNumber_17 : decode cX12_asNumber 17 = .ok (.getfield 81, 3) := by decide +kernel
theorem dX12_asNumber_20 : decode cX12_asNumber 20 = .ok (.iload_n 2, 1) := by decide +kernel
theorem dX12_asNumber_21 : decode cX12_asNumber 21 = .ok (.iaload, 1) := by decide +kernel
theorem dX12_asNumber_22 : decode cX12_asNumber 22 = .ok (.iadd, 1) := by decide +kernel
theorem dX12_asNumber_23 : decode cX12_asNumber 23 = .ok (.iconst 1, 1) := by decide +kernel
theorem dX12_asNumber_24 : decode cX12_asNumber 24 = .ok (.iadd, 1) := by decide +kernel
theorem dX12_asNumber_25 : decode cX12_asNumber 25 = .ok (.istore_n 1, 1) := by decide +kernel
theorem dX12_asNumber_26 : decode cX12_asNumber 26 = .ok (.iinc 2 1, 3) := by decide +kernel
theorem dX12_asNumber_29 : decode cX12_asNumber 29 = .ok (.goto (-25), 3) := by decide +kernel
theorem dX12_asNumber_32 : decode cX12_asNumber 32 = .ok (.iload_n 1, 1) := by decide +kernel
theorem dX12_asNumber_33 : decode cX12_asNumber 33 = .ok (.ireturn, 1) := by decide +kernel
theorem dX12_reads_0 : decode cX12_reads 0 = .ok (.iload_n 1, 1) := by decide +kernel
theorem dX12_reads_1 : decode cX12_reads 1 = .ok (.istore_n 2, 1) := by decide +kernel
theorem dX12_reads_2 : decode cX12_reads 2 = .ok (.iload_n 1, 1) := by decide +kernel
theorem dX12_reads_3 : decode cX12_reads 3 = .ok (.ifCond .lt 7, 3) := by decide +kernel
theorem dX12_reads_6 : decode cX12_reads 6 = .ok (.iconst 1, 1) := by decide +kernel
theorem dX12_reads_7 : decode cX12_reads 7 = .ok (.goto 4, 3) := by decide +kernel
theorem dX12_reads_10 : decode cX12_reads 10 = .ok (.iconst 0, 1) := by decide +kernel
theorem dX12_reads_11 : decode cX12_reads 11 = .ok (.istore_n 3, 1) := by decide +kernel
theorem dX12_reads_12 : decode cX12_reads 12 = .ok (.aload_n 0, 1) := by decide +kernel
theorem dX12_reads_13 : decode cX12_reads 13 = .ok (.getfield 13, 3) := by decide +kernel
theorem dX12_reads_16 : decode cX12_reads 16 = .ok (.iconst 1, 1) := by decide +kernel
theorem dX12_reads_17 : decode cX12_reads 17 = .ok (.isub, 1) := by decide +kernel
theorem dX12_reads_18 : decode cX12_reads 18 = .ok (.istore 4, 2) := by decide +kernel
theorem dX12_reads_20 : decode cX12_reads 20 = .ok (.iload 4, 2) := by decide +kernel
theorem dX12_reads_22 : decode cX12_reads 22 = .ok (.ifCond .lt 91, 3) := by decide +kernel
theorem dX12_reads_25 : decode cX12_reads 25 = .ok (.iload_n 3, 1) := by decide +kernel
theorem dX12_reads_26 : decode cX12_reads 26 = .ok (.ifCond .eq 87, 3) := by decide +kernel
theorem dX12_reads_29 : decode cX12_reads 29 = .ok (.aload_n 0, 1) := by decide +kernel
theorem dX12_reads_30 : decode cX12_reads 30 = .ok (.getfield 81, 3) := by decide +kernel
theorem dX12_reads_33 : decode cX12_reads 33 = .ok (.iload 4, 2) := by decide +kernel
theorem dX12_reads_35 : decode cX12_reads 35 = .ok (.iload_n 2, 1) := by decide +kernel
theorem dX12_reads_36 : decode cX12_reads 36 = .ok (.bipush 9, 2) := by decide +kernel
theorem dX12_reads_38 : decode cX12_reads 38 = .ok (.irem, 1) := by decide +kernel
theorem dX12_reads_39 : decode cX12_reads 39 = .ok (.iconst 1, 1) := by decide +kernel
theorem dX12_reads_40 : decode cX12_reads 40 = .ok (.isub, 1) := by decide +kernel
theorem dX12_reads_41 : decode cX12_reads 41 = .ok (.iastore, 1) := by decide +kernel
theorem dX12_reads_42 : decode cX12_reads 42 = .ok (.iload_n 2, 1) := by decide +kernel
theorem dX12_reads_43 : decode cX12_reads 43 = .ok (.bipush 9, 2) := by decide +kernel
theorem dX12_reads_45 : decode cX12_reads 45 = .ok (.idiv, 1) := by decide +kernel
theorem dX12_reads_46 : decode cX12_reads 46 = .ok (.istore_n 2, 1) := by decide +kernel
theorem dX12_reads_47 : decode cX12_reads 47 = .ok (.aload_n 0, 1) := by decide +kernel
theorem dX12_reads_48 : decode cX12_reads 48 = .ok (.getfield 81, 3) := by decide +kernel
theorem dX12_reads_51 : decode cX12_reads 51 = .ok (.iload 4, 2) := by decide +kernel
theorem dX12_reads_53 : decode cX12_reads 53 = .ok (.iaload, 1) := by decide +kernel
theorem dX12_reads_54 : decode cX12_reads 54 = .ok (.ifCond .lt 51, 3) := by decide +kernel
theorem dX12_reads_57 : decode cX12_reads 57 = .ok (.aload_n 0, 1) := by decide +kernel
theorem dX12_reads_58 : decode cX12_reads 58 = .ok (.getfield 81, 3) := by decide +kernel
theorem dX12_reads_61 : decode cX12_reads 61 = .ok (.iload 4, 2) := by decide +kernel
theorem dX12_reads_63 : decode cX12_reads 63 = .ok (.iaload, 1) := by decide +kernel
theorem dX12_reads_64 : decode cX12_reads 64 = .ok (.aload_n 0, 1) := by decide +kernel
theorem dX12_reads_65 : decode cX12_reads 65 = .ok (.getfield 7, 3) := by decide +kernel
theorem dX12_reads_68 : decode cX12_reads 68 = .ok (.if_icmp .ge 37, 3) := by decide +kernel
theorem dX12_reads_71 : decode cX12_reads 71 = .ok (.iload 4, 2) := by decide +kernel
theorem dX12_reads_73 : decode cX12_reads 73 = .ok (.aload_n 0, 1) := by decide +kernel
theorem dX12_reads_74 : decode cX12_reads 74 = .ok (.getfield 13, 3) := by decide +kernel
theorem dX12_reads_77 : decode cX12_reads 77 = .ok (.iconst 1, 1) := by decide +kernel
theorem dX12_reads_78 : decode cX12_reads 78 = .ok (.isub, 1) := by decide +kernel
theorem dX12_reads_79 : decode cX12_reads 79 = .ok (.if_icmp .eq 22, 3) := by decide +kernel
theorem dX12_reads_82 : decode cX12_reads 82 = .ok (.aload_n 0, 1) := by decide +kernel
theorem dX12_reads_83 : decode cX12_reads 83 = .ok (.getfield 81, 3) := by decide +kernel
theorem dX12_reads_86 : decode cX12_reads 86 = .ok (.iload 4, 2) := by decide +kernel
theorem dX12_reads_88 : decode cX12_reads 88 = .ok (.iaload, 1) := by decide +kernel
theorem dX12_reads_89 : decode cX12_reads 89 = .ok (.aload_n 0, 1) := by decide +kernel
theorem dX12_reads_90 : decode cX12_reads 90 = .ok (.getfield 81, 3) := by decide +kernel
theorem dX12_reads_93 : decode cX12_reads 93 = .ok (.iload 4, 2) := by decide +kernel
theorem dX12_reads_95 : decode cX12_reads 95 = .ok (.iconst 1, 1) := by decide +kernel
theorem dX12_reads_96 : decode cX12_reads 96 = .ok (.iadd, 1) := by decide +kernel
theorem dX12_reads_97 : decode cX12_reads 97 = .ok (.iaload, 1) := by decide +kernel
theorem dX12_reads_98 : decode cX12_reads 98 = .ok (.if_icmp .gt 7, 3) := by decide +kernel
theorem dX12_reads_101 : decode cX12_reads 101 = .ok (.iconst 1, 1) := by decide +kernel
theorem dX12_reads_102 : decode cX12_reads 102 = .ok (.goto 4, 3) := by decide +kernel
theorem dX12_reads_105 : decode cX12_reads 105 = .ok (.iconst 0, 1) := by decide +kernel
theorem dX12_reads_106 : decode cX12_reads 106 = .ok (.istore_n 3, 1) := by decide +kernel
theorem dX12_reads_107 : decode cX12_reads 107 = .ok (.iinc 4 (-1), 3) := by decide +kernel
theorem dX12_reads_110 : decode cX12_reads 110 = .ok (.goto (-90), 3) := by decide +kernel
theorem dX12_reads_113 : decode cX12_reads 113 = .ok (.iload_n 3, 1) := by decide +kernel
theorem dX12_reads_114 : decode cX12_reads 114 = .ok (.ifCond .eq 11, 3) := by decide +kernel
theorem dX12_reads_117 : decode cX12_reads 117 = .ok (.iload_n 2, 1) := by decide +kernel
theorem dX12_reads_118 : decode cX12_reads 118 = .ok (.ifCond .ne 7, 3) := by decide +kernel
theorem dX12_reads_121 : decode cX12_reads 121 = .ok (.iconst 1, 1) := by decide +kernel
theorem dX12_reads_122 : decode cX12_reads 122 = .ok (.goto 4, 3) := by decide +kernel
theorem dX12_reads_125 : decode cX12_reads 125 = .ok (.iconst 0, 1) := by decide +kernel
theorem dX12_reads_126 : decode cX12_reads 126 = .ok (.ireturn, 1) := by decide +kernel
theorem dX12_asked_0 : decode cX12_asked 0 = .ok (.iconst 0, 1) := by decide +kernel
theorem dX12_asked_1 : decode cX12_asked 1 = .ok (.istore_n 2, 1) := by decide +kernel
theorem dX12_asked_2 : decode cX12_asked 2 = .ok (.iconst 0, 1) := by decide +kernel
theorem dX12_asked_3 : decode cX12_asked 3 = .ok (.istore_n 3, 1) := by decide +kernel
theorem dX12_asked_4 : decode cX12_asked 4 = .ok (.iload_n 3, 1) := by decide +kernel
theorem dX12_asked_5 : decode cX12_asked 5 = .ok (.aload_n 0, 1) := by decide +kernel
theorem dX12_asked_6 : decode cX12_asked 6 = .ok (.getfield 13, 3) := by decide +kernel
theorem dX12_asked_9 : decode cX12_asked 9 = .ok (.if_icmp .ge 27, 3) := by decide +kernel
theorem dX12_asked_12 : decode cX12_asked 12 = .ok (.iload_n 2, 1) := by decide +kernel
theorem dX12_asked_13 : decode cX12_asked 13 = .ok (.aload_n 0, 1) := by decide +kernel
theorem dX12_asked_14 : decode cX12_asked 14 = .ok (.getfield 81, 3) := by decide +kernel
theorem dX12_asked_17 : decode cX12_asked 17 = .ok (.iload_n 3, 1) := by decide +kernel
theorem dX12_asked_18 : decode cX12_asked 18 = .ok (.iaload, 1) := by decide +kernel
theorem dX12_asked_19 : decode cX12_asked 19 = .ok (.iload_n 1, 1) := by decide +kernel
theorem dX12_asked_20 : decode cX12_asked 20 = .ok (.if_icmp .ne 7, 3) := by decide +kernel
theorem dX12_asked_23 : decode cX12_asked 23 = .ok (.iconst 1, 1) := by decide +kernel
theorem dX12_asked_24 : decode cX12_asked 24 = .ok (.goto 4, 3) := by decide +kernel
theorem dX12_asked_27 : decode cX12_asked 27 = .ok (.iconst 0, 1) := by decide +kernel
theorem dX12_asked_28 : decode cX12_asked 28 = .ok (.iadd, 1) := by decide +kernel
theorem dX12_asked_29 : decode cX12_asked 29 = .ok (.istore_n 2, 1) := by decide +kernel
theorem dX12_asked_30 : decode cX12_asked 30 = .ok (.iinc 3 1, 3) := by decide +kernel
theorem dX12_asked_33 : decode cX12_asked 33 = .ok (.goto (-29), 3) := by decide +kernel
theorem dX12_asked_36 : decode cX12_asked 36 = .ok (.iload_n 2, 1) := by decide +kernel
theorem dX12_asked_37 : decode cX12_asked 37 = .ok (.ireturn, 1) := by decide +kernel
theorem dX12_isLawful_0 : decode cX12_isLawful 0 = .ok (.aload_n 1, 1) := by decide +kernel
theorem dX12_isLawful_1 : decode cX12_isLawful 1 = .ok (.bipush 8, 2) := by decide +kernel
theorem dX12_isLawful_3 : decode cX12_isLawful 3 = .ok (.iload_n 3, 1) := by decide +kernel
theorem dX12_isLawful_4 : decode cX12_isLawful 4 = .ok (.imul, 1) := by decide +kernel
theorem dX12_isLawful_5 : decode cX12_isLawful 5 = .ok (.iload 4, 2) := by decide +kernel
theorem dX12_isLawful_7 : decode cX12_isLawful 7 = .ok (.iadd, 1) := by decide +kernel
theorem dX12_isLawful_8 : decode cX12_isLawful 8 = .ok (.iaload, 1) := by decide +kernel
theorem dX12_isLawful_9 : decode cX12_isLawful 9 = .ok (.ifCond .le 35, 3) := by decide +kernel
theorem dX12_isLawful_12 : decode cX12_isLawful 12 = .ok (.aload_n 0, 1) := by decide +kernel
theorem dX12_isLawful_13 : decode cX12_isLawful 13 = .ok (.iload 4, 2) := by decide +kernel
theorem dX12_isLawful_15 : decode cX12_isLawful 15 = .ok (.invokevirtual 371, 3) := by decide +kernel
theorem dX12_isLawful_18 : decode cX12_isLawful 18 = .ok (.ifCond .ne 26, 3) := by decide +kernel
theorem dX12_isLawful_21 : decode cX12_isLawful 21 = .ok (.aload_n 0, 1) := by decide +kernel
theorem dX12_isLawful_22 : decode cX12_isLawful 22 = .ok (.getfield 16, 3) := by decide +kernel
theorem dX12_isLawful_25 : decode cX12_isLawful 25 = .ok (.iconst (-1), 1) := by decide +kernel
theorem dX12_isLawful_26 : decode cX12_isLawful 26 = .ok (.if_icmp .eq 14, 3) := by decide +kernel
theorem dX12_isLawful_29 : decode cX12_isLawful 29 = .ok (.aload_n 0, 1) := by decide +kernel
theorem dX12_isLawful_30 : decode cX12_isLawful 30 = .ok (.aload_n 0, 1) := by decide +kernel
theorem dX12_isLawful_31 : decode cX12_isLawful 31 = .ok (.getfield 16, 3) := by decide +kernel
theorem dX12_isLawful_34 : decode cX12_isLawful 34 = .ok (.invokevirtual 371, 3) := by decide +kernel
theorem dX12_isLawful_37 : decode cX12_isLawful 37 = .ok (.ifCond .le 7, 3) := by decide +kernel
theorem dX12_isLawful_40 : decode cX12_isLawful 40 = .ok (.iconst 1, 1) := by decide +kernel
theorem dX12_isLawful_41 : decode cX12_isLawful 41 = .ok (.goto 4, 3) := by decide +kernel
theorem dX12_isLawful_44 : decode cX12_isLawful 44 = .ok (.iconst 0, 1) := by decide +kernel
theorem dX12_isLawful_45 : decode cX12_isLawful 45 = .ok (.istore 5, 2) := by decide +kernel
theorem dX12_isLawful_47 : decode cX12_isLawful 47 = .ok (.iconst 0, 1) := by decide +kernel
theorem dX12_isLawful_48 : decode cX12_isLawful 48 = .ok (.istore 6, 2) := by decide +kernel
theorem dX12_isLawful_50 : decode cX12_isLawful 50 = .ok (.iload 6, 2) := by decide +kernel
theorem dX12_isLawful_52 : decode cX12_isLawful 52 = .ok (.aload_n 0, 1) := by decide +kernel
theorem dX12_isLawful_53 : decode cX12_isLawful 53 = .ok (.getfield 13, 3) := by decide +kernel
theorem dX12_isLawful_56 : decode cX12_isLawful 56 = .ok (.if_icmp .ge 49, 3) := by decide +kernel
theorem dX12_isLawful_59 : decode cX12_isLawful 59 = .ok (.iload 5, 2) := by decide +kernel
theorem dX12_isLawful_61 : decode cX12_isLawful 61 = .ok (.ifCond .eq 44, 3) := by decide +kernel
theorem dX12_isLawful_64 : decode cX12_isLawful 64 = .ok (.aload_n 1, 1) := by decide +kernel
theorem dX12_isLawful_65 : decode cX12_isLawful 65 = .ok (.bipush 8, 2) := by decide +kernel
theorem dX12_isLawful_67 : decode cX12_isLawful 67 = .ok (.iload_n 2, 1) := by decide +kernel
theorem dX12_isLawful_68 : decode cX12_isLawful 68 = .ok (.imul, 1) := by decide +kernel
theorem dX12_isLawful_69 : decode cX12_isLawful 69 = .ok (.aload_n 0, 1) := by decide +kernel
theorem dX12_isLawful_70 : decode cX12_isLawful 70 = .ok (.getfield 81, 3) := by decide +kernel
theorem dX12_isLawful_73 : decode cX12_isLawful 73 = .ok (.iload 6, 2) := by decide +kernel
theorem dX12_isLawful_75 : decode cX12_isLawful 75 = .ok (.iaload, 1) := by decide +kernel
theorem dX12_isLawful_76 : decode cX12_isLawful 76 = .ok (.iadd, 1) := by decide +kernel
theorem dX12_isLawful_77 : decode cX12_isLawful 77 = .ok (.iaload, 1) := by decide +kernel
theorem dX12_isLawful_78 : decode cX12_isLawful 78 = .ok (.aload_n 0, 1) := by decide +kernel
theorem dX12_isLawful_79 : decode cX12_isLawful 79 = .ok (.aload_n 0, 1) := by decide +kernel
theorem dX12_isLawful_80 : decode cX12_isLawful 80 = .ok (.getfield 81, 3) := by decide +kernel
theorem dX12_isLawful_83 : decode cX12_isLawful 83 = .ok (.iload 6, 2) := by decide +kernel
theorem dX12_isLawful_85 : decode cX12_isLawful 85 = .ok (.iaload, 1) := by decide +kernel
theorem dX12_isLawful_86 : decode cX12_isLawful 86 = .ok (.invokevirtual 371, 3) := by decide +kernel
theorem dX12_isLawful_89 : decode cX12_isLawful 89 = .ok (.if_icmp .lt 7, 3) := by decide +kernel
theorem dX12_isLawful_92 : decode cX12_isLawful 92 = .ok (.iconst 1, 1) := by decide +kernel
theorem dX12_isLawful_93 : decode cX12_isLawful 93 = .ok (.goto 4, 3) := by decide +kernel
theorem dX12_isLawful_96 : decode cX12_isLawful 96 = .ok (.iconst 0, 1) := by decide +kernel
theorem dX12_isLawful_97 : decode cX12_isLawful 97 = .ok (.istore 5, 2) := by decide +kernel
theorem dX12_isLawful_99 : decode cX12_isLawful 99 = .ok (.iinc 6 1, 3) := by decide +kernel
theorem dX12_isLawful_102 : decode cX12_isLawful 102 = .ok (.goto (-52), 3) := by decide +kernel
theorem dX12_isLawful_105 : decode cX12_isLawful 105 = .ok (.iload 5, 2) := by decide +kernel
theorem dX12_isLawful_107 : decode cX12_isLawful 107 = .ok (.ireturn, 1) := by decide +kernel
theorem dX12_kept_0 : decode cX12_kept 0 = .ok (.iconst 0, 1) := by decide +kernel
theorem dX12_kept_1 : decode cX12_kept 1 = .ok (.istore_n 1, 1) := by decide +kernel
theorem dX12_kept_2 : decode cX12_kept 2 = .ok (.iload_n 1, 1) := by decide +kernel
theorem dX12_kept_3 : decode cX12_kept 3 = .ok (.aload_n 0, 1) := by decide +kernel
theorem dX12_kept_4 : decode cX12_kept 4 = .ok (.getfield 13, 3) := by decide +kernel
theorem dX12_kept_7 : decode cX12_kept 7 = .ok (.if_icmp .ge 24, 3) := by decide +kernel
theorem dX12_kept_10 : decode cX12_kept 10 = .ok (.aload_n 0, 1) := by decide +kernel
theorem dX12_kept_11 : decode cX12_kept 11 = .ok (.getfield 81, 3) := by decide +kernel
theorem dX12_kept_14 : decode cX12_kept 14 = .ok (.iload_n 1, 1) := by decide +kernel
theorem dX12_kept_15 : decode cX12_kept 15 = .ok (.iaload, 1) := by decide +kernel
theorem dX12_kept_16 : decode cX12_kept 16 = .ok (.aload_n 0, 1) := by decide +kernel
theorem dX12_kept_17 : decode cX12_kept 17 = .ok (.getfield 16, 3) := by decide +kernel
theorem dX12_kept_20 : decode cX12_kept 20 = .ok (.if_icmp .eq 5, 3) := by decide +kernel
theorem dX12_kept_23 : decode cX12_kept 23 = .ok (.iload_n 1, 1) := by decide +kernel
theorem dX12_kept_24 : decode cX12_kept 24 = .ok (.ireturn, 1) := by decide +kernel
theorem dX12_kept_25 : decode cX12_kept 25 = .ok (.iinc 1 1, 3) := by decide +kernel
theorem dX12_kept_28 : decode cX12_kept 28 = .ok (.goto (-26), 3) := by decide +kernel
theorem dX12_kept_31 : decode cX12_kept 31 = .ok (.iconst 0, 1) := by decide +kernel
theorem dX12_kept_32 : decode cX12_kept 32 = .ok (.ireturn, 1) := by decide +kernel
theorem dX12_trades_0 : decode cX12_trades 0 = .ok (.aload_n 0, 1) := by decide +kernel
theorem dX12_trades_1 : decode cX12_trades 1 = .ok (.invokevirtual 374, 3) := by decide +kernel
theorem dX12_trades_4 : decode cX12_trades 4 = .ok (.istore 5, 2) := by decide +kernel
theorem dX12_trades_6 : decode cX12_trades 6 = .ok (.iconst 0, 1) := by decide +kernel
theorem dX12_trades_7 : decode cX12_trades 7 = .ok (.istore 6, 2) := by decide +kernel
theorem dX12_trades_9 : decode cX12_trades 9 = .ok (.iload 6, 2) := by decide +kernel
theorem dX12_trades_11 : decode cX12_trades 11 = .ok (.aload_n 0, 1) := by decide +kernel
theorem dX12_trades_12 : decode cX12_trades 12 = .ok (.getfield 13, 3) := by decide +kernel
theorem dX12_trades_15 : decode cX12_trades 15 = .ok (.if_icmp .ge 63, 3) := by decide +kernel
theorem dX12_trades_18 : decode cX12_trades 18 = .ok (.aload_n 1, 1) := by decide +kernel
theorem dX12_trades_19 : decode cX12_trades 19 = .ok (.bipush 8, 2) := by decide +kernel
theorem dX12_trades_21 : decode cX12_trades 21 = .ok (.iload_n 2, 1) := by decide +kernel
theorem dX12_trades_22 : decode cX12_trades 22 = .ok (.imul, 1) := by decide +kernel
theorem dX12_trades_23 : decode cX12_trades 23 = .ok (.aload_n 0, 1) := by decide +kernel
theorem dX12_trades_24 : decode cX12_trades 24 = .ok (.getfield 81, 3) := by decide +kernel
theorem dX12_trades_27 : decode cX12_trades 27 = .ok (.iload 6, 2) := by decide +kernel
theorem dX12_trades_29 : decode cX12_trades 29 = .ok (.iaload, 1) := by decide +kernel
theorem dX12_trades_30 : decode cX12_trades 30 = .ok (.iadd, 1) := by decide +kernel
theorem dX12_trades_31 : decode cX12_trades 31 = .ok (.dup2, 1) := by decide +kernel
theorem dX12_trades_32 : decode cX12_trades 32 = .ok (.iaload, 1) := by decide +kernel
theorem dX12_trades_33 : decode cX12_trades 33 = .ok (.iconst 1, 1) := by decide +kernel
theorem dX12_trades_34 : decode cX12_trades 34 = .ok (.isub, 1) := by decide +kernel
theorem dX12_trades_35 : decode cX12_trades 35 = .ok (.iastore, 1) := by decide +kernel
theorem dX12_trades_36 : decode cX12_trades 36 = .ok (.aload_n 1, 1) := by decide +kernel
theorem dX12_trades_37 : decode cX12_trades 37 = .ok (.bipush 8, 2) := by decide +kernel
theorem dX12_trades_39 : decode cX12_trades 39 = .ok (.iload_n 3, 1) := by decide +kernel
theorem dX12_trades_40 : decode cX12_trades 40 = .ok (.imul, 1) := by decide +kernel
theorem dX12_trades_41 : decode cX12_trades 41 = .ok (.aload_n 0, 1) := by decide +kernel
theorem dX12_trades_42 : decode cX12_trades 42 = .ok (.getfield 81, 3) := by decide +kernel
theorem dX12_trades_45 : decode cX12_trades 45 = .ok (.iload 6, 2) := by decide +kernel
theorem dX12_trades_47 : decode cX12_trades 47 = .ok (.iaload, 1) := by decide +kernel
theorem dX12_trades_48 : decode cX12_trades 48 = .ok (.iadd, 1) := by decide +kernel
theorem dX12_trades_49 : decode cX12_trades 49 = .ok (.dup2, 1) := by decide +kernel
theorem dX12_trades_50 : decode cX12_trades 50 = .ok (.iaload, 1) := by decide +kernel
theorem dX12_trades_51 : decode cX12_trades 51 = .ok (.iload 6, 2) := by decide +kernel
theorem dX12_trades_53 : decode cX12_trades 53 = .ok (.iload 5, 2) := by decide +kernel
theorem dX12_trades_55 : decode cX12_trades 55 = .ok (.if_icmp .eq 10, 3) := by decide +kernel
theorem dX12_trades_58 : decode cX12_trades 58 = .ok (.aload_n 0, 1) := by decide +kernel
theorem dX12_trades_59 : decode cX12_trades 59 = .ok (.getfield 325, 3) := by decide +kernel
theorem dX12_trades_62 : decode cX12_trades 62 = .ok (.ifCond .ne 7, 3) := by decide +kernel
theorem dX12_trades_65 : decode cX12_trades 65 = .ok (.iconst 1, 1) := by decide +kernel
theorem dX12_trades_66 : decode cX12_trades 66 = .ok (.goto 4, 3) := by decide +kernel
theorem dX12_trades_69 : decode cX12_trades 69 = .ok (.iconst 0, 1) := by decide +kernel
theorem dX12_trades_70 : decode cX12_trades 70 = .ok (.iadd, 1) := by decide +kernel
theorem dX12_trades_71 : decode cX12_trades 71 = .ok (.iastore, 1) := by decide +kernel
theorem dX12_trades_72 : decode cX12_trades 72 = .ok (.iinc 6 1, 3) := by decide +kernel
theorem dX12_trades_75 : decode cX12_trades 75 = .ok (.goto (-66), 3) := by decide +kernel
theorem dX12_trades_78 : decode cX12_trades 78 = .ok (.aload_n 1, 1) := by decide +kernel
theorem dX12_trades_79 : decode cX12_trades 79 = .ok (.bipush 8, 2) := by decide +kernel
theorem dX12_trades_81 : decode cX12_trades 81 = .ok (.iload_n 2, 1) := by decide +kernel
theorem dX12_trades_82 : decode cX12_trades 82 = .ok (.imul, 1) := by decide +kernel
theorem dX12_trades_83 : decode cX12_trades 83 = .ok (.iload 4, 2) := by decide +kernel
theorem dX12_trades_85 : decode cX12_trades 85 = .ok (.iadd, 1) := by decide +kernel
theorem dX12_trades_86 : decode cX12_trades 86 = .ok (.dup2, 1) := by decide +kernel
theorem dX12_trades_87 : decode cX12_trades 87 = .ok (.iaload, 1) := by decide +kernel
theorem dX12_trades_88 : decode cX12_trades 88 = .ok (.iconst 1, 1) := by decide +kernel
theorem dX12_trades_89 : decode cX12_trades 89 = .ok (.iadd, 1) := by decide +kernel
theorem dX12_trades_90 : decode cX12_trades 90 = .ok (.iastore, 1) := by decide +kernel
theorem dX12_trades_91 : decode cX12_trades 91 = .ok (.aload_n 1, 1) := by decide +kernel
theorem dX12_trades_92 : decode cX12_trades 92 = .ok (.bipush 8, 2) := by decide +kernel
theorem dX12_trades_94 : decode cX12_trades 94 = .ok (.iload_n 3, 1) := by decide +kernel
theorem dX12_trades_95 : decode cX12_trades 95 = .ok (.imul, 1) := by decide +kernel
theorem dX12_trades_96 : decode cX12_trades 96 = .ok (.iload 4, 2) := by decide +kernel
theorem dX12_trades_98 : decode cX12_trades 98 = .ok (.iadd, 1) := by decide +kernel
theorem dX12_trades_99 : decode cX12_trades 99 = .ok (.dup2, 1) := by decide +kernel
theorem dX12_trades_100 : decode cX12_trades 100 = .ok (.iaload, 1) := by decide +kernel
theorem dX12_trades_101 : decode cX12_trades 101 = .ok (.iconst 1, 1) := by decide +kernel
theorem dX12_trades_102 : decode cX12_trades 102 = .ok (.isub, 1) := by decide +kernel
theorem dX12_trades_103 : decode cX12_trades 103 = .ok (.iastore, 1) := by decide +kernel
theorem dX12_trades_104 : decode cX12_trades 104 = .ok (.return_, 1) := by decide +kernel
theorem dX12_mayTie_0 : decode cX12_mayTie 0 = .ok (.aload_n 0, 1) := by decide +kernel
theorem dX12_mayTie_1 : decode cX12_mayTie 1 = .ok (.getfield 32, 3) := by decide +kernel
theorem dX12_mayTie_4 : decode cX12_mayTie 4 = .ok (.iconst 3, 1) := by decide +kernel
theorem dX12_mayTie_5 : decode cX12_mayTie 5 = .ok (.iload_n 3, 1) := by decide +kernel
theorem dX12_mayTie_6 : decode cX12_mayTie 6 = .ok (.imul, 1) := by decide +kernel
theorem dX12_mayTie_7 : decode cX12_mayTie 7 = .ok (.iaload, 1) := by decide +kernel
theorem dX12_mayTie_8 : decode cX12_mayTie 8 = .ok (.istore 4, 2) := by decide +kernel
theorem dX12_mayTie_10 : decode cX12_mayTie 10 = .ok (.aload_n 0, 1) := by decide +kernel
theorem dX12_mayTie_11 : decode cX12_mayTie 11 = .ok (.getfield 32, 3) := by decide +kernel
theorem dX12_mayTie_14 : decode cX12_mayTie 14 = .ok (.iconst 3, 1) := by decide +kernel
theorem dX12_mayTie_15 : decode cX12_mayTie 15 = .ok (.iload_n 3, 1) := by decide +kernel
theorem dX12_mayTie_16 : decode cX12_mayTie 16 = .ok (.imul, 1) := by decide +kernel
theorem dX12_mayTie_17 : decode cX12_mayTie 17 = .ok (.iconst 1, 1) := by decide +kernel
theorem dX12_mayTie_18 : decode cX12_mayTie 18 = .ok (.iadd, 1) := by decide +kernel
theorem dX12_mayTie_19 : decode cX12_mayTie 19 = .ok (.iaload, 1) := by decide +kernel
theorem dX12_mayTie_20 : decode cX12_mayTie 20 = .ok (.istore 5, 2) := by decide +kernel
theorem dX12_mayTie_22 : decode cX12_mayTie 22 = .ok (.iload 4, 2) := by decide +kernel
theorem dX12_mayTie_24 : decode cX12_mayTie 24 = .ok (.iload 5, 2) := by decide +kernel
theorem dX12_mayTie_26 : decode cX12_mayTie 26 = .ok (.if_icmp .ne 24, 3) := by decide +kernel
theorem dX12_mayTie_29 : decode cX12_mayTie 29 = .ok (.aload_n 1, 1) := by decide +kernel
theorem dX12_mayTie_30 : decode cX12_mayTie 30 = .ok (.bipush 8, 2) := by decide +kernel
theorem dX12_mayTie_32 : decode cX12_mayTie 32 = .ok (.iload_n 2, 1) := by decide +kernel
theorem dX12_mayTie_33 : decode cX12_mayTie 33 = .ok (.imul, 1) := by decide +kernel
theorem dX12_mayTie_34 : decode cX12_mayTie 34 = .ok (.iload 4, 2) := by decide +kernel
theorem dX12_mayTie_36 : decode cX12_mayTie 36 = .ok (.iadd, 1) := by decide +kernel
theorem dX12_mayTie_37 : decode cX12_mayTie 37 = .ok (.iaload, 1) := by decide +kernel
theorem dX12_mayTie_38 : decode cX12_mayTie 38 = .ok (.iconst 1, 1) := by decide +kernel
theorem dX12_mayTie_39 : decode cX12_mayTie 39 = .ok (.if_icmp .le 7, 3) := by decide +kernel
theorem dX12_mayTie_42 : decode cX12_mayTie 42 = .ok (.iconst 1, 1) := by decide +kernel
theorem dX12_mayTie_43 : decode cX12_mayTie 43 = .ok (.goto 36, 3) := by decide +kernel
theorem dX12_mayTie_46 : decode cX12_mayTie 46 = .ok (.iconst 0, 1) := by decide +kernel
theorem dX12_mayTie_47 : decode cX12_mayTie 47 = .ok (.goto 32, 3) := by decide +kernel
theorem dX12_mayTie_50 : decode cX12_mayTie 50 = .ok (.aload_n 1, 1) := by decide +kernel
theorem dX12_mayTie_51 : decode cX12_mayTie 51 = .ok (.bipush 8, 2) := by decide +kernel
theorem dX12_mayTie_53 : decode cX12_mayTie 53 = .ok (.iload_n 2, 1) := by decide +kernel
theorem dX12_mayTie_54 : decode cX12_mayTie 54 = .ok (.imul, 1) := by decide +kernel
theorem dX12_mayTie_55 : decode cX12_mayTie 55 = .ok (.iload 4, 2) := by decide +kernel
theorem dX12_mayTie_57 : decode cX12_mayTie 57 = .ok (.iadd, 1) := by decide +kernel
theorem dX12_mayTie_58 : decode cX12_mayTie 58 = .ok (.iaload, 1) := by decide +kernel
theorem dX12_mayTie_59 : decode cX12_mayTie 59 = .ok (.ifCond .le 19, 3) := by decide +kernel
theorem dX12_mayTie_62 : decode cX12_mayTie 62 = .ok (.aload_n 1, 1) := by decide +kernel
theorem dX12_mayTie_63 : decode cX12_mayTie 63 = .ok (.bipush 8, 2) := by decide +kernel
theorem dX12_mayTie_65 : decode cX12_mayTie 65 = .ok (.iload_n 2, 1) := by decide +kernel
theorem dX12_mayTie_66 : decode cX12_mayTie 66 = .ok (.imul, 1) := by decide +kernel
theorem dX12_mayTie_67 : decode cX12_mayTie 67 = .ok (.iload 5, 2) := by decide +kernel
theorem dX12_mayTie_69 : decode cX12_mayTie 69 = .ok (.iadd, 1) := by decide +kernel
theorem dX12_mayTie_70 : decode cX12_mayTie 70 = .ok (.iaload, 1) := by decide +kernel
theorem dX12_mayTie_71 : decode cX12_mayTie 71 = .ok (.ifCond .le 7, 3) := by decide +kernel
theorem dX12_mayTie_74 : decode cX12_mayTie 74 = .ok (.iconst 1, 1) := by decide +kernel
theorem dX12_mayTie_75 : decode cX12_mayTie 75 = .ok (.goto 4, 3) := by decide +kernel
theorem dX12_mayTie_78 : decode cX12_mayTie 78 = .ok (.iconst 0, 1) := by decide +kernel
theorem dX12_mayTie_79 : decode cX12_mayTie 79 = .ok (.ireturn, 1) := by decide +kernel
theorem dX12_ties0_0 : decode cX12_ties0 0 = .ok (.aload_n 1, 1) := by decide +kernel
theorem dX12_ties0_1 : decode cX12_ties0 1 = .ok (.bipush 8, 2) := by decide +kernel
theorem dX12_ties0_3 : decode cX12_ties0 3 = .ok (.iload_n 2, 1) := by decide +kernel
theorem dX12_ties0_4 : decode cX12_ties0 4 = .ok (.imul, 1) := by decide +kernel
theorem dX12_ties0_5 : decode cX12_ties0 5 = .ok (.aload_n 0, 1) := by decide +kernel
theorem dX12_ties0_6 : decode cX12_ties0 6 = .ok (.getfield 32, 3) := by decide +kernel
theorem dX12_ties0_9 : decode cX12_ties0 9 = .ok (.iconst 3, 1) := by decide +kernel
theorem dX12_ties0_10 : decode cX12_ties0 10 = .ok (.iload_n 3, 1) := by decide +kernel
theorem dX12_ties0_11 : decode cX12_ties0 11 = .ok (.imul, 1) := by decide +kernel
theorem dX12_ties0_12 : decode cX12_ties0 12 = .ok (.iaload, 1) := by decide +kernel
theorem dX12_ties0_13 : decode cX12_ties0 13 = .ok (.iadd, 1) := by decide +kernel
theorem dX12_ties0_14 : decode cX12_ties0 14 = .ok (.dup2, 1) := by decide +kernel
theorem dX12_ties0_15 : decode cX12_ties0 15 = .ok (.iaload, 1) := by decide +kernel
theorem dX12_ties0_16 : decode cX12_ties0 16 = .ok (.iconst 1, 1) := by decide +kernel
theorem dX12_ties0_17 : decode cX12_ties0 17 = .ok (.isub, 1) := by decide +kernel
theorem dX12_ties0_18 : decode cX12_ties0 18 = .ok (.iastore, 1) := by decide +kernel
theorem dX12_ties0_19 : decode cX12_ties0 19 = .ok (.aload_n 1, 1) := by decide +kernel
theorem dX12_ties0_20 : decode cX12_ties0 20 = .ok (.bipush 8, 2) := by decide +kernel
theorem dX12_ties0_22 : decode cX12_ties0 22 = .ok (.iload_n 2, 1) := by decide +kernel
theorem dX12_ties0_23 : decode cX12_ties0 23 = .ok (.imul, 1) := by decide +kernel
theorem dX12_ties0_24 : decode cX12_ties0 24 = .ok (.aload_n 0, 1) := by decide +kernel
theorem dX12_ties0_25 : decode cX12_ties0 25 = .ok (.getfield 32, 3) := by decide +kernel
theorem dX12_ties0_28 : decode cX12_ties0 28 = .ok (.iconst 3, 1) := by decide +kernel
theorem dX12_ties0_29 : decode cX12_ties0 29 = .ok (.iload_n 3, 1) := by decide +kernel
theorem dX12_ties0_30 : decode cX12_ties0 30 = .ok (.imul, 1) := by decide +kernel
theorem dX12_ties0_31 : decode cX12_ties0 31 = .ok (.iconst 1, 1) := by decide +kernel
theorem dX12_ties0_32 : decode cX12_ties0 32 = .ok (.iadd, 1) := by decide +kernel
theorem dX12_ties0_33 : decode cX12_ties0 33 = .ok (.iaload, 1) := by decide +kernel
theorem dX12_ties0_34 : decode cX12_ties0 34 = .ok (.iadd, 1) := by decide +kernel
theorem dX12_ties0_35 : decode cX12_ties0 35 = .ok (.dup2, 1) := by decide +kernel
theorem dX12_ties0_36 : decode cX12_ties0 36 = .ok (.iaload, 1) := by decide +kernel
theorem dX12_ties0_37 : decode cX12_ties0 37 = .ok (.iconst 1, 1) := by decide +kernel
theorem dX12_ties0_38 : decode cX12_ties0 38 = .ok (.isub, 1) := by decide +kernel
theorem dX12_ties0_39 : decode cX12_ties0 39 = .ok (.iastore, 1) := by decide +kernel
theorem dX12_ties0_40 : decode cX12_ties0 40 = .ok (.aload_n 1, 1) := by decide +kernel
theorem dX12_ties0_41 : decode cX12_ties0 41 = .ok (.bipush 8, 2) := by decide +kernel
theorem dX12_ties0_43 : decode cX12_ties0 43 = .ok (.iload_n 2, 1) := by decide +kernel
theorem dX12_ties0_44 : decode cX12_ties0 44 = .ok (.imul, 1) := by decide +kernel
theorem dX12_ties0_45 : decode cX12_ties0 45 = .ok (.aload_n 0, 1) := by decide +kernel
theorem dX12_ties0_46 : decode cX12_ties0 46 = .ok (.getfield 32, 3) := by decide +kernel
theorem dX12_ties0_49 : decode cX12_ties0 49 = .ok (.iconst 3, 1) := by decide +kernel
theorem dX12_ties0_50 : decode cX12_ties0 50 = .ok (.iload_n 3, 1) := by decide +kernel
theorem dX12_ties0_51 : decode cX12_ties0 51 = .ok (.imul, 1) := by decide +kernel
theorem dX12_ties0_52 : decode cX12_ties0 52 = .ok (.iconst 2, 1) := by decide +kernel
theorem dX12_ties0_53 : decode cX12_ties0 53 = .ok (.iadd, 1) := by decide +kernel
theorem dX12_ties0_54 : decode cX12_ties0 54 = .ok (.iaload, 1) := by decide +kernel
theorem dX12_ties0_55 : decode cX12_ties0 55 = .ok (.iadd, 1) := by decide +kernel
theorem dX12_ties0_56 : decode cX12_ties0 56 = .ok (.dup2, 1) := by decide +kernel
theorem dX12_ties0_57 : decode cX12_ties0 57 = .ok (.iaload, 1) := by decide +kernel
theorem dX12_ties0_58 : decode cX12_ties0 58 = .ok (.iconst 1, 1) := by decide +kernel
theorem dX12_ties0_59 : decode cX12_ties0 59 = .ok (.iadd, 1) := by decide +kernel
theorem dX12_ties0_60 : decode cX12_ties0 60 = .ok (.iastore, 1) := by decide +kernel
theorem dX12_ties0_61 : decode cX12_ties0 61 = .ok (.return_, 1) := by decide +kernel
theorem dX12_isTrade_0 : decode cX12_isTrade 0 = .ok (.aload_n 0, 1) := by decide +kernel
theorem dX12_isTrade_1 : decode cX12_isTrade 1 = .ok (.iload_n 1, 1) := by decide +kernel
theorem dX12_isTrade_2 : decode cX12_isTrade 2 = .ok (.ifCond .lt 54, 3) := by decide +kernel
theorem dX12_isTrade_5 : decode cX12_isTrade 5 = .ok (.iload_n 1, 1) := by decide +kernel
theorem dX12_isTrade_6 : decode cX12_isTrade 6 = .ok (.aload_n 0, 1) := by decide +kernel
theorem dX12_isTrade_7 : decode cX12_isTrade 7 = .ok (.getfield 316, 3) := by decide +kernel
theorem dX12_isTrade_10 : decode cX12_isTrade 10 = .ok (.if_icmp .ge 46, 3) := by decide +kernel
theorem dX12_isTrade_13 : decode cX12_isTrade 13 = .ok (.iload_n 2, 1) := by decide +kernel
theorem dX12_isTrade_14 : decode cX12_isTrade 14 = .ok (.ifCond .lt 42, 3) := by decide +kernel
theorem dX12_isTrade_17 : decode cX12_isTrade 17 = .ok (.iload_n 2, 1) := by decide +kernel
theorem dX12_isTrade_18 : decode cX12_isTrade 18 = .ok (.aload_n 0, 1) := by decide +kernel
theorem dX12_isTrade_19 : decode cX12_isTrade 19 = .ok (.getfield 316, 3) := by decide +kernel
theorem dX12_isTrade_22 : decode cX12_isTrade 22 = .ok (.if_icmp .ge 34, 3) := by decide +kernel
theorem dX12_isTrade_25 : decode cX12_isTrade 25 = .ok (.iload_n 1, 1) := by decide +kernel
theorem dX12_isTrade_26 : decode cX12_isTrade 26 = .ok (.iload_n 2, 1) := by decide +kernel
theorem dX12_isTrade_27 : decode cX12_isTrade 27 = .ok (.if_icmp .eq 29, 3) := by decide +kernel
theorem dX12_isTrade_30 : decode cX12_isTrade 30 = .ok (.iload 4, 2) := by decide +kernel
theorem dX12_isTrade_32 : decode cX12_isTrade 32 = .ok (.ifCond .lt 24, 3) := by decide +kernel
theorem dX12_isTrade_35 : decode cX12_isTrade 35 = .ok (.iload 4, 2) := by decide +kernel
theorem dX12_isTrade_37 : decode cX12_isTrade 37 = .ok (.aload_n 0, 1) := by decide +kernel
theorem dX12_isTrade_38 : decode cX12_isTrade 38 = .ok (.getfield 7, 3) := by decide +kernel
theorem dX12_isTrade_41 : decode cX12_isTrade 41 = .ok (.if_icmp .ge 15, 3) := by decide +kernel
theorem dX12_isTrade_44 : decode cX12_isTrade 44 = .ok (.aload_n 0, 1) := by decide +kernel
theorem dX12_isTrade_45 : decode cX12_isTrade 45 = .ok (.iload_n 3, 1) := by decide +kernel
theorem dX12_isTrade_46 : decode cX12_isTrade 46 = .ok (.invokevirtual 378, 3) := by decide +kernel
theorem dX12_isTrade_49 : decode cX12_isTrade 49 = .ok (.ifCond .eq 7, 3) := by decide +kernel
theorem dX12_isTrade_52 : decode cX12_isTrade 52 = .ok (.iconst 1, 1) := by decide +kernel
theorem dX12_isTrade_53 : decode cX12_isTrade 53 = .ok (.goto 4, 3) := by decide +kernel
theorem dX12_isTrade_56 : decode cX12_isTrade 56 = .ok (.iconst 0, 1) := by decide +kernel
theorem dX12_isTrade_57 : decode cX12_isTrade 57 = .ok (.iconst 1, 1) := by decide +kernel
theorem dX12_isTrade_58 : decode cX12_isTrade 58 = .ok (.invokevirtual 309, 3) := by decide +kernel
theorem dX12_isTrade_61 : decode cX12_isTrade 61 = .ok (.ireturn, 1) := by decide +kernel
theorem dX12_look_0 : decode cX12_look 0 = .ok (.aload_n 0, 1) := by decide +kernel
theorem dX12_look_1 : decode cX12_look 1 = .ok (.iconst 0, 1) := by decide +kernel
theorem dX12_look_2 : decode cX12_look 2 = .ok (.putfield 184, 3) := by decide +kernel
theorem dX12_look_5 : decode cX12_look 5 = .ok (.aload_n 0, 1) := by decide +kernel
theorem dX12_look_6 : decode cX12_look 6 = .ok (.iload_n 1, 1) := by decide +kernel
theorem dX12_look_7 : decode cX12_look 7 = .ok (.iload_n 2, 1) := by decide +kernel
theorem dX12_look_8 : decode cX12_look 8 = .ok (.iload_n 3, 1) := by decide +kernel
theorem dX12_look_9 : decode cX12_look 9 = .ok (.iload 4, 2) := by decide +kernel
theorem dX12_look_11 : decode cX12_look 11 = .ok (.invokevirtual 381, 3) := by decide +kernel
theorem dX12_look_14 : decode cX12_look 14 = .ok (.ifCond .eq 18, 3) := by decide +kernel
theorem dX12_look_17 : decode cX12_look 17 = .ok (.aload_n 0, 1) := by decide +kernel
theorem dX12_look_18 : decode cX12_look 18 = .ok (.iload 5, 2) := by decide +kernel
theorem dX12_look_20 : decode cX12_look 20 = .ok (.iconst 0, 1) := by decide +kernel
theorem dX12_look_21 : decode cX12_look 21 = .ok (.iconst 3, 1) := by decide +kernel
theorem dX12_look_22 : decode cX12_look 22 = .ok (.invokestatic 354, 3) := by decide +kernel
theorem dX12_look_25 : decode cX12_look 25 = .ok (.iconst 1, 1) := by decide +kernel
theorem dX12_look_26 : decode cX12_look 26 = .ok (.invokevirtual 309, 3) := by decide +kernel
theorem dX12_look_29 : decode cX12_look 29 = .ok (.ifCond .ne 5, 3) := by decide +kernel
theorem dX12_look_32 : decode cX12_look 32 = .ok (.iconst 0, 1) := by decide +kernel
theorem dX12_look_33 : decode cX12_look 33 = .ok (.ireturn, 1) := by decide +kernel
theorem dX12_look_34 : decode cX12_look 34 = .ok (.aload_n 0, 1) := by decide +kernel
theorem dX12_look_35 : decode cX12_look 35 = .ok (.aload_n 0, 1) := by decide +kernel
theorem dX12_look_36 : decode cX12_look 36 = .ok (.getfield 38, 3) := by decide +kernel
theorem dX12_look_39 : decode cX12_look 39 = .ok (.iload_n 1, 1) := by decide +kernel
theorem dX12_look_40 : decode cX12_look 40 = .ok (.iload_n 2, 1) := by decide +kernel
theorem dX12_look_41 : decode cX12_look 41 = .ok (.iload 4, 2) := by decide +kernel
theorem dX12_look_43 : decode cX12_look 43 = .ok (.invokevirtual 385, 3) := by decide +kernel
theorem dX12_look_46 : decode cX12_look 46 = .ok (.istore 6, 2) := by decide +kernel
theorem dX12_look_48 : decode cX12_look 48 = .ok (.iload 5, 2) := by decide +kernel
theorem dX12_look_50 : decode cX12_look 50 = .ok (.ifCond .ne 14, 3) := by decide +kernel
theorem dX12_look_53 : decode cX12_look 53 = .ok (.iload 6, 2) := by decide +kernel
theorem dX12_look_55 : decode cX12_look 55 = .ok (.ifCond .eq 7, 3) := by decide +kernel
theorem dX12_look_58 : decode cX12_look 58 = .ok (.iconst 1, 1) := by decide +kernel
theorem dX12_look_59 : decode cX12_look 59 = .ok (.goto 4, 3) := by decide +kernel
theorem dX12_look_62 : decode cX12_look 62 = .ok (.iconst 0, 1) := by decide +kernel
theorem dX12_look_63 : decode cX12_look 63 = .ok (.ireturn, 1) := by decide +kernel
theorem dX12_look_64 : decode cX12_look 64 = .ok (.aload_n 0, 1) := by decide +kernel
theorem dX12_look_65 : decode cX12_look 65 = .ok (.iload 6, 2) := by decide +kernel
theorem dX12_look_67 : decode cX12_look 67 = .ok (.iconst 2, 1) := by decide +kernel
theorem dX12_look_68 : decode cX12_look 68 = .ok (.invokevirtual 309, 3) := by decide +kernel
theorem dX12_look_71 : decode cX12_look 71 = .ok (.ifCond .ne 5, 3) := by decide +kernel
theorem dX12_look_74 : decode cX12_look 74 = .ok (.iconst 0, 1) := by decide +kernel
theorem dX12_look_75 : decode cX12_look 75 = .ok (.ireturn, 1) := by decide +kernel
theorem dX12_look_76 : decode cX12_look 76 = .ok (.aload_n 0, 1) := by decide +kernel
theorem dX12_look_77 : decode cX12_look 77 = .ok (.aload_n 0, 1) := by decide +kernel
theorem dX12_look_78 : decode cX12_look 78 = .ok (.getfield 38, 3) := by decide +kernel
theorem dX12_look_81 : decode cX12_look 81 = .ok (.aload_n 0, 1) := by decide +kernel
theorem dX12_look_82 : decode cX12_look 82 = .ok (.getfield 84, 3) := by decide +kernel
theorem dX12_look_85 : decode cX12_look 85 = .ok (.invokevirtual 328, 3) := by decide +kernel
theorem dX12_look_88 : decode cX12_look 88 = .ok (.aload_n 0, 1) := by decide +kernel
theorem dX12_look_89 : decode cX12_look 89 = .ok (.aload_n 0, 1) := by decide +kernel
theorem dX12_look_90 : decode cX12_look 90 = .ok (.getfield 84, 3) := by decide +kernel
theorem dX12_look_93 : decode cX12_look 93 = .ok (.iload_n 1, 1) := by decide +kernel
theorem dX12_look_94 : decode cX12_look 94 = .ok (.iload_n 2, 1) := by decide +kernel
theorem dX12_look_95 : decode cX12_look 95 = .ok (.iload 4, 2) := by decide +kernel
theorem dX12_look_97 : decode cX12_look 97 = .ok (.invokevirtual 389, 3) := by decide +kernel
theorem dX12_look_100 : decode cX12_look 100 = .ok (.aload_n 0, 1) := by decide +kernel
theorem dX12_look_101 : decode cX12_look 101 = .ok (.aload_n 0, 1) := by decide +kernel
theorem dX12_look_102 : decode cX12_look 102 = .ok (.getfield 84, 3) := by decide +kernel
theorem dX12_look_105 : decode cX12_look 105 = .ok (.iload_n 1, 1) := by decide +kernel
theorem dX12_look_106 : decode cX12_look 106 = .ok (.invokevirtual 351, 3) := by decide +kernel
theorem dX12_look_109 : decode cX12_look 109 = .ok (.aload_n 0, 1) := by decide +kernel
theorem dX12_look_110 : decode cX12_look 110 = .ok (.aload_n 0, 1) := by decide +kernel
theorem dX12_look_111 : decode cX12_look 111 = .ok (.getfield 38, 3) := by decide +kernel
theorem dX12_look_114 : decode cX12_look 114 = .ok (.iload_n 1, 1) := by decide +kernel
theorem dX12_look_115 : decode cX12_look 115 = .ok (.invokevirtual 351, 3) := by decide +kernel
theorem dX12_look_118 : decode cX12_look 118 = .ok (.isub, 1) := by decide +kernel
theorem dX12_look_119 : decode cX12_look 119 = .ok (.istore 7, 2) := by decide +kernel
theorem dX12_look_121 : decode cX12_look 121 = .ok (.aload_n 0, 1) := by decide +kernel
theorem dX12_look_122 : decode cX12_look 122 = .ok (.aload_n 0, 1) := by decide +kernel
theorem dX12_look_123 : decode cX12_look 123 = .ok (.getfield 84, 3) := by decide +kernel
theorem dX12_look_126 : decode cX12_look 126 = .ok (.iload_n 2, 1) := by decide +kernel
theorem dX12_look_127 : decode cX12_look 127 = .ok (.invokevirtual 351, 3) := by decide +kernel
theorem dX12_look_130 : decode cX12_look 130 = .ok (.aload_n 0, 1) := by decide +kernel
theorem dX12_look_131 : decode cX12_look 131 = .ok (.aload_n 0, 1) := by decide +kernel
theorem dX12_look_132 : decode cX12_look 132 = .ok (.getfield 38, 3) := by decide +kernel
theorem dX12_look_135 : decode cX12_look 135 = .ok (.iload_n 2, 1) := by decide +kernel
theorem dX12_look_136 : decode cX12_look 136 = .ok (.invokevirtual 351, 3) := by decide +kernel
theorem dX12_look_139 : decode cX12_look 139 = .ok (.isub, 1) := by decide +kernel
theorem dX12_look_140 : decode cX12_look 140 = .ok (.istore 8, 2) := by decide +kernel
theorem dX12_look_142 : decode cX12_look 142 = .ok (.iload 5, 2) := by decide +kernel
theorem dX12_look_144 : decode cX12_look 144 = .ok (.iconst 1, 1) := by decide +kernel
theorem dX12_look_145 : decode cX12_look 145 = .ok (.if_icmp .ne 8, 3) := by decide +kernel
theorem dX12_look_148 : decode cX12_look 148 = .ok (.iload 7, 2) := by decide +kernel
theorem dX12_look_150 : decode cX12_look 150 = .ok (.goto 33, 3) := by decide +kernel
theorem dX12_look_153 : decode cX12_look 153 = .ok (.iload 5, 2) := by decide +kernel
theorem dX12_look_155 : decode cX12_look 155 = .ok (.iconst 2, 1) := by decide +kernel
theorem dX12_look_156 : decode cX12_look 156 = .ok (.if_icmp .ne 8, 3) := by decide +kernel
theorem dX12_look_159 : decode cX12_look 159 = .ok (.iload 8, 2) := by decide +kernel
theorem dX12_look_161 : decode cX12_look 161 = .ok (.goto 22, 3) := by decide +kernel
theorem dX12_look_164 : decode cX12_look 164 = .ok (.iload 7, 2) := by decide +kernel
theorem dX12_look_166 : decode cX12_look 166 = .ok (.ifCond .le 16, 3) := by decide +kernel
theorem dX12_look_169 : decode cX12_look 169 = .ok (.iload 8, 2) := by decide +kernel
theorem dX12_look_171 : decode cX12_look 171 = .ok (.ifCond .le 11, 3) := by decide +kernel
theorem dX12_look_174 : decode cX12_look 174 = .ok (.iload 7, 2) := by decide +kernel
theorem dX12_look_176 : decode cX12_look 176 = .ok (.iload 8, 2) := by decide +kernel
theorem dX12_look_178 : decode cX12_look 178 = .ok (.iadd, 1) := by decide +kernel
theorem dX12_look_179 : decode cX12_look 179 = .ok (.goto 4, 3) := by decide +kernel
theorem dX12_look_182 : decode cX12_look 182 = .ok (.iconst 0, 1) := by decide +kernel
theorem dX12_look_183 : decode cX12_look 183 = .ok (.ireturn, 1) := by decide +kernel
theorem dX12_trade_0 : decode cX12_trade 0 = .ok (.aload_n 0, 1) := by decide +kernel
theorem dX12_trade_1 : decode cX12_trade 1 = .ok (.iconst 0, 1) := by decide +kernel
theorem dX12_trade_2 : decode cX12_trade 2 = .ok (.putfield 184, 3) := by decide +kernel
theorem dX12_trade_5 : decode cX12_trade 5 = .ok (.aload_n 0, 1) := by decide +kernel
theorem dX12_trade_6 : decode cX12_trade 6 = .ok (.iload_n 1, 1) := by decide +kernel
theorem dX12_trade_7 : decode cX12_trade 7 = .ok (.iload_n 2, 1) := by decide +kernel
theorem dX12_trade_8 : decode cX12_trade 8 = .ok (.iload_n 3, 1) := by decide +kernel
theorem dX12_trade_9 : decode cX12_trade 9 = .ok (.iload 4, 2) := by decide +kernel
theorem dX12_trade_11 : decode cX12_trade 11 = .ok (.invokevirtual 381, 3) := by decide +kernel
theorem dX12_trade_14 : decode cX12_trade 14 = .ok (.ifCond .ne 5, 3) := by decide +kernel
theorem dX12_trade_17 : decode cX12_trade 17 = .ok (.iconst 0, 1) := by decide +kernel
theorem dX12_trade_18 : decode cX12_trade 18 = .ok (.ireturn, 1) := by decide +kernel
theorem dX12_trade_19 : decode cX12_trade 19 = .ok (.aload_n 0, 1) := by decide +kernel
theorem dX12_trade_20 : decode cX12_trade 20 = .ok (.aload_n 0, 1) := by decide +kernel
theorem dX12_trade_21 : decode cX12_trade 21 = .ok (.getfield 38, 3) := by decide +kernel
theorem dX12_trade_24 : decode cX12_trade 24 = .ok (.iload_n 1, 1) := by decide +kernel
theorem dX12_trade_25 : decode cX12_trade 25 = .ok (.iload_n 2, 1) := by decide +kernel
theorem dX12_trade_26 : decode cX12_trade 26 = .ok (.iload 4, 2) := by decide +kernel
theorem dX12_trade_28 : decode cX12_trade 28 = .ok (.invokevirtual 385, 3) := by decide +kernel
theorem dX12_trade_31 : decode cX12_trade 31 = .ok (.ifCond .ne 15, 3) := by decide +kernel
theorem dX12_trade_34 : decode cX12_trade 34 = .ok (.aload_n 0, 1) := by decide +kernel
theorem dX12_trade_35 : decode cX12_trade 35 = .ok (.getfield 41, 3) := by decide +kernel
theorem dX12_trade_38 : decode cX12_trade 38 = .ok (.iconst 1, 1) := by decide +kernel
theorem dX12_trade_39 : decode cX12_trade 39 = .ok (.dup2, 1) := by decide +kernel
theorem dX12_trade_40 : decode cX12_trade 40 = .ok (.iaload, 1) := by decide +kernel
theorem dX12_trade_41 : decode cX12_trade 41 = .ok (.iconst 1, 1) := by decide +kernel
theorem dX12_trade_42 : decode cX12_trade 42 = .ok (.iadd, 1) := by decide +kernel
theorem dX12_trade_43 : decode cX12_trade 43 = .ok (.iastore, 1) := by decide +kernel
theorem dX12_trade_44 : decode cX12_trade 44 = .ok (.iconst 0, 1) := by decide +kernel
theorem dX12_trade_45 : decode cX12_trade 45 = .ok (.ireturn, 1) := by decide +kernel
theorem dX12_trade_46 : decode cX12_trade 46 = .ok (.aload_n 0, 1) := by decide +kernel
theorem dX12_trade_47 : decode cX12_trade 47 = .ok (.aload_n 0, 1) := by decide +kernel
theorem dX12_trade_48 : decode cX12_trade 48 = .ok (.getfield 38, 3) := by decide +kernel
theorem dX12_trade_51 : decode cX12_trade 51 = .ok (.iload_n 1, 1) := by decide +kernel
theorem dX12_trade_52 : decode cX12_trade 52 = .ok (.iload_n 2, 1) := by decide +kernel
theorem dX12_trade_53 : decode cX12_trade 53 = .ok (.iload 4, 2) := by decide +kernel
theorem dX12_trade_55 : decode cX12_trade 55 = .ok (.invokevirtual 389, 3) := by decide +kernel
theorem dX12_trade_58 : decode cX12_trade 58 = .ok (.iconst 1, 1) := by decide +kernel
theorem dX12_trade_59 : decode cX12_trade 59 = .ok (.ireturn, 1) := by decide +kernel
theorem dX12_tie_0 : decode cX12_tie 0 = .ok (.aload_n 0, 1) := by decide +kernel
theorem dX12_tie_1 : decode cX12_tie 1 = .ok (.iconst 0, 1) := by decide +kernel
theorem dX12_tie_2 : decode cX12_tie 2 = .ok (.putfield 184, 3) := by decide +kernel
theorem dX12_tie_5 : decode cX12_tie 5 = .ok (.aload_n 0, 1) := by decide +kernel
theorem dX12_tie_6 : decode cX12_tie 6 = .ok (.iload_n 1, 1) := by decide +kernel
theorem dX12_tie_7 : decode cX12_tie 7 = .ok (.invokevirtual 362, 3) := by decide +kernel
theorem dX12_tie_10 : decode cX12_tie 10 = .ok (.ifCond .eq 28, 3) := by decide +kernel
theorem dX12_tie_13 : decode cX12_tie 13 = .ok (.aload_n 0, 1) := by decide +kernel
theorem dX12_tie_14 : decode cX12_tie 14 = .ok (.iload_n 2, 1) := by decide +kernel
theorem dX12_tie_15 : decode cX12_tie 15 = .ok (.ifCond .lt 15, 3) := by decide +kernel
theorem dX12_tie_18 : decode cX12_tie 18 = .ok (.iload_n 2, 1) := by decide +kernel
theorem dX12_tie_19 : decode cX12_tie 19 = .ok (.aload_n 0, 1) := by decide +kernel
theorem dX12_tie_20 : decode cX12_tie 20 = .ok (.getfield 319, 3) := by decide +kernel
theorem dX12_tie_23 : decode cX12_tie 23 = .ok (.if_icmp .ge 7, 3) := by decide +kernel
theorem dX12_tie_26 : decode cX12_tie 26 = .ok (.iconst 1, 1) := by decide +kernel
theorem dX12_tie_27 : decode cX12_tie 27 = .ok (.goto 4, 3) := by decide +kernel
theorem dX12_tie_30 : decode cX12_tie 30 = .ok (.iconst 0, 1) := by decide +kernel
theorem dX12_tie_31 : decode cX12_tie 31 = .ok (.iconst 1, 1) := by decide +kernel
theorem dX12_tie_32 : decode cX12_tie 32 = .ok (.invokevirtual 309, 3) := by decide +kernel
theorem dX12_tie_35 : decode cX12_tie 35 = .ok (.ifCond .ne 5, 3) := by decide +kernel
theorem dX12_tie_38 : decode cX12_tie 38 = .ok (.iconst 0, 1) := by decide +kernel
theorem dX12_tie_39 : decode cX12_tie 39 = .ok (.ireturn, 1) := by decide +kernel
theorem dX12_tie_40 : decode cX12_tie 40 = .ok (.aload_n 0, 1) := by decide +kernel
theorem dX12_tie_41 : decode cX12_tie 41 = .ok (.aload_n 0, 1) := by decide +kernel
theorem dX12_tie_42 : decode cX12_tie 42 = .ok (.getfield 38, 3) := by decide +kernel
theorem dX12_tie_45 : decode cX12_tie 45 = .ok (.iload_n 1, 1) := by decide +kernel
theorem dX12_tie_46 : decode cX12_tie 46 = .ok (.iload_n 2, 1) := by decide +kernel
theorem dX12_tie_47 : decode cX12_tie 47 = .ok (.invokevirtual 393, 3) := by decide +kernel
theorem dX12_tie_50 : decode cX12_tie 50 = .ok (.ifCond .ne 15, 3) := by decide +kernel
theorem dX12_tie_53 : decode cX12_tie 53 = .ok (.aload_n 0, 1) := by decide +kernel
theorem dX12_tie_54 : decode cX12_tie 54 = .ok (.getfield 41, 3) := by decide +kernel
theorem dX12_tie_57 : decode cX12_tie 57 = .ok (.iconst 2, 1) := by decide +kernel
theorem dX12_tie_58 : decode cX12_tie 58 = .ok (.dup2, 1) := by decide +kernel
theorem dX12_tie_59 : decode cX12_tie 59 = .ok (.iaload, 1) := by decide +kernel
theorem dX12_tie_60 : decode cX12_tie 60 = .ok (.iconst 1, 1) := by decide +kernel
theorem dX12_tie_61 : decode cX12_tie 61 = .ok (.iadd, 1) := by decide +kernel
theorem dX12_tie_62 : decode cX12_tie 62 = .ok (.iastore, 1) := by decide +kernel
theorem dX12_tie_63 : decode cX12_tie 63 = .ok (.iconst 0, 1) := by decide +kernel
theorem dX12_tie_64 : decode cX12_tie 64 = .ok (.ireturn, 1) := by decide +kernel
theorem dX12_tie_65 : decode cX12_tie 65 = .ok (.aload_n 0, 1) := by decide +kernel
theorem dX12_tie_66 : decode cX12_tie 66 = .ok (.aload_n 0, 1) := by decide +kernel
theorem dX12_tie_67 : decode cX12_tie 67 = .ok (.getfield 38, 3) := by decide +kernel
theorem dX12_tie_70 : decode cX12_tie 70 = .ok (.iload_n 1, 1) := by decide +kernel
theorem dX12_tie_71 : decode cX12_tie 71 = .ok (.iload_n 2, 1) := by decide +kernel
theorem dX12_tie_72 : decode cX12_tie 72 = .ok (.invokevirtual 397, 3) := by decide +kernel
theorem dX12_tie_75 : decode cX12_tie 75 = .ok (.iconst 1, 1) := by decide +kernel
theorem dX12_tie_76 : decode cX12_tie 76 = .ok (.ireturn, 1) := by decide +kernel
theorem dX12_mixOf_0 : decode cX12_mixOf 0 = .ok (.iconst 0, 1) := by decide +kernel
theorem dX12_mixOf_1 : decode cX12_mixOf 1 = .ok (.istore_n 1, 1) := by decide +kernel
theorem dX12_mixOf_2 : decode cX12_mixOf 2 = .ok (.iconst 0, 1) := by decide +kernel
theorem dX12_mixOf_3 : decode cX12_mixOf 3 = .ok (.istore_n 2, 1) := by decide +kernel
theorem dX12_mixOf_4 : decode cX12_mixOf 4 = .ok (.iload_n 2, 1) := by decide +kernel
theorem dX12_mixOf_5 : decode cX12_mixOf 5 = .ok (.bipush 48, 2) := by decide +kernel
theorem dX12_mixOf_7 : decode cX12_mixOf 7 = .ok (.if_icmp .ge 18, 3) := by decide +kernel
theorem dX12_mixOf_10 : decode cX12_mixOf 10 = .ok (.iload_n 1, 1) := by decide +kernel
theorem dX12_mixOf_11 : decode cX12_mixOf 11 = .ok (.bipush 31, 2) := by decide +kernel
theorem dX12_mixOf_13 : decode cX12_mixOf 13 = .ok (.imul, 1) := by decide +kernel
theorem dX12_mixOf_14 : decode cX12_mixOf 14 = .ok (.aload_n 0, 1) := by decide +kernel
theorem dX12_mixOf_15 : decode cX12_mixOf 15 = .ok (.iload_n 2, 1) := by decide +kernel
theorem dX12_mixOf_16 : decode cX12_mixOf 16 = .ok (.iaload, 1) := by decide +kernel
theorem dX12_mixOf_17 : decode cX12_mixOf 17 = .ok (.iadd, 1) := by decide +kernel
theorem dX12_mixOf_18 : decode cX12_mixOf 18 = .ok (.istore_n 1, 1) := by decide +kernel
theorem dX12_mixOf_19 : decode cX12_mixOf 19 = .ok (.iinc 2 1, 3) := by decide +kernel
theorem dX12_mixOf_22 : decode cX12_mixOf 22 = .ok (.goto (-18), 3) := by decide +kernel
theorem dX12_mixOf_25 : decode cX12_mixOf 25 = .ok (.iload_n 1, 1) := by decide +kernel
theorem dX12_mixOf_26 : decode cX12_mixOf 26 = .ok (.ireturn, 1) := by decide +kernel
theorem dX12_isKnown_0 : decode cX12_isKnown 0 = .ok (.iconst 0, 1) := by decide +kernel
theorem dX12_isKnown_1 : decode cX12_isKnown 1 = .ok (.istore_n 3, 1) := by decide +kernel
theorem dX12_isKnown_2 : decode cX12_isKnown 2 = .ok (.iload_n 3, 1) := by decide +kernel
theorem dX12_isKnown_3 : decode cX12_isKnown 3 = .ok (.aload_n 0, 1) := by decide +kernel
theorem dX12_isKnown_4 : decode cX12_isKnown 4 = .ok (.getfield 401, 3) := by decide +kernel
theorem dX12_isKnown_7 : decode cX12_isKnown 7 = .ok (.if_icmp .ge 79, 3) := by decide +kernel
theorem dX12_isKnown_10 : decode cX12_isKnown 10 = .ok (.aload_n 0, 1) := by decide +kernel
theorem dX12_isKnown_11 : decode cX12_isKnown 11 = .ok (.getfield 91, 3) := by decide +kernel
theorem dX12_isKnown_14 : decode cX12_isKnown 14 = .ok (.iload_n 3, 1) := by decide +kernel
theorem dX12_isKnown_15 : decode cX12_isKnown 15 = .ok (.iaload, 1) := by decide +kernel
theorem dX12_isKnown_16 : decode cX12_isKnown 16 = .ok (.iload_n 2, 1) := by decide +kernel
theorem dX12_isKnown_17 : decode cX12_isKnown 17 = .ok (.if_icmp .eq 6, 3) := by decide +kernel
theorem dX12_isKnown_20 : decode cX12_isKnown 20 = .ok (.goto 60, 3) := by decide +kernel
theorem dX12_isKnown_23 : decode cX12_isKnown 23 = .ok (.iconst 1, 1) := by decide +kernel
theorem dX12_isKnown_24 : decode cX12_isKnown 24 = .ok (.istore 4, 2) := by decide +kernel
theorem dX12_isKnown_26 : decode cX12_isKnown 26 = .ok (.iconst 0, 1) := by decide +kernel
theorem dX12_isKnown_27 : decode cX12_isKnown 27 = .ok (.istore 5, 2) := by decide +kernel
theorem dX12_isKnown_29 : decode cX12_isKnown 29 = .ok (.iload 5, 2) := by decide +kernel
theorem dX12_isKnown_31 : decode cX12_isKnown 31 = .ok (.bipush 48, 2) := by decide +kernel
theorem dX12_isKnown_33 : decode cX12_isKnown 33 = .ok (.if_icmp .ge 40, 3) := by decide +kernel
theorem dX12_isKnown_36 : decode cX12_isKnown 36 = .ok (.iload 4, 2) := by decide +kernel
theorem dX12_isKnown_38 : decode cX12_isKnown 38 = .ok (.ifCond .eq 35, 3) := by decide +kernel
theorem dX12_isKnown_41 : decode cX12_isKnown 41 = .ok (.aload_n 0, 1) := by decide +kernel
theorem dX12_isKnown_42 : decode cX12_isKnown 42 = .ok (.getfield 88, 3) := by decide +kernel
theorem dX12_isKnown_45 : decode cX12_isKnown 45 = .ok (.bipush 48, 2) := by decide +kernel
theorem dX12_isKnown_47 : decode cX12_isKnown 47 = .ok (.iload_n 3, 1) := by decide +kernel
theorem dX12_isKnown_48 : decode cX12_isKnown 48 = .ok (.imul, 1) := by decide +kernel
theorem dX12_isKnown_49 : decode cX12_isKnown 49 = .ok (.iload 5, 2) := by decide +kernel
theorem dX12_isKnown_51 : decode cX12_isKnown 51 = .ok (.iadd, 1) := by decide +kernel
theorem dX12_isKnown_52 : decode cX12_isKnown 52 = .ok (.iaload, 1) := by decide +kernel
theorem dX12_isKnown_53 : decode cX12_isKnown 53 = .ok (.aload_n 1, 1) := by decide +kernel
theorem dX12_isKnown_54 : decode cX12_isKnown 54 = .ok (.iload 5, 2) := by decide +kernel
theorem dX12_isKnown_56 : decode cX12_isKnown 56 = .ok (.iaload, 1) := by decide +kernel
theorem dX12_isKnown_57 : decode cX12_isKnown 57 = .ok (.if_icmp .ne 7, 3) := by decide +kernel
theorem dX12_isKnown_60 : decode cX12_isKnown 60 = .ok (.iconst 1, 1) := by decide +kernel
theorem dX12_isKnown_61 : decode cX12_isKnown 61 = .ok (.goto 4, 3) := by decide +kernel
theorem dX12_isKnown_64 : decode cX12_isKnown 64 = .ok (.iconst 0, 1) := by decide +kernel
theorem dX12_isKnown_65 : decode cX12_isKnown 65 = .ok (.istore 4, 2) := by decide +kernel
theorem dX12_isKnown_67 : decode cX12_isKnown 67 = .ok (.iinc 5 1, 3) := by decide +kernel
theorem dX12_isKnown_70 : decode cX12_isKnown 70 = .ok (.goto (-41), 3) := by decide +kernel
theorem dX12_isKnown_73 : decode cX12_isKnown 73 = .ok (.iload 4, 2) := by decide +kernel
theorem dX12_isKnown_75 : decode cX12_isKnown 75 = .ok (.ifCond .eq 5, 3) := by decide +kernel
theorem dX12_isKnown_78 : decode cX12_isKnown 78 = .ok (.iconst 1, 1) := by decide +kernel
theorem dX12_isKnown_79 : decode cX12_isKnown 79 = .ok (.ireturn, 1) := by decide +kernel
theorem dX12_isKnown_80 : decode cX12_isKnown 80 = .ok (.iinc 3 1, 3) := by decide +kernel
theorem dX12_isKnown_83 : decode cX12_isKnown 83 = .ok (.goto (-81), 3) := by decide +kernel
theorem dX12_isKnown_86 : decode cX12_isKnown 86 = .ok (.iconst 0, 1) := by decide +kernel
theorem dX12_isKnown_87 : decode cX12_isKnown 87 = .ok (.ireturn, 1) := by decide +kernel
theorem dX12_lays0_0 : decode cX12_lays0 0 = .ok (.iconst 0, 1) := by decide +kernel
theorem dX12_lays0_1 : decode cX12_lays0 1 = .ok (.istore 8, 2) := by decide +kernel
theorem dX12_lays0_3 : decode cX12_lays0 3 = .ok (.iload 8, 2) := by decide +kernel
theorem dX12_lays0_5 : decode cX12_lays0 5 = .ok (.bipush 48, 2) := by decide +kernel
theorem dX12_lays0_7 : decode cX12_lays0 7 = .ok (.if_icmp .ge 28, 3) := by decide +kernel
theorem dX12_lays0_10 : decode cX12_lays0 10 = .ok (.aload_n 0, 1) := by decide +kernel
theorem dX12_lays0_11 : decode cX12_lays0 11 = .ok (.getfield 88, 3) := by decide +kernel
theorem dX12_lays0_14 : decode cX12_lays0 14 = .ok (.bipush 48, 2) := by decide +kernel
theorem dX12_lays0_16 : decode cX12_lays0 16 = .ok (.aload_n 0, 1) := by decide +kernel
theorem dX12_lays0_17 : decode cX12_lays0 17 = .ok (.getfield 401, 3) := by decide +kernel
theorem dX12_lays0_20 : decode cX12_lays0 20 = .ok (.imul, 1) := by decide +kernel
theorem dX12_lays0_21 : decode cX12_lays0 21 = .ok (.iload 8, 2) := by decide +kernel
theorem dX12_lays0_23 : decode cX12_lays0 23 = .ok (.iadd, 1) := by decide +kernel
theorem dX12_lays0_24 : decode cX12_lays0 24 = .ok (.aload_n 1, 1) := by decide +kernel
theorem dX12_lays0_25 : decode cX12_lays0 25 = .ok (.iload 8, 2) := by decide +kernel
theorem dX12_lays0_27 : decode cX12_lays0 27 = .ok (.iaload, 1) := by decide +kernel
theorem dX12_lays0_28 : decode cX12_lays0 28 = .ok (.iastore, 1) := by decide +kernel
theorem dX12_lays0_29 : decode cX12_lays0 29 = .ok (.iinc 8 1, 3) := by decide +kernel
theorem dX12_lays0_32 : decode cX12_lays0 32 = .ok (.goto (-29), 3) := by decide +kernel
theorem dX12_lays0_35 : decode cX12_lays0 35 = .ok (.aload_n 0, 1) := by decide +kernel
theorem dX12_lays0_36 : decode cX12_lays0 36 = .ok (.getfield 91, 3) := by decide +kernel
theorem dX12_lays0_39 : decode cX12_lays0 39 = .ok (.aload_n 0, 1) := by decide +kernel
theorem dX12_lays0_40 : decode cX12_lays0 40 = .ok (.getfield 401, 3) := by decide +kernel
theorem dX12_lays0_43 : decode cX12_lays0 43 = .ok (.iload_n 2, 1) := by decide +kernel
theorem dX12_lays0_44 : decode cX12_lays0 44 = .ok (.iastore, 1) := by decide +kernel
theorem dX12_lays0_45 : decode cX12_lays0 45 = .ok (.aload_n 0, 1) := by decide +kernel
theorem dX12_lays0_46 : decode cX12_lays0 46 = .ok (.getfield 94, 3) := by decide +kernel
theorem dX12_lays0_49 : decode cX12_lays0 49 = .ok (.aload_n 0, 1) := by decide +kernel
theorem dX12_lays0_50 : decode cX12_lays0 50 = .ok (.getfield 401, 3) := by decide +kernel
theorem dX12_lays0_53 : decode cX12_lays0 53 = .ok (.iload_n 3, 1) := by decide +kernel
theorem dX12_lays0_54 : decode cX12_lays0 54 = .ok (.iastore, 1) := by decide +kernel
theorem dX12_lays0_55 : decode cX12_lays0 55 = .ok (.aload_n 0, 1) := by decide +kernel
theorem dX12_lays0_56 : decode cX12_lays0 56 = .ok (.getfield 97, 3) := by decide +kernel
theorem dX12_lays0_59 : decode cX12_lays0 59 = .ok (.aload_n 0, 1) := by decide +kernel
theorem dX12_lays0_60 : decode cX12_lays0 60 = .ok (.getfield 401, 3) := by decide +kernel
theorem dX12_lays0_63 : decode cX12_lays0 63 = .ok (.iload 4, 2) := by decide +kernel
theorem dX12_lays0_65 : decode cX12_lays0 65 = .ok (.iastore, 1) := by decide +kernel
theorem dX12_lays0_66 : decode cX12_lays0 66 = .ok (.aload_n 0, 1) := by decide +kernel
theorem dX12_lays0_67 : decode cX12_lays0 67 = .ok (.getfield 100, 3) := by decide +kernel
theorem dX12_lays0_70 : decode cX12_lays0 70 = .ok (.aload_n 0, 1) := by decide +kernel
theorem dX12_lays0_71 : decode cX12_lays0 71 = .ok (.getfield 401, 3) := by decide +kernel
theorem dX12_lays0_74 : decode cX12_lays0 74 = .ok (.iload 5, 2) := by decide +kernel
theorem dX12_lays0_76 : decode cX12_lays0 76 = .ok (.iastore, 1) := by decide +kernel
theorem dX12_lays0_77 : decode cX12_lays0 77 = .ok (.aload_n 0, 1) := by decide +kernel
theorem dX12_lays0_78 : decode cX12_lays0 78 = .ok (.getfield 103, 3) := by decide +kernel
theorem dX12_lays0_81 : decode cX12_lays0 81 = .ok (.aload_n 0, 1) := by decide +kernel
theorem dX12_lays0_82 : decode cX12_lays0 82 = .ok (.getfield 401, 3) := by decide +kernel
theorem dX12_lays0_85 : decode cX12_lays0 85 = .ok (.iload 6, 2) := by decide +kernel
theorem dX12_lays0_87 : decode cX12_lays0 87 = .ok (.iastore, 1) := by decide +kernel
theorem dX12_lays0_88 : decode cX12_lays0 88 = .ok (.aload_n 0, 1) := by decide +kernel
theorem dX12_lays0_89 : decode cX12_lays0 89 = .ok (.getfield 106, 3) := by decide +kernel
theorem dX12_lays0_92 : decode cX12_lays0 92 = .ok (.aload_n 0, 1) := by decide +kernel
theorem dX12_lays0_93 : decode cX12_lays0 93 = .ok (.getfield 401, 3) := by decide +kernel
theorem dX12_lays0_96 : decode cX12_lays0 96 = .ok (.iload 7, 2) := by decide +kernel
theorem dX12_lays0_98 : decode cX12_lays0 98 = .ok (.iastore, 1) := by decide +kernel
theorem dX12_lays0_99 : decode cX12_lays0 99 = .ok (.aload_n 0, 1) := by decide +kernel
theorem dX12_lays0_100 : decode cX12_lays0 100 = .ok (.dup, 1) := by decide +kernel
theorem dX12_lays0_101 : decode cX12_lays0 101 = .ok (.getfield 401, 3) := by decide +kernel
theorem dX12_lays0_104 : decode cX12_lays0 104 = .ok (.iconst 1, 1) := by decide +kernel
theorem dX12_lays0_105 : decode cX12_lays0 105 = .ok (.iadd, 1) := by decide +kernel
theorem dX12_lays0_106 : decode cX12_lays0 106 = .ok (.putfield 401, 3) := by decide +kernel
theorem dX12_lays0_109 : decode cX12_lays0 109 = .ok (.return_, 1) := by decide +kernel
theorem dX12_meets_0 : decode cX12_meets 0 = .ok (.aload_n 0, 1) := by decide +kernel
theorem dX12_meets_1 : decode cX12_meets 1 = .ok (.getfield 84, 3) := by decide +kernel
theorem dX12_meets_4 : decode cX12_meets 4 = .ok (.invokestatic 404, 3) := by decide +kernel
theorem dX12_meets_7 : decode cX12_meets 7 = .ok (.istore 6, 2) := by decide +kernel
theorem dX12_meets_9 : decode cX12_meets 9 = .ok (.aload_n 0, 1) := by decide +kernel
theorem dX12_meets_10 : decode cX12_meets 10 = .ok (.aload_n 0, 1) := by decide +kernel
theorem dX12_meets_11 : decode cX12_meets 11 = .ok (.getfield 84, 3) := by decide +kernel
theorem dX12_meets_14 : decode cX12_meets 14 = .ok (.iload 6, 2) := by decide +kernel
theorem dX12_meets_16 : decode cX12_meets 16 = .ok (.invokevirtual 407, 3) := by decide +kernel
theorem dX12_meets_19 : decode cX12_meets 19 = .ok (.ifCond .eq 4, 3) := by decide +kernel
theorem dX12_meets_22 : decode cX12_meets 22 = .ok (.return_, 1) := by decide +kernel
theorem dX12_meets_23 : decode cX12_meets 23 = .ok (.aload_n 0, 1) := by decide +kernel
theorem dX12_meets_24 : decode cX12_meets 24 = .ok (.getfield 401, 3) := by decide +kernel
theorem dX12_meets_27 : decode cX12_meets 27 = .ok (.aload_n 0, 1) := by decide +kernel
theorem dX12_meets_28 : decode cX12_meets 28 = .ok (.getfield 411, 3) := by decide +kernel
theorem dX12_meets_31 : decode cX12_meets 31 = .ok (.if_icmp .ne 9, 3) := by decide +kernel
theorem dX12_meets_34 : decode cX12_meets 34 = .ok (.aload_n 0, 1) := by decide +kernel
theorem dX12_meets_35 : decode cX12_meets 35 = .ok (.iconst 1, 1) := by decide +kernel
theorem dX12_meets_36 : decode cX12_meets 36 = .ok (.putfield 414, 3) := by decide +kernel
theorem dX12_meets_39 : decode cX12_meets 39 = .ok (.return_, 1) := by decide +kernel
theorem dX12_meets_40 : decode cX12_meets 40 = .ok (.aload_n 0, 1) := by decide +kernel
theorem dX12_meets_41 : decode cX12_meets 41 = .ok (.aload_n 0, 1) := by decide +kernel
theorem dX12_meets_42 : decode cX12_meets 42 = .ok (.getfield 84, 3) := by decide +kernel
theorem dX12_meets_45 : decode cX12_meets 45 = .ok (.iload 6, 2) := by decide +kernel
theorem dX12_meets_47 : decode cX12_meets 47 = .ok (.iload_n 1, 1) := by decide +kernel
theorem dX12_meets_48 : decode cX12_meets 48 = .ok (.iload_n 2, 1) := by decide +kernel
theorem dX12_meets_49 : decode cX12_meets 49 = .ok (.iload_n 3, 1) := by decide +kernel
theorem dX12_meets_50 : decode cX12_meets 50 = .ok (.iload 4, 2) := by decide +kernel
theorem dX12_meets_52 : decode cX12_meets 52 = .ok (.iload 5, 2) := by decide +kernel
theorem dX12_meets_54 : decode cX12_meets 54 = .ok (.invokevirtual 417, 3) := by decide +kernel
theorem dX12_meets_57 : decode cX12_meets 57 = .ok (.aload_n 0, 1) := by decide +kernel
theorem dX12_meets_58 : decode cX12_meets 58 = .ok (.getfield 421, 3) := by decide +kernel
theorem dX12_meets_61 : decode cX12_meets 61 = .ok (.iconst (-1), 1) := by decide +kernel
theorem dX12_meets_62 : decode cX12_meets 62 = .ok (.if_icmp .eq 33, 3) := by decide +kernel
theorem dX12_meets_65 : decode cX12_meets 65 = .ok (.aload_n 0, 1) := by decide +kernel
theorem dX12_meets_66 : decode cX12_meets 66 = .ok (.getfield 84, 3) := by decide +kernel
theorem dX12_meets_69 : decode cX12_meets 69 = .ok (.bipush 8, 2) := by decide +kernel
theorem dX12_meets_71 : decode cX12_meets 71 = .ok (.aload_n 0, 1) := by decide +kernel
theorem dX12_meets_72 : decode cX12_meets 72 = .ok (.getfield 421, 3) := by decide +kernel
theorem dX12_meets_75 : decode cX12_meets 75 = .ok (.imul, 1) := by decide +kernel
theorem dX12_meets_76 : decode cX12_meets 76 = .ok (.aload_n 0, 1) := by decide +kernel
theorem dX12_meets_77 : decode cX12_meets 77 = .ok (.getfield 424, 3) := by decide +kernel
theorem dX12_meets_80 : decode cX12_meets 80 = .ok (.iadd, 1) := by decide +kernel
theorem dX12_meets_81 : decode cX12_meets 81 = .ok (.iaload, 1) := by decide +kernel
theorem dX12_meets_82 : decode cX12_meets 82 = .ok (.ifCond .le 13, 3) := by decide +kernel
theorem dX12_meets_85 : decode cX12_meets 85 = .ok (.aload_n 0, 1) := by decide +kernel
theorem dX12_meets_86 : decode cX12_meets 86 = .ok (.aload_n 0, 1) := by decide +kernel
theorem dX12_meets_87 : decode cX12_meets 87 = .ok (.getfield 401, 3) := by decide +kernel
theorem dX12_meets_90 : decode cX12_meets 90 = .ok (.iconst 1, 1) := by decide +kernel
theorem dX12_meets_91 : decode cX12_meets 91 = .ok (.isub, 1) := by decide +kernel
theorem dX12_meets_92 : decode cX12_meets 92 = .ok (.putfield 427, 3) := by decide +kernel
theorem dX12_meets_95 : decode cX12_meets 95 = .ok (.return_, 1) := by decide +kernel
theorem dX12_isOver_0 : decode cX12_isOver 0 = .ok (.aload_n 0, 1) := by decide +kernel
theorem dX12_isOver_1 : decode cX12_isOver 1 = .ok (.getfield 414, 3) := by decide +kernel
theorem dX12_isOver_4 : decode cX12_isOver 4 = .ok (.ifCond .ne 11, 3) := by decide +kernel
theorem dX12_isOver_7 : decode cX12_isOver 7 = .ok (.aload_n 0, 1) := by decide +kernel
theorem dX12_isOver_8 : decode cX12_isOver 8 = .ok (.getfield 427, 3) := by decide +kernel
theorem dX12_isOver_11 : decode cX12_isOver 11 = .ok (.iconst (-1), 1) := by decide +kernel
theorem dX12_isOver_12 : decode cX12_isOver 12 = .ok (.if_icmp .eq 7, 3) := by decide +kernel
theorem dX12_isOver_15 : decode cX12_isOver 15 = .ok (.iconst 1, 1) := by decide +kernel
theorem dX12_isOver_16 : decode cX12_isOver 16 = .ok (.goto 4, 3) := by decide +kernel
theorem dX12_isOver_19 : decode cX12_isOver 19 = .ok (.iconst 0, 1) := by decide +kernel
theorem dX12_isOver_20 : decode cX12_isOver 20 = .ok (.ireturn, 1) := by decide +kernel
theorem dX12_tradesOf_0 : decode cX12_tradesOf 0 = .ok (.aload_n 0, 1) := by decide +kernel
theorem dX12_tradesOf_1 : decode cX12_tradesOf 1 = .ok (.invokevirtual 430, 3) := by decide +kernel
theorem dX12_tradesOf_4 : decode cX12_tradesOf 4 = .ok (.iconst 1, 1) := by decide +kernel
theorem dX12_tradesOf_5 : decode cX12_tradesOf 5 = .ok (.istore 4, 2) := by decide +kernel
theorem dX12_tradesOf_7 : decode cX12_tradesOf 7 = .ok (.iload 4, 2) := by decide +kernel
theorem dX12_tradesOf_9 : decode cX12_tradesOf 9 = .ok (.ifCond .eq 148, 3) := by decide +kernel
theorem dX12_tradesOf_12 : decode cX12_tradesOf 12 = .ok (.aload_n 0, 1) := by decide +kernel
theorem dX12_tradesOf_13 : decode cX12_tradesOf 13 = .ok (.invokevirtual 433, 3) := by decide +kernel
theorem dX12_tradesOf_16 : decode cX12_tradesOf 16 = .ok (.ifCond .ne 141, 3) := by decide +kernel
theorem dX12_tradesOf_19 : decode cX12_tradesOf 19 = .ok (.iconst 0, 1) := by decide +kernel
theorem dX12_tradesOf_20 : decode cX12_tradesOf 20 = .ok (.istore 5, 2) := by decide +kernel
theorem dX12_tradesOf_22 : decode cX12_tradesOf 22 = .ok (.iload 5, 2) := by decide +kernel
theorem dX12_tradesOf_24 : decode cX12_tradesOf 24 = .ok (.aload_n 0, 1) := by decide +kernel
theorem dX12_tradesOf_25 : decode cX12_tradesOf 25 = .ok (.getfield 7, 3) := by decide +kernel
theorem dX12_tradesOf_28 : decode cX12_tradesOf 28 = .ok (.if_icmp .ge 120, 3) := by decide +kernel
theorem dX12_tradesOf_31 : decode cX12_tradesOf 31 = .ok (.aload_n 0, 1) := by decide +kernel
theorem dX12_tradesOf_32 : decode cX12_tradesOf 32 = .ok (.invokevirtual 433, 3) := by decide +kernel
theorem dX12_tradesOf_35 : decode cX12_tradesOf 35 = .ok (.ifCond .ne 113, 3) := by decide +kernel
theorem dX12_tradesOf_38 : decode cX12_tradesOf 38 = .ok (.aload_n 0, 1) := by decide +kernel
theorem dX12_tradesOf_39 : decode cX12_tradesOf 39 = .ok (.aload_n 0, 1) := by decide +kernel
theorem dX12_tradesOf_40 : decode cX12_tradesOf 40 = .ok (.getfield 109, 3) := by decide +kernel
theorem dX12_tradesOf_43 : decode cX12_tradesOf 43 = .ok (.iload_n 2, 1) := by decide +kernel
theorem dX12_tradesOf_44 : decode cX12_tradesOf 44 = .ok (.iload_n 3, 1) := by decide +kernel
theorem dX12_tradesOf_45 : decode cX12_tradesOf 45 = .ok (.iload 5, 2) := by decide +kernel
theorem dX12_tradesOf_47 : decode cX12_tradesOf 47 = .ok (.invokevirtual 385, 3) := by decide +kernel
theorem dX12_tradesOf_50 : decode cX12_tradesOf 50 = .ok (.ifCond .ne 6, 3) := by decide +kernel
theorem dX12_tradesOf_53 : decode cX12_tradesOf 53 = .ok (.goto 89, 3) := by decide +kernel
theorem dX12_tradesOf_56 : decode cX12_tradesOf 56 = .ok (.aload_n 0, 1) := by decide +kernel
theorem dX12_tradesOf_57 : decode cX12_tradesOf 57 = .ok (.aload_n 0, 1) := by decide +kernel
theorem dX12_tradesOf_58 : decode cX12_tradesOf 58 = .ok (.getfield 109, 3) := by decide +kernel
theorem dX12_tradesOf_61 : decode cX12_tradesOf 61 = .ok (.aload_n 0, 1) := by decide +kernel
theorem dX12_tradesOf_62 : decode cX12_tradesOf 62 = .ok (.getfield 84, 3) := by decide +kernel
theorem dX12_tradesOf_65 : decode cX12_tradesOf 65 = .ok (.invokevirtual 328, 3) := by decide +kernel
theorem dX12_tradesOf_68 : decode cX12_tradesOf 68 = .ok (.aload_n 0, 1) := by decide +kernel
theorem dX12_tradesOf_69 : decode cX12_tradesOf 69 = .ok (.aload_n 0, 1) := by decide +kernel
theorem dX12_tradesOf_70 : decode cX12_tradesOf 70 = .ok (.getfield 84, 3) := by decide +kernel
theorem dX12_tradesOf_73 : decode cX12_tradesOf 73 = .ok (.iload_n 2, 1) := by decide +kernel
theorem dX12_tradesOf_74 : decode cX12_tradesOf 74 = .ok (.iload_n 3, 1) := by decide +kernel
theorem dX12_tradesOf_75 : decode cX12_tradesOf 75 = .ok (.iload 5, 2) := by decide +kernel
theorem dX12_tradesOf_77 : decode cX12_tradesOf 77 = .ok (.invokevirtual 389, 3) := by decide +kernel
theorem dX12_tradesOf_80 : decode cX12_tradesOf 80 = .ok (.iload_n 2, 1) := by decide +kernel
theorem dX12_tradesOf_81 : decode cX12_tradesOf 81 = .ok (.aload_n 0, 1) := by decide +kernel
theorem dX12_tradesOf_82 : decode cX12_tradesOf 82 = .ok (.getfield 421, 3) := by decide +kernel
theorem dX12_tradesOf_85 : decode cX12_tradesOf 85 = .ok (.if_icmp .ne 7, 3) := by decide +kernel
theorem dX12_tradesOf_88 : decode cX12_tradesOf 88 = .ok (.iload_n 3, 1) := by decide +kernel
theorem dX12_tradesOf_89 : decode cX12_tradesOf 89 = .ok (.goto 4, 3) := by decide +kernel
theorem dX12_tradesOf_92 : decode cX12_tradesOf 92 = .ok (.iload_n 2, 1) := by decide +kernel
theorem dX12_tradesOf_93 : decode cX12_tradesOf 93 = .ok (.istore 6, 2) := by decide +kernel
theorem dX12_tradesOf_95 : decode cX12_tradesOf 95 = .ok (.aload_n 0, 1) := by decide +kernel
theorem dX12_tradesOf_96 : decode cX12_tradesOf 96 = .ok (.getfield 421, 3) := by decide +kernel
theorem dX12_tradesOf_99 : decode cX12_tradesOf 99 = .ok (.iconst (-1), 1) := by decide +kernel
theorem dX12_tradesOf_100 : decode cX12_tradesOf 100 = .ok (.if_icmp .eq 29, 3) := by decide +kernel
theorem dX12_tradesOf_103 : decode cX12_tradesOf 103 = .ok (.aload_n 0, 1) := by decide +kernel
theorem dX12_tradesOf_104 : decode cX12_tradesOf 104 = .ok (.aload_n 0, 1) := by decide +kernel
theorem dX12_tradesOf_105 : decode cX12_tradesOf 105 = .ok (.getfield 84, 3) := by decide +kernel
theorem dX12_tradesOf_108 : decode cX12_tradesOf 108 = .ok (.iload 6, 2) := by decide +kernel
theorem dX12_tradesOf_110 : decode cX12_tradesOf 110 = .ok (.invokevirtual 351, 3) := by decide +kernel
theorem dX12_tradesOf_113 : decode cX12_tradesOf 113 = .ok (.aload_n 0, 1) := by decide +kernel
theorem dX12_tradesOf_114 : decode cX12_tradesOf 114 = .ok (.aload_n 0, 1) := by decide +kernel
theorem dX12_tradesOf_115 : decode cX12_tradesOf 115 = .ok (.getfield 109, 3) := by decide +kernel
theorem dX12_tradesOf_118 : decode cX12_tradesOf 118 = .ok (.iload 6, 2) := by decide +kernel
theorem dX12_tradesOf_120 : decode cX12_tradesOf 120 = .ok (.invokevirtual 351, 3) := by decide +kernel
theorem dX12_tradesOf_123 : decode cX12_tradesOf 123 = .ok (.if_icmp .gt 6, 3) := by decide +kernel
theorem dX12_tradesOf_126 : decode cX12_tradesOf 126 = .ok (.goto 16, 3) := by decide +kernel
theorem dX12_tradesOf_129 : decode cX12_tradesOf 129 = .ok (.aload_n 0, 1) := by decide +kernel
theorem dX12_tradesOf_130 : decode cX12_tradesOf 130 = .ok (.iload_n 1, 1) := by decide +kernel
theorem dX12_tradesOf_131 : decode cX12_tradesOf 131 = .ok (.iload_n 2, 1) := by decide +kernel
theorem dX12_tradesOf_132 : decode cX12_tradesOf 132 = .ok (.iload_n 3, 1) := by decide +kernel
theorem dX12_tradesOf_133 : decode cX12_tradesOf 133 = .ok (.aload_n 0, 1) := by decide +kernel
theorem dX12_tradesOf_134 : decode cX12_tradesOf 134 = .ok (.invokevirtual 436, 3) := by decide +kernel
theorem dX12_tradesOf_137 : decode cX12_tradesOf 137 = .ok (.iload 5, 2) := by decide +kernel
theorem dX12_tradesOf_139 : decode cX12_tradesOf 139 = .ok (.invokevirtual 439, 3) := by decide +kernel
theorem dX12_tradesOf_142 : decode cX12_tradesOf 142 = .ok (.iinc 5 1, 3) := by decide +kernel
theorem dX12_tradesOf_145 : decode cX12_tradesOf 145 = .ok (.goto (-123), 3) := by decide +kernel
theorem dX12_tradesOf_148 : decode cX12_tradesOf 148 = .ok (.aload_n 0, 1) := by decide +kernel
theorem dX12_tradesOf_149 : decode cX12_tradesOf 149 = .ok (.invokevirtual 443, 3) := by decide +kernel
theorem dX12_tradesOf_152 : decode cX12_tradesOf 152 = .ok (.istore 4, 2) := by decide +kernel
theorem dX12_tradesOf_154 : decode cX12_tradesOf 154 = .ok (.goto (-147), 3) := by decide +kernel
theorem dX12_tradesOf_157 : decode cX12_tradesOf 157 = .ok (.return_, 1) := by decide +kernel
theorem dX12_searches_0 : decode cX12_searches 0 = .ok (.aload_n 0, 1) := by decide +kernel
theorem dX12_searches_1 : decode cX12_searches 1 = .ok (.iconst 0, 1) := by decide +kernel
theorem dX12_searches_2 : decode cX12_searches 2 = .ok (.putfield 401, 3) := by decide +kernel
theorem dX12_searches_5 : decode cX12_searches 5 = .ok (.aload_n 0, 1) := by decide +kernel
theorem dX12_searches_6 : decode cX12_searches 6 = .ok (.iconst (-1), 1) := by decide +kernel
theorem dX12_searches_7 : decode cX12_searches 7 = .ok (.putfield 427, 3) := by decide +kernel
theorem dX12_searches_10 : decode cX12_searches 10 = .ok (.aload_n 0, 1) := by decide +kernel
theorem dX12_searches_11 : decode cX12_searches 11 = .ok (.iconst 0, 1) := by decide +kernel
theorem dX12_searches_12 : decode cX12_searches 12 = .ok (.putfield 414, 3) := by decide +kernel
theorem dX12_searches_15 : decode cX12_searches 15 = .ok (.aload_n 0, 1) := by decide +kernel
theorem dX12_searches_16 : decode cX12_searches 16 = .ok (.aload_n 1, 1) := by decide +kernel
theorem dX12_searches_17 : decode cX12_searches 17 = .ok (.aload_n 1, 1) := by decide +kernel
theorem dX12_searches_18 : decode cX12_searches 18 = .ok (.invokestatic 404, 3) := by decide +kernel
theorem dX12_searches_21 : decode cX12_searches 21 = .ok (.iconst (-1), 1) := by decide +kernel
theorem dX12_searches_22 : decode cX12_searches 22 = .ok (.iconst (-1), 1) := by decide +kernel
theorem dX12_searches_23 : decode cX12_searches 23 = .ok (.iconst (-1), 1) := by decide +kernel
theorem dX12_searches_24 : decode cX12_searches 24 = .ok (.iconst (-1), 1) := by decide +kernel
theorem dX12_searches_25 : decode cX12_searches 25 = .ok (.iconst (-1), 1) := by decide +kernel
theorem dX12_searches_26 : decode cX12_searches 26 = .ok (.invokevirtual 417, 3) := by decide +kernel
theorem dX12_searches_29 : decode cX12_searches 29 = .ok (.aload_n 0, 1) := by decide +kernel
theorem dX12_searches_30 : decode cX12_searches 30 = .ok (.getfield 421, 3) := by decide +kernel
theorem dX12_searches_33 : decode cX12_searches 33 = .ok (.iconst (-1), 1) := by decide +kernel
theorem dX12_searches_34 : decode cX12_searches 34 = .ok (.if_icmp .eq 25, 3) := by decide +kernel
theorem dX12_searches_37 : decode cX12_searches 37 = .ok (.aload_n 1, 1) := by decide +kernel
theorem dX12_searches_38 : decode cX12_searches 38 = .ok (.bipush 8, 2) := by decide +kernel
theorem dX12_searches_40 : decode cX12_searches 40 = .ok (.aload_n 0, 1) := by decide +kernel
theorem dX12_searches_41 : decode cX12_searches 41 = .ok (.getfield 421, 3) := by decide +kernel
theorem dX12_searches_44 : decode cX12_searches 44 = .ok (.imul, 1) := by decide +kernel
theorem dX12_searches_45 : decode cX12_searches 45 = .ok (.aload_n 0, 1) := by decide +kernel
theorem dX12_searches_46 : decode cX12_searches 46 = .ok (.getfield 424, 3) := by decide +kernel
theorem dX12_searches_49 : decode cX12_searches 49 = .ok (.iadd, 1) := by decide +kernel
theorem dX12_searches_50 : decode cX12_searches 50 = .ok (.iaload, 1) := by decide +kernel
theorem dX12_searches_51 : decode cX12_searches 51 = .ok (.ifCond .le 8, 3) := by decide +kernel
theorem dX12_searches_54 : decode cX12_searches 54 = .ok (.aload_n 0, 1) := by decide +kernel
theorem dX12_searches_55 : decode cX12_searches 55 = .ok (.iconst 0, 1) := by decide +kernel
theorem dX12_searches_56 : decode cX12_searches 56 = .ok (.putfield 427, 3) := by decide +kernel
theorem dX12_searches_59 : decode cX12_searches 59 = .ok (.iconst 0, 1) := by decide +kernel
theorem dX12_searches_60 : decode cX12_searches 60 = .ok (.istore_n 2, 1) := by decide +kernel
theorem dX12_searches_61 : decode cX12_searches 61 = .ok (.iload_n 2, 1) := by decide +kernel
theorem dX12_searches_62 : decode cX12_searches 62 = .ok (.aload_n 0, 1) := by decide +kernel
theorem dX12_searches_63 : decode cX12_searches 63 = .ok (.getfield 401, 3) := by decide +kernel
theorem dX12_searches_66 : decode cX12_searches 66 = .ok (.if_icmp .ge 234, 3) := by decide +kernel
theorem dX12_searches_69 : decode cX12_searches 69 = .ok (.aload_n 0, 1) := by decide +kernel
theorem dX12_searches_70 : decode cX12_searches 70 = .ok (.invokevirtual 433, 3) := by decide +kernel
theorem dX12_searches_73 : decode cX12_searches 73 = .ok (.ifCond .ne 227, 3) := by decide +kernel
theorem dX12_searches_76 : decode cX12_searches 76 = .ok (.iconst 0, 1) := by decide +kernel
theorem dX12_searches_77 : decode cX12_searches 77 = .ok (.istore_n 3, 1) := by decide +kernel
theorem dX12_searches_78 : decode cX12_searches 78 = .ok (.iload_n 3, 1) := by decide +kernel
theorem dX12_searches_79 : decode cX12_searches 79 = .ok (.bipush 48, 2) := by decide +kernel
theorem dX12_searches_81 : decode cX12_searches 81 = .ok (.if_icmp .ge 26, 3) := by decide +kernel
theorem dX12_searches_84 : decode cX12_searches 84 = .ok (.aload_n 0, 1) := by decide +kernel
theorem dX12_searches_85 : decode cX12_searches 85 = .ok (.getfield 109, 3) := by decide +kernel
theorem dX12_searches_88 : decode cX12_searches 88 = .ok (.iload_n 3, 1) := by decide +kernel
theorem dX12_searches_89 : decode cX12_searches 89 = .ok (.aload_n 0, 1) := by decide +kernel
theorem dX12_searches_90 : decode cX12_searches 90 = .ok (.getfield 88, 3) := by decide +kernel
theorem dX12_searches_93 : decode cX12_searches 93 = .ok (.bipush 48, 2) := by decide +kernel
theorem dX12_searches_95 : decode cX12_searches 95 = .ok (.iload_n 2, 1) := by decide +kernel
theorem dX12_searches_96 : decode cX12_searches 96 = .ok (.imul, 1) := by decide +kernel
theorem dX12_searches_97 : decode cX12_searches 97 = .ok (.iload_n 3, 1) := by decide +kernel
theorem dX12_searches_98 : decode cX12_searches 98 = .ok (.iadd, 1) := by decide +kernel
theorem dX12_searches_99 : decode cX12_searches 99 = .ok (.iaload, 1) := by decide +kernel
theorem dX12_searches_100 : decode cX12_searches 100 = .ok (.iastore, 1) := by decide +kernel
theorem dX12_searches_101 : decode cX12_searches 101 = .ok (.iinc 3 1, 3) := by decide +kernel
theorem dX12_searches_104 : decode cX12_searches 104 = .ok (.goto (-26), 3) := by decide +kernel
theorem dX12_searches_107 : decode cX12_searches 107 = .ok (.iconst 0, 1) := by decide +kernel
theorem dX12_searches_108 : decode cX12_searches 108 = .ok (.istore_n 3, 1) := by decide +kernel
theorem dX12_searches_109 : decode cX12_searches 109 = .ok (.iload_n 3, 1) := by decide +kernel
theorem dX12_searches_110 : decode cX12_searches 110 = .ok (.aload_n 0, 1) := by decide +kernel
theorem dX12_searches_111 : decode cX12_searches 111 = .ok (.getfield 316, 3) := by decide +kernel
theorem dX12_searches_114 : decode cX12_searches 114 = .ok (.if_icmp .ge 73, 3) := by decide +kernel
theorem dX12_searches_117 : decode cX12_searches 117 = .ok (.iconst 0, 1) := by decide +kernel
theorem dX12_searches_118 : decode cX12_searches 118 = .ok (.istore 4, 2) := by decide +kernel
theorem dX12_searches_120 : decode cX12_searches 120 = .ok (.iload 4, 2) := by decide +kernel
theorem dX12_searches_122 : decode cX12_searches 122 = .ok (.aload_n 0, 1) := by decide +kernel
theorem dX12_searches_123 : decode cX12_searches 123 = .ok (.getfield 316, 3) := by decide +kernel
theorem dX12_searches_126 : decode cX12_searches 126 = .ok (.if_icmp .ge 55, 3) := by decide +kernel
theorem dX12_searches_129 : decode cX12_searches 129 = .ok (.aload_n 0, 1) := by decide +kernel
theorem dX12_searches_130 : decode cX12_searches 130 = .ok (.invokevirtual 433, 3) := by decide +kernel
theorem dX12_searches_133 : decode cX12_searches 133 = .ok (.ifCond .ne 48, 3) := by decide +kernel
theorem dX12_searches_136 : decode cX12_searches 136 = .ok (.iload_n 3, 1) := by decide +kernel
theorem dX12_searches_137 : decode cX12_searches 137 = .ok (.iload 4, 2) := by decide +kernel
theorem dX12_searches_139 : decode cX12_searches 139 = .ok (.if_icmp .eq 36, 3) := by decide +kernel
theorem dX12_searches_142 : decode cX12_searches 142 = .ok (.aload_n 0, 1) := by decide +kernel
theorem dX12_searches_143 : decode cX12_searches 143 = .ok (.getfield 421, 3) := by decide +kernel
theorem dX12_searches_146 : decode cX12_searches 146 = .ok (.iconst (-1), 1) := by decide +kernel
theorem dX12_searches_147 : decode cX12_searches 147 = .ok (.if_icmp .eq 20, 3) := by decide +kernel
theorem dX12_searches_150 : decode cX12_searches 150 = .ok (.iload_n 3, 1) := by decide +kernel
theorem dX12_searches_151 : decode cX12_searches 151 = .ok (.aload_n 0, 1) := by decide +kernel
theorem dX12_searches_152 : decode cX12_searches 152 = .ok (.getfield 421, 3) := by decide +kernel
theorem dX12_searches_155 : decode cX12_searches 155 = .ok (.if_icmp .eq 12, 3) := by decide +kernel
theorem dX12_searches_158 : decode cX12_searches 158 = .ok (.iload 4, 2) := by decide +kernel
theorem dX12_searches_160 : decode cX12_searches 160 = .ok (.aload_n 0, 1) := by decide +kernel
theorem dX12_searches_161 : decode cX12_searches 161 = .ok (.getfield 421, 3) := by decide +kernel
theorem dX12_searches_164 : decode cX12_searches 164 = .ok (.if_icmp .ne 11, 3) := by decide +kernel
theorem dX12_searches_167 : decode cX12_searches 167 = .ok (.aload_n 0, 1) := by decide +kernel
theorem dX12_searches_168 : decode cX12_searches 168 = .ok (.iload_n 2, 1) := by decide +kernel
theorem dX12_searches_169 : decode cX12_searches 169 = .ok (.iload_n 3, 1) := by decide +kernel
theorem dX12_searches_170 : decode cX12_searches 170 = .ok (.iload 4, 2) := by decide +kernel
theorem dX12_searches_172 : decode cX12_searches 172 = .ok (.invokevirtual 446, 3) := by decide +kernel
theorem dX12_searches_175 : decode cX12_searches 175 = .ok (.iinc 4 1, 3) := by decide +kernel
theorem dX12_searches_178 : decode cX12_searches 178 = .ok (.goto (-58), 3) := by decide +kernel
theorem dX12_searches_181 : decode cX12_searches 181 = .ok (.iinc 3 1, 3) := by decide +kernel
theorem dX12_searches_184 : decode cX12_searches 184 = .ok (.goto (-75), 3) := by decide +kernel
theorem dX12_searches_187 : decode cX12_searches 187 = .ok (.iconst 0, 1) := by decide +kernel
theorem dX12_searches_188 : decode cX12_searches 188 = .ok (.istore_n 3, 1) := by decide +kernel
theorem dX12_searches_189 : decode cX12_searches 189 = .ok (.iload_n 3, 1) := by decide +kernel
theorem dX12_searches_190 : decode cX12_searches 190 = .ok (.aload_n 0, 1) := by decide +kernel
theorem dX12_searches_191 : decode cX12_searches 191 = .ok (.getfield 316, 3) := by decide +kernel
theorem dX12_searches_194 : decode cX12_searches 194 = .ok (.if_icmp .ge 100, 3) := by decide +kernel
theorem dX12_searches_197 : decode cX12_searches 197 = .ok (.iconst 0, 1) := by decide +kernel
theorem dX12_searches_198 : decode cX12_searches 198 = .ok (.istore 4, 2) := by decide +kernel
theorem dX12_searches_200 : decode cX12_searches 200 = .ok (.iload 4, 2) := by decide +kernel
theorem dX12_searches_202 : decode cX12_searches 202 = .ok (.aload_n 0, 1) := by decide +kernel
theorem dX12_searches_203 : decode cX12_searches 203 = .ok (.getfield 319, 3) := by decide +kernel
theorem dX12_searches_206 : decode cX12_searches 206 = .ok (.if_icmp .ge 82, 3) := by decide +kernel
theorem dX12_searches_209 : decode cX12_searches 209 = .ok (.aload_n 0, 1) := by decide +kernel
theorem dX12_searches_210 : decode cX12_searches 210 = .ok (.invokevirtual 433, 3) := by decide +kernel
theorem dX12_searches_213 : decode cX12_searches 213 = .ok (.ifCond .ne 75, 3) := by decide +kernel
theorem dX12_searches_216 : decode cX12_searches 216 = .ok (.aload_n 0, 1) := by decide +kernel
theorem dX12_searches_217 : decode cX12_searches 217 = .ok (.getfield 421, 3) := by decide +kernel
theorem dX12_searches_220 : decode cX12_searches 220 = .ok (.iconst (-1), 1) := by decide +kernel
theorem dX12_searches_221 : decode cX12_searches 221 = .ok (.if_icmp .eq 11, 3) := by decide +kernel
theorem dX12_searches_224 : decode cX12_searches 224 = .ok (.iload_n 3, 1) := by decide +kernel
theorem dX12_searches_225 : decode cX12_searches 225 = .ok (.aload_n 0, 1) := by decide +kernel
theorem dX12_searches_226 : decode cX12_searches 226 = .ok (.getfield 421, 3) := by decide +kernel
theorem dX12_searches_229 : decode cX12_searches 229 = .ok (.if_icmp .ne 53, 3) := by decide +kernel
theorem dX12_searches_232 : decode cX12_searches 232 = .ok (.aload_n 0, 1) := by decide +kernel
theorem dX12_searches_233 : decode cX12_searches 233 = .ok (.aload_n 0, 1) := by decide +kernel
theorem dX12_searches_234 : decode cX12_searches 234 = .ok (.getfield 109, 3) := by decide +kernel
theorem dX12_searches_237 : decode cX12_searches 237 = .ok (.iload_n 3, 1) := by decide +kernel
theorem dX12_searches_238 : decode cX12_searches 238 = .ok (.iload 4, 2) := by decide +kernel
theorem dX12_searches_240 : decode cX12_searches 240 = .ok (.invokevirtual 393, 3) := by decide +kernel
theorem dX12_searches_243 : decode cX12_searches 243 = .ok (.ifCond .ne 6, 3) := by decide +kernel
theorem dX12_searches_246 : decode cX12_searches 246 = .ok (.goto 36, 3) := by decide +kernel
theorem dX12_searches_249 : decode cX12_searches 249 = .ok (.aload_n 0, 1) := by decide +kernel
theorem dX12_searches_250 : decode cX12_searches 250 = .ok (.aload_n 0, 1) := by decide +kernel
theorem dX12_searches_251 : decode cX12_searches 251 = .ok (.getfield 109, 3) := by decide +kernel
theorem dX12_searches_254 : decode cX12_searches 254 = .ok (.aload_n 0, 1) := by decide +kernel
theorem dX12_searches_255 : decode cX12_searches 255 = .ok (.getfield 84, 3) := by decide +kernel
theorem dX12_searches_258 : decode cX12_searches 258 = .ok (.invokevirtual 328, 3) := by decide +kernel
theorem dX12_searches_261 : decode cX12_searches 261 = .ok (.aload_n 0, 1) := by decide +kernel
theorem dX12_searches_262 : decode cX12_searches 262 = .ok (.aload_n 0, 1) := by decide +kernel
theorem dX12_searches_263 : decode cX12_searches 263 = .ok (.getfield 84, 3) := by decide +kernel
theorem dX12_searches_266 : decode cX12_searches 266 = .ok (.iload_n 3, 1) := by decide +kernel
theorem dX12_searches_267 : decode cX12_searches 267 = .ok (.iload 4, 2) := by decide +kernel
theorem dX12_searches_269 : decode cX12_searches 269 = .ok (.invokevirtual 397, 3) := by decide +kernel
theorem dX12_searches_272 : decode cX12_searches 272 = .ok (.aload_n 0, 1) := by decide +kernel
theorem dX12_searches_273 : decode cX12_searches 273 = .ok (.iload_n 2, 1) := by decide +kernel
theorem dX12_searches_274 : decode cX12_searches 274 = .ok (.iload_n 3, 1) := by decide +kernel
theorem dX12_searches_275 : decode cX12_searches 275 = .ok (.iconst (-1), 1) := by decide +kernel
theorem dX12_searches_276 : decode cX12_searches 276 = .ok (.iload 4, 2) := by decide +kernel
theorem dX12_searches_278 : decode cX12_searches 278 = .ok (.iconst (-1), 1) := by decide +kernel
theorem dX12_searches_279 : decode cX12_searches 279 = .ok (.invokevirtual 439, 3) := by decide +kernel
theorem dX12_searches_282 : decode cX12_searches 282 = .ok (.iinc 4 1, 3) := by decide +kernel
theorem dX12_searches_285 : decode cX12_searches 285 = .ok (.goto (-85), 3) := by decide +kernel
theorem dX12_searches_288 : decode cX12_searches 288 = .ok (.iinc 3 1, 3) := by decide +kernel
theorem dX12_searches_291 : decode cX12_searches 291 = .ok (.goto (-102), 3) := by decide +kernel
theorem dX12_searches_294 : decode cX12_searches 294 = .ok (.iinc 2 1, 3) := by decide +kernel
theorem dX12_searches_297 : decode cX12_searches 297 = .ok (.goto (-236), 3) := by decide +kernel
theorem dX12_searches_300 : decode cX12_searches 300 = .ok (.return_, 1) := by decide +kernel
theorem dX12_keeps_0 : decode cX12_keeps 0 = .ok (.iconst 0, 1) := by decide +kernel
theorem dX12_keeps_1 : decode cX12_keeps 1 = .ok (.istore_n 2, 1) := by decide +kernel
theorem dX12_keeps_2 : decode cX12_keeps 2 = .ok (.iload_n 1, 1) := by decide +kernel
theorem dX12_keeps_3 : decode cX12_keeps 3 = .ok (.istore_n 3, 1) := by decide +kernel
theorem dX12_keeps_4 : decode cX12_keeps 4 = .ok (.aload_n 0, 1) := by decide +kernel
theorem dX12_keeps_5 : decode cX12_keeps 5 = .ok (.getfield 94, 3) := by decide +kernel
theorem dX12_keeps_8 : decode cX12_keeps 8 = .ok (.iload_n 3, 1) := by decide +kernel
theorem dX12_keeps_9 : decode cX12_keeps 9 = .ok (.iaload, 1) := by decide +kernel
theorem dX12_keeps_10 : decode cX12_keeps 10 = .ok (.iconst (-1), 1) := by decide +kernel
theorem dX12_keeps_11 : decode cX12_keeps 11 = .ok (.if_icmp .eq 16, 3) := by decide +kernel
theorem dX12_keeps_14 : decode cX12_keeps 14 = .ok (.iinc 2 1, 3) := by decide +kernel
theorem dX12_keeps_17 : decode cX12_keeps 17 = .ok (.aload_n 0, 1) := by decide +kernel
theorem dX12_keeps_18 : decode cX12_keeps 18 = .ok (.getfield 94, 3) := by decide +kernel
theorem dX12_keeps_21 : decode cX12_keeps 21 = .ok (.iload_n 3, 1) := by decide +kernel
theorem dX12_keeps_22 : decode cX12_keeps 22 = .ok (.iaload, 1) := by decide +kernel
theorem dX12_keeps_23 : decode cX12_keeps 23 = .ok (.istore_n 3, 1) := by decide +kernel
theorem dX12_keeps_24 : decode cX12_keeps 24 = .ok (.goto (-20), 3) := by decide +kernel
theorem dX12_keeps_27 : decode cX12_keeps 27 = .ok (.aload_n 0, 1) := by decide +kernel
theorem dX12_keeps_28 : decode cX12_keeps 28 = .ok (.iload_n 2, 1) := by decide +kernel
theorem dX12_keeps_29 : decode cX12_keeps 29 = .ok (.putfield 332, 3) := by decide +kernel
theorem dX12_keeps_32 : decode cX12_keeps 32 = .ok (.iload_n 1, 1) := by decide +kernel
theorem dX12_keeps_33 : decode cX12_keeps 33 = .ok (.istore_n 3, 1) := by decide +kernel
theorem dX12_keeps_34 : decode cX12_keeps 34 = .ok (.aload_n 0, 1) := by decide +kernel
theorem dX12_keeps_35 : decode cX12_keeps 35 = .ok (.getfield 94, 3) := by decide +kernel
theorem dX12_keeps_38 : decode cX12_keeps 38 = .ok (.iload_n 3, 1) := by decide +kernel
theorem dX12_keeps_39 : decode cX12_keeps 39 = .ok (.iaload, 1) := by decide +kernel
theorem dX12_keeps_40 : decode cX12_keeps 40 = .ok (.iconst (-1), 1) := by decide +kernel
theorem dX12_keeps_41 : decode cX12_keeps 41 = .ok (.if_icmp .eq 64, 3) := by decide +kernel
theorem dX12_keeps_44 : decode cX12_keeps 44 = .ok (.iinc 2 (-1), 3) := by decide +kernel
theorem dX12_keeps_47 : decode cX12_keeps 47 = .ok (.aload_n 0, 1) := by decide +kernel
theorem dX12_keeps_48 : decode cX12_keeps 48 = .ok (.getfield 112, 3) := by decide +kernel
theorem dX12_keeps_51 : decode cX12_keeps 51 = .ok (.iload_n 2, 1) := by decide +kernel
theorem dX12_keeps_52 : decode cX12_keeps 52 = .ok (.aload_n 0, 1) := by decide +kernel
theorem dX12_keeps_53 : decode cX12_keeps 53 = .ok (.getfield 97, 3) := by decide +kernel
theorem dX12_keeps_56 : decode cX12_keeps 56 = .ok (.iload_n 3, 1) := by decide +kernel
theorem dX12_keeps_57 : decode cX12_keeps 57 = .ok (.iaload, 1) := by decide +kernel
theorem dX12_keeps_58 : decode cX12_keeps 58 = .ok (.iastore, 1) := by decide +kernel
theorem dX12_keeps_59 : decode cX12_keeps 59 = .ok (.aload_n 0, 1) := by decide +kernel
theorem dX12_keeps_60 : decode cX12_keeps 60 = .ok (.getfield 115, 3) := by decide +kernel
theorem dX12_keeps_63 : decode cX12_keeps 63 = .ok (.iload_n 2, 1) := by decide +kernel
theorem dX12_keeps_64 : decode cX12_keeps 64 = .ok (.aload_n 0, 1) := by decide +kernel
theorem dX12_keeps_65 : decode cX12_keeps 65 = .ok (.getfield 100, 3) := by decide +kernel
theorem dX12_keeps_68 : decode cX12_keeps 68 = .ok (.iload_n 3, 1) := by decide +kernel
theorem dX12_keeps_69 : decode cX12_keeps 69 = .ok (.iaload, 1) := by decide +kernel
theorem dX12_keeps_70 : decode cX12_keeps 70 = .ok (.iastore, 1) := by decide +kernel
theorem dX12_keeps_71 : decode cX12_keeps 71 = .ok (.aload_n 0, 1) := by decide +kernel
theorem dX12_keeps_72 : decode cX12_keeps 72 = .ok (.getfield 118, 3) := by decide +kernel
theorem dX12_keeps_75 : decode cX12_keeps 75 = .ok (.iload_n 2, 1) := by decide +kernel
theorem dX12_keeps_76 : decode cX12_keeps 76 = .ok (.aload_n 0, 1) := by decide +kernel
theorem dX12_keeps_77 : decode cX12_keeps 77 = .ok (.getfield 103, 3) := by decide +kernel
theorem dX12_keeps_80 : decode cX12_keeps 80 = .ok (.iload_n 3, 1) := by decide +kernel
theorem dX12_keeps_81 : decode cX12_keeps 81 = .ok (.iaload, 1) := by decide +kernel
theorem dX12_keeps_82 : decode cX12_keeps 82 = .ok (.iastore, 1) := by decide +kernel
theorem dX12_keeps_83 : decode cX12_keeps 83 = .ok (.aload_n 0, 1) := by decide +kernel
theorem dX12_keeps_84 : decode cX12_keeps 84 = .ok (.getfield 121, 3) := by decide +kernel
theorem dX12_keeps_87 : decode cX12_keeps 87 = .ok (.iload_n 2, 1) := by decide +kernel
theorem dX12_keeps_88 : decode cX12_keeps 88 = .ok (.aload_n 0, 1) := by decide +kernel
theorem dX12_keeps_89 : decode cX12_keeps 89 = .ok (.getfield 106, 3) := by decide +kernel
theorem dX12_keeps_92 : decode cX12_keeps 92 = .ok (.iload_n 3, 1) := by decide +kernel
theorem dX12_keeps_93 : decode cX12_keeps 93 = .ok (.iaload, 1) := by decide +kernel
theorem dX12_keeps_94 : decode cX12_keeps 94 = .ok (.iastore, 1) := by decide +kernel
theorem dX12_keeps_95 : decode cX12_keeps 95 = .ok (.aload_n 0, 1) := by decide +kernel
theorem dX12_keeps_96 : decode cX12_keeps 96 = .ok (.getfield 94, 3) := by decide +kernel
theorem dX12_keeps_99 : decode cX12_keeps 99 = .ok (.iload_n 3, 1) := by decide +kernel
theorem dX12_keeps_100 : decode cX12_keeps 100 = .ok (.iaload, 1) := by decide +kernel
theorem dX12_keeps_101 : decode cX12_keeps 101 = .ok (.istore_n 3, 1) := by decide +kernel
theorem dX12_keeps_102 : decode cX12_keeps 102 = .ok (.goto (-68), 3) := by decide +kernel
theorem dX12_keeps_105 : decode cX12_keeps 105 = .ok (.return_, 1) := by decide +kernel
theorem dX12_come_0 : decode cX12_come 0 = .ok (.aload_n 0, 1) := by decide +kernel
theorem dX12_come_1 : decode cX12_come 1 = .ok (.iconst 0, 1) := by decide +kernel
theorem dX12_come_2 : decode cX12_come 2 = .ok (.putfield 184, 3) := by decide +kernel
theorem dX12_come_5 : decode cX12_come 5 = .ok (.aload_n 0, 1) := by decide +kernel
theorem dX12_come_6 : decode cX12_come 6 = .ok (.iload_n 1, 1) := by decide +kernel
theorem dX12_come_7 : decode cX12_come 7 = .ok (.invokevirtual 362, 3) := by decide +kernel
theorem dX12_come_10 : decode cX12_come 10 = .ok (.ifCond .eq 11, 3) := by decide +kernel
theorem dX12_come_13 : decode cX12_come 13 = .ok (.aload_n 0, 1) := by decide +kernel
theorem dX12_come_14 : decode cX12_come 14 = .ok (.iload_n 2, 1) := by decide +kernel
theorem dX12_come_15 : decode cX12_come 15 = .ok (.invokevirtual 365, 3) := by decide +kernel
theorem dX12_come_18 : decode cX12_come 18 = .ok (.ifCond .ne 5, 3) := by decide +kernel
theorem dX12_come_21 : decode cX12_come 21 = .ok (.iconst 0, 1) := by decide +kernel
theorem dX12_come_22 : decode cX12_come 22 = .ok (.ireturn, 1) := by decide +kernel
theorem dX12_come_23 : decode cX12_come 23 = .ok (.aload_n 0, 1) := by decide +kernel
theorem dX12_come_24 : decode cX12_come 24 = .ok (.iload_n 1, 1) := by decide +kernel
theorem dX12_come_25 : decode cX12_come 25 = .ok (.putfield 421, 3) := by decide +kernel
theorem dX12_come_28 : decode cX12_come 28 = .ok (.aload_n 0, 1) := by decide +kernel
theorem dX12_come_29 : decode cX12_come 29 = .ok (.iload_n 2, 1) := by decide +kernel
theorem dX12_come_30 : decode cX12_come 30 = .ok (.putfield 424, 3) := by decide +kernel
theorem dX12_come_33 : decode cX12_come 33 = .ok (.aload_n 0, 1) := by decide +kernel
theorem dX12_come_34 : decode cX12_come 34 = .ok (.sipush 1000, 3) := by decide +kernel
theorem dX12_come_37 : decode cX12_come 37 = .ok (.putfield 411, 3) := by decide +kernel
theorem dX12_come_40 : decode cX12_come 40 = .ok (.aload_n 0, 1) := by decide +kernel
theorem dX12_come_41 : decode cX12_come 41 = .ok (.aload_n 0, 1) := by decide +kernel
theorem dX12_come_42 : decode cX12_come 42 = .ok (.getfield 38, 3) := by decide +kernel
theorem dX12_come_45 : decode cX12_come 45 = .ok (.invokevirtual 450, 3) := by decide +kernel
theorem dX12_come_48 : decode cX12_come 48 = .ok (.aload_n 0, 1) := by decide +kernel
theorem dX12_come_49 : decode cX12_come 49 = .ok (.getfield 414, 3) := by decide +kernel
theorem dX12_come_52 : decode cX12_come 52 = .ok (.ifCond .eq 6, 3) := by decide +kernel
theorem dX12_come_55 : decode cX12_come 55 = .ok (.bipush (-2), 2) := by decide +kernel
theorem dX12_come_57 : decode cX12_come 57 = .ok (.ireturn, 1) := by decide +kernel
theorem dX12_come_58 : decode cX12_come 58 = .ok (.aload_n 0, 1) := by decide +kernel
theorem dX12_come_59 : decode cX12_come 59 = .ok (.getfield 427, 3) := by decide +kernel
theorem dX12_come_62 : decode cX12_come 62 = .ok (.iconst (-1), 1) := by decide +kernel
theorem dX12_come_63 : decode cX12_come 63 = .ok (.if_icmp .ne 5, 3) := by decide +kernel
theorem dX12_come_66 : decode cX12_come 66 = .ok (.iconst (-1), 1) := by decide +kernel
theorem dX12_come_67 : decode cX12_come 67 = .ok (.ireturn, 1) := by decide +kernel
theorem dX12_come_68 : decode cX12_come 68 = .ok (.aload_n 0, 1) := by decide +kernel
theorem dX12_come_69 : decode cX12_come 69 = .ok (.aload_n 0, 1) := by decide +kernel
theorem dX12_come_70 : decode cX12_come 70 = .ok (.getfield 427, 3) := by decide +kernel
theorem dX12_come_73 : decode cX12_come 73 = .ok (.invokevirtual 454, 3) := by decide +kernel
theorem dX12_come_76 : decode cX12_come 76 = .ok (.aload_n 0, 1) := by decide +kernel
theorem dX12_come_77 : decode cX12_come 77 = .ok (.getfield 332, 3) := by decide +kernel
theorem dX12_come_80 : decode cX12_come 80 = .ok (.ireturn, 1) := by decide +kernel
theorem dX12_step_0 : decode cX12_step 0 = .ok (.aload_n 0, 1) := by decide +kernel
theorem dX12_step_1 : decode cX12_step 1 = .ok (.iconst 0, 1) := by decide +kernel
theorem dX12_step_2 : decode cX12_step 2 = .ok (.putfield 184, 3) := by decide +kernel
theorem dX12_step_5 : decode cX12_step 5 = .ok (.aload_n 0, 1) := by decide +kernel
theorem dX12_step_6 : decode cX12_step 6 = .ok (.iload_n 1, 1) := by decide +kernel
theorem dX12_step_7 : decode cX12_step 7 = .ok (.ifCond .lt 24, 3) := by decide +kernel
theorem dX12_step_10 : decode cX12_step 10 = .ok (.iload_n 1, 1) := by decide +kernel
theorem dX12_step_11 : decode cX12_step 11 = .ok (.aload_n 0, 1) := by decide +kernel
theorem dX12_step_12 : decode cX12_step 12 = .ok (.getfield 332, 3) := by decide +kernel
theorem dX12_step_15 : decode cX12_step 15 = .ok (.if_icmp .ge 16, 3) := by decide +kernel
theorem dX12_step_18 : decode cX12_step 18 = .ok (.iload_n 2, 1) := by decide +kernel
theorem dX12_step_19 : decode cX12_step 19 = .ok (.iconst 0, 1) := by decide +kernel
theorem dX12_step_20 : decode cX12_step 20 = .ok (.iconst 3, 1) := by decide +kernel
theorem dX12_step_21 : decode cX12_step 21 = .ok (.invokestatic 354, 3) := by decide +kernel
theorem dX12_step_24 : decode cX12_step 24 = .ok (.ifCond .eq 7, 3) := by decide +kernel
theorem dX12_step_27 : decode cX12_step 27 = .ok (.iconst 1, 1) := by decide +kernel
theorem dX12_step_28 : decode cX12_step 28 = .ok (.goto 4, 3) := by decide +kernel
theorem dX12_step_31 : decode cX12_step 31 = .ok (.iconst 0, 1) := by decide +kernel
theorem dX12_step_32 : decode cX12_step 32 = .ok (.iconst 1, 1) := by decide +kernel
theorem dX12_step_33 : decode cX12_step 33 = .ok (.invokevirtual 309, 3) := by decide +kernel
theorem dX12_step_36 : decode cX12_step 36 = .ok (.ifCond .ne 5, 3) := by decide +kernel
theorem dX12_step_39 : decode cX12_step 39 = .ok (.iconst 0, 1) := by decide +kernel
theorem dX12_step_40 : decode cX12_step 40 = .ok (.ireturn, 1) := by decide +kernel
theorem dX12_step_41 : decode cX12_step 41 = .ok (.iload_n 2, 1) := by decide +kernel
theorem dX12_step_42 : decode cX12_step 42 = .ok (.ifCond .ne 12, 3) := by decide +kernel
theorem dX12_step_45 : decode cX12_step 45 = .ok (.aload_n 0, 1) := by decide +kernel
theorem dX12_step_46 : decode cX12_step 46 = .ok (.getfield 112, 3) := by decide +kernel
theorem dX12_step_49 : decode cX12_step 49 = .ok (.iload_n 1, 1) := by decide +kernel
theorem dX12_step_50 : decode cX12_step 50 = .ok (.iaload, 1) := by decide +kernel
theorem dX12_step_51 : decode cX12_step 51 = .ok (.goto 37, 3) := by decide +kernel
theorem dX12_step_54 : decode cX12_step 54 = .ok (.iload_n 2, 1) := by decide +kernel
theorem dX12_step_55 : decode cX12_step 55 = .ok (.iconst 1, 1) := by decide +kernel
theorem dX12_step_56 : decode cX12_step 56 = .ok (.if_icmp .ne 12, 3) := by decide +kernel
theorem dX12_step_59 : decode cX12_step 59 = .ok (.aload_n 0, 1) := by decide +kernel
theorem dX12_step_60 : decode cX12_step 60 = .ok (.getfield 115, 3) := by decide +kernel
theorem dX12_step_63 : decode cX12_step 63 = .ok (.iload_n 1, 1) := by decide +kernel
theorem dX12_step_64 : decode cX12_step 64 = .ok (.iaload, 1) := by decide +kernel
theorem dX12_step_65 : decode cX12_step 65 = .ok (.goto 23, 3) := by decide +kernel
theorem dX12_step_68 : decode cX12_step 68 = .ok (.iload_n 2, 1) := by decide +kernel
theorem dX12_step_69 : decode cX12_step 69 = .ok (.iconst 2, 1) := by decide +kernel
theorem dX12_step_70 : decode cX12_step 70 = .ok (.if_icmp .ne 12, 3) := by decide +kernel
theorem dX12_step_73 : decode cX12_step 73 = .ok (.aload_n 0, 1) := by decide +kernel
theorem dX12_step_74 : decode cX12_step 74 = .ok (.getfield 118, 3) := by decide +kernel
theorem dX12_step_77 : decode cX12_step 77 = .ok (.iload_n 1, 1) := by decide +kernel
theorem dX12_step_78 : decode cX12_step 78 = .ok (.iaload, 1) := by decide +kernel
theorem dX12_step_79 : decode cX12_step 79 = .ok (.goto 9, 3) := by decide +kernel
theorem dX12_step_82 : decode cX12_step 82 = .ok (.aload_n 0, 1) := by decide +kernel
theorem dX12_step_83 : decode cX12_step 83 = .ok (.getfield 121, 3) := by decide +kernel
theorem dX12_step_86 : decode cX12_step 86 = .ok (.iload_n 1, 1) := by decide +kernel
theorem dX12_step_87 : decode cX12_step 87 = .ok (.iaload, 1) := by decide +kernel
theorem dX12_step_88 : decode cX12_step 88 = .ok (.ireturn, 1) := by decide +kernel
theorem dX12_fills_0 : decode cX12_fills 0 = .ok (.iload_n 2, 1) := by decide +kernel
theorem dX12_fills_1 : decode cX12_fills 1 = .ok (.istore 4, 2) := by decide +kernel
theorem dX12_fills_3 : decode cX12_fills 3 = .ok (.aload_n 0, 1) := by decide +kernel
theorem dX12_fills_4 : decode cX12_fills 4 = .ok (.getfield 7, 3) := by decide +kernel
theorem dX12_fills_7 : decode cX12_fills 7 = .ok (.iconst 1, 1) := by decide +kernel
theorem dX12_fills_8 : decode cX12_fills 8 = .ok (.isub, 1) := by decide +kernel
theorem dX12_fills_9 : decode cX12_fills 9 = .ok (.istore 5, 2) := by decide +kernel
theorem dX12_fills_11 : decode cX12_fills 11 = .ok (.iload 5, 2) := by decide +kernel
theorem dX12_fills_13 : decode cX12_fills 13 = .ok (.iload_n 1, 1) := by decide +kernel
theorem dX12_fills_14 : decode cX12_fills 14 = .ok (.if_icmp .lt 61, 3) := by decide +kernel
theorem dX12_fills_17 : decode cX12_fills 17 = .ok (.aload_n 0, 1) := by decide +kernel
theorem dX12_fills_18 : decode cX12_fills 18 = .ok (.getfield 38, 3) := by decide +kernel
theorem dX12_fills_21 : decode cX12_fills 21 = .ok (.bipush 8, 2) := by decide +kernel
theorem dX12_fills_23 : decode cX12_fills 23 = .ok (.iload_n 3, 1) := by decide +kernel
theorem dX12_fills_24 : decode cX12_fills 24 = .ok (.imul, 1) := by decide +kernel
theorem dX12_fills_25 : decode cX12_fills 25 = .ok (.iload 5, 2) := by decide +kernel
theorem dX12_fills_27 : decode cX12_fills 27 = .ok (.iadd, 1) := by decide +kernel
theorem dX12_fills_28 : decode cX12_fills 28 = .ok (.iaload, 1) := by decide +kernel
theorem dX12_fills_29 : decode cX12_fills 29 = .ok (.iload 4, 2) := by decide +kernel
theorem dX12_fills_31 : decode cX12_fills 31 = .ok (.if_icmp .ge 18, 3) := by decide +kernel
theorem dX12_fills_34 : decode cX12_fills 34 = .ok (.aload_n 0, 1) := by decide +kernel
theorem dX12_fills_35 : decode cX12_fills 35 = .ok (.getfield 38, 3) := by decide +kernel
theorem dX12_fills_38 : decode cX12_fills 38 = .ok (.bipush 8, 2) := by decide +kernel
theorem dX12_fills_40 : decode cX12_fills 40 = .ok (.iload_n 3, 1) := by decide +kernel
theorem dX12_fills_41 : decode cX12_fills 41 = .ok (.imul, 1) := by decide +kernel
theorem dX12_fills_42 : decode cX12_fills 42 = .ok (.iload 5, 2) := by decide +kernel
theorem dX12_fills_44 : decode cX12_fills 44 = .ok (.iadd, 1) := by decide +kernel
theorem dX12_fills_45 : decode cX12_fills 45 = .ok (.iaload, 1) := by decide +kernel
theorem dX12_fills_46 : decode cX12_fills 46 = .ok (.goto 5, 3) := by decide +kernel
theorem dX12_fills_49 : decode cX12_fills 49 = .ok (.iload 4, 2) := by decide +kernel
theorem dX12_fills_51 : decode cX12_fills 51 = .ok (.istore 6, 2) := by decide +kernel
theorem dX12_fills_53 : decode cX12_fills 53 = .ok (.aload_n 0, 1) := by decide +kernel
theorem dX12_fills_54 : decode cX12_fills 54 = .ok (.getfield 127, 3) := by decide +kernel
theorem dX12_fills_57 : decode cX12_fills 57 = .ok (.iload 5, 2) := by decide +kernel
theorem dX12_fills_59 : decode cX12_fills 59 = .ok (.iload 6, 2) := by decide +kernel
theorem dX12_fills_61 : decode cX12_fills 61 = .ok (.iastore, 1) := by decide +kernel
theorem dX12_fills_62 : decode cX12_fills 62 = .ok (.iload 4, 2) := by decide +kernel
theorem dX12_fills_64 : decode cX12_fills 64 = .ok (.iload 6, 2) := by decide +kernel
theorem dX12_fills_66 : decode cX12_fills 66 = .ok (.isub, 1) := by decide +kernel
theorem dX12_fills_67 : decode cX12_fills 67 = .ok (.istore 4, 2) := by decide +kernel
theorem dX12_fills_69 : decode cX12_fills 69 = .ok (.iinc 5 (-1), 3) := by decide +kernel
theorem dX12_fills_72 : decode cX12_fills 72 = .ok (.goto (-61), 3) := by decide +kernel
theorem dX12_fills_75 : decode cX12_fills 75 = .ok (.iload 4, 2) := by decide +kernel
theorem dX12_fills_77 : decode cX12_fills 77 = .ok (.ifCond .ne 7, 3) := by decide +kernel
theorem dX12_fills_80 : decode cX12_fills 80 = .ok (.iconst 1, 1) := by decide +kernel
theorem dX12_fills_81 : decode cX12_fills 81 = .ok (.goto 4, 3) := by decide +kernel
theorem dX12_fills_84 : decode cX12_fills 84 = .ok (.iconst 0, 1) := by decide +kernel
theorem dX12_fills_85 : decode cX12_fills 85 = .ok (.ireturn, 1) := by decide +kernel
theorem dX12_nextBag_0 : decode cX12_nextBag 0 = .ok (.aload_n 0, 1) := by decide +kernel
theorem dX12_nextBag_1 : decode cX12_nextBag 1 = .ok (.getfield 127, 3) := by decide +kernel
theorem dX12_nextBag_4 : decode cX12_nextBag 4 = .ok (.aload_n 0, 1) := by decide +kernel
theorem dX12_nextBag_5 : decode cX12_nextBag 5 = .ok (.getfield 7, 3) := by decide +kernel
theorem dX12_nextBag_8 : decode cX12_nextBag 8 = .ok (.iconst 1, 1) := by decide +kernel
theorem dX12_nextBag_9 : decode cX12_nextBag 9 = .ok (.isub, 1) := by decide +kernel
theorem dX12_nextBag_10 : decode cX12_nextBag 10 = .ok (.iaload, 1) := by decide +kernel
theorem dX12_nextBag_11 : decode cX12_nextBag 11 = .ok (.istore_n 2, 1) := by decide +kernel
theorem dX12_nextBag_12 : decode cX12_nextBag 12 = .ok (.aload_n 0, 1) := by decide +kernel
theorem dX12_nextBag_13 : decode cX12_nextBag 13 = .ok (.getfield 7, 3) := by decide +kernel
theorem dX12_nextBag_16 : decode cX12_nextBag 16 = .ok (.iconst 2, 1) := by decide +kernel
theorem dX12_nextBag_17 : decode cX12_nextBag 17 = .ok (.isub, 1) := by decide +kernel
theorem dX12_nextBag_18 : decode cX12_nextBag 18 = .ok (.istore_n 3, 1) := by decide +kernel
theorem dX12_nextBag_19 : decode cX12_nextBag 19 = .ok (.iload_n 3, 1) := by decide +kernel
theorem dX12_nextBag_20 : decode cX12_nextBag 20 = .ok (.ifCond .lt 64, 3) := by decide +kernel
theorem dX12_nextBag_23 : decode cX12_nextBag 23 = .ok (.iload_n 2, 1) := by decide +kernel
theorem dX12_nextBag_24 : decode cX12_nextBag 24 = .ok (.ifCond .le 45, 3) := by decide +kernel
theorem dX12_nextBag_27 : decode cX12_nextBag 27 = .ok (.aload_n 0, 1) := by decide +kernel
theorem dX12_nextBag_28 : decode cX12_nextBag 28 = .ok (.getfield 127, 3) := by decide +kernel
theorem dX12_nextBag_31 : decode cX12_nextBag 31 = .ok (.iload_n 3, 1) := by decide +kernel
theorem dX12_nextBag_32 : decode cX12_nextBag 32 = .ok (.iaload, 1) := by decide +kernel
theorem dX12_nextBag_33 : decode cX12_nextBag 33 = .ok (.aload_n 0, 1) := by decide +kernel
theorem dX12_nextBag_34 : decode cX12_nextBag 34 = .ok (.getfield 38, 3) := by decide +kernel
theorem dX12_nextBag_37 : decode cX12_nextBag 37 = .ok (.bipush 8, 2) := by decide +kernel
theorem dX12_nextBag_39 : decode cX12_nextBag 39 = .ok (.iload_n 1, 1) := by decide +kernel
theorem dX12_nextBag_40 : decode cX12_nextBag 40 = .ok (.imul, 1) := by decide +kernel
theorem dX12_nextBag_41 : decode cX12_nextBag 41 = .ok (.iload_n 3, 1) := by decide +kernel
theorem dX12_nextBag_42 : decode cX12_nextBag 42 = .ok (.iadd, 1) := by decide +kernel
theorem dX12_nextBag_43 : decode cX12_nextBag 43 = .ok (.iaload, 1) := by decide +kernel
theorem dX12_nextBag_44 : decode cX12_nextBag 44 = .ok (.if_icmp .ge 25, 3) := by decide +kernel
theorem dX12_nextBag_47 : decode cX12_nextBag 47 = .ok (.aload_n 0, 1) := by decide +kernel
theorem dX12_nextBag_48 : decode cX12_nextBag 48 = .ok (.getfield 127, 3) := by decide +kernel
theorem dX12_nextBag_51 : decode cX12_nextBag 51 = .ok (.iload_n 3, 1) := by decide +kernel
theorem dX12_nextBag_52 : decode cX12_nextBag 52 = .ok (.dup2, 1) := by decide +kernel
theorem dX12_nextBag_53 : decode cX12_nextBag 53 = .ok (.iaload, 1) := by decide +kernel
theorem dX12_nextBag_54 : decode cX12_nextBag 54 = .ok (.iconst 1, 1) := by decide +kernel
theorem dX12_nextBag_55 : decode cX12_nextBag 55 = .ok (.iadd, 1) := by decide +kernel
theorem dX12_nextBag_56 : decode cX12_nextBag 56 = .ok (.iastore, 1) := by decide +kernel
theorem dX12_nextBag_57 : decode cX12_nextBag 57 = .ok (.aload_n 0, 1) := by decide +kernel
theorem dX12_nextBag_58 : decode cX12_nextBag 58 = .ok (.iload_n 3, 1) := by decide +kernel
theorem dX12_nextBag_59 : decode cX12_nextBag 59 = .ok (.iconst 1, 1) := by decide +kernel
theorem dX12_nextBag_60 : decode cX12_nextBag 60 = .ok (.iadd, 1) := by decide +kernel
theorem dX12_nextBag_61 : decode cX12_nextBag 61 = .ok (.iload_n 2, 1) := by decide +kernel
theorem dX12_nextBag_62 : decode cX12_nextBag 62 = .ok (.iconst 1, 1) := by decide +kernel
theorem dX12_nextBag_63 : decode cX12_nextBag 63 = .ok (.isub, 1) := by decide +kernel
theorem dX12_nextBag_64 : decode cX12_nextBag 64 = .ok (.iload_n 1, 1) := by decide +kernel
theorem dX12_nextBag_65 : decode cX12_nextBag 65 = .ok (.invokevirtual 457, 3) := by decide +kernel
theorem dX12_nextBag_68 : decode cX12_nextBag 68 = .ok (.ireturn, 1) := by decide +kernel
theorem dX12_nextBag_69 : decode cX12_nextBag 69 = .ok (.iload_n 2, 1) := by decide +kernel
theorem dX12_nextBag_70 : decode cX12_nextBag 70 = .ok (.aload_n 0, 1) := by decide +kernel
theorem dX12_nextBag_71 : decode cX12_nextBag 71 = .ok (.getfield 127, 3) := by decide +kernel
theorem dX12_nextBag_74 : decode cX12_nextBag 74 = .ok (.iload_n 3, 1) := by decide +kernel
theorem dX12_nextBag_75 : decode cX12_nextBag 75 = .ok (.iaload, 1) := by decide +kernel
theorem dX12_nextBag_76 : decode cX12_nextBag 76 = .ok (.iadd, 1) := by decide +kernel
theorem dX12_nextBag_77 : decode cX12_nextBag 77 = .ok (.istore_n 2, 1) := by decide +kernel
theorem dX12_nextBag_78 : decode cX12_nextBag 78 = .ok (.iinc 3 (-1), 3) := by decide +kernel
theorem dX12_nextBag_81 : decode cX12_nextBag 81 = .ok (.goto (-62), 3) := by decide +kernel
theorem dX12_nextBag_84 : decode cX12_nextBag 84 = .ok (.iconst 0, 1) := by decide +kernel
theorem dX12_nextBag_85 : decode cX12_nextBag 85 = .ok (.ireturn, 1) := by decide +kernel
theorem dX12_poor_0 : decode cX12_poor 0 = .ok (.aload_n 0, 1) := by decide +kernel
theorem dX12_poor_1 : decode cX12_poor 1 = .ok (.iconst 0, 1) := by decide +kernel
theorem dX12_poor_2 : decode cX12_poor 2 = .ok (.putfield 184, 3) := by decide +kernel
theorem dX12_poor_5 : decode cX12_poor 5 = .ok (.aload_n 0, 1) := by decide +kernel
theorem dX12_poor_6 : decode cX12_poor 6 = .ok (.iload_n 1, 1) := by decide +kernel
theorem dX12_poor_7 : decode cX12_poor 7 = .ok (.invokevirtual 362, 3) := by decide +kernel
theorem dX12_poor_10 : decode cX12_poor 10 = .ok (.ifCond .eq 11, 3) := by decide +kernel
theorem dX12_poor_13 : decode cX12_poor 13 = .ok (.aload_n 0, 1) := by decide +kernel
theorem dX12_poor_14 : decode cX12_poor 14 = .ok (.iload_n 2, 1) := by decide +kernel
theorem dX12_poor_15 : decode cX12_poor 15 = .ok (.invokevirtual 365, 3) := by decide +kernel
theorem dX12_poor_18 : decode cX12_poor 18 = .ok (.ifCond .ne 5, 3) := by decide +kernel
theorem dX12_poor_21 : decode cX12_poor 21 = .ok (.iconst 0, 1) := by decide +kernel
theorem dX12_poor_22 : decode cX12_poor 22 = .ok (.ireturn, 1) := by decide +kernel
theorem dX12_poor_23 : decode cX12_poor 23 = .ok (.iconst 0, 1) := by decide +kernel
theorem dX12_poor_24 : decode cX12_poor 24 = .ok (.istore_n 3, 1) := by decide +kernel
theorem dX12_poor_25 : decode cX12_poor 25 = .ok (.iconst 0, 1) := by decide +kernel
theorem dX12_poor_26 : decode cX12_poor 26 = .ok (.istore 4, 2) := by decide +kernel
theorem dX12_poor_28 : decode cX12_poor 28 = .ok (.iload 4, 2) := by decide +kernel
theorem dX12_poor_30 : decode cX12_poor 30 = .ok (.aload_n 0, 1) := by decide +kernel
theorem dX12_poor_31 : decode cX12_poor 31 = .ok (.getfield 7, 3) := by decide +kernel
theorem dX12_poor_34 : decode cX12_poor 34 = .ok (.if_icmp .ge 24, 3) := by decide +kernel
theorem dX12_poor_37 : decode cX12_poor 37 = .ok (.iload_n 3, 1) := by decide +kernel
theorem dX12_poor_38 : decode cX12_poor 38 = .ok (.aload_n 0, 1) := by decide +kernel
theorem dX12_poor_39 : decode cX12_poor 39 = .ok (.getfield 38, 3) := by decide +kernel
theorem dX12_poor_42 : decode cX12_poor 42 = .ok (.bipush 8, 2) := by decide +kernel
theorem dX12_poor_44 : decode cX12_poor 44 = .ok (.iload_n 1, 1) := by decide +kernel
theorem dX12_poor_45 : decode cX12_poor 45 = .ok (.imul, 1) := by decide +kernel
theorem dX12_poor_46 : decode cX12_poor 46 = .ok (.iload 4, 2) := by decide +kernel
theorem dX12_poor_48 : decode cX12_poor 48 = .ok (.iadd, 1) := by decide +kernel
theorem dX12_poor_49 : decode cX12_poor 49 = .ok (.iaload, 1) := by decide +kernel
theorem dX12_poor_50 : decode cX12_poor 50 = .ok (.iadd, 1) := by decide +kernel
theorem dX12_poor_51 : decode cX12_poor 51 = .ok (.istore_n 3, 1) := by decide +kernel
theorem dX12_poor_52 : decode cX12_poor 52 = .ok (.iinc 4 1, 3) := by decide +kernel
theorem dX12_poor_55 : decode cX12_poor 55 = .ok (.goto (-27), 3) := by decide +kernel
theorem dX12_poor_58 : decode cX12_poor 58 = .ok (.aload_n 0, 1) := by decide +kernel
theorem dX12_poor_59 : decode cX12_poor 59 = .ok (.iload_n 1, 1) := by decide +kernel
theorem dX12_poor_60 : decode cX12_poor 60 = .ok (.putfield 421, 3) := by decide +kernel
theorem dX12_poor_63 : decode cX12_poor 63 = .ok (.aload_n 0, 1) := by decide +kernel
theorem dX12_poor_64 : decode cX12_poor 64 = .ok (.iload_n 2, 1) := by decide +kernel
theorem dX12_poor_65 : decode cX12_poor 65 = .ok (.putfield 424, 3) := by decide +kernel
theorem dX12_poor_68 : decode cX12_poor 68 = .ok (.aload_n 0, 1) := by decide +kernel
theorem dX12_poor_69 : decode cX12_poor 69 = .ok (.sipush 300, 3) := by decide +kernel
theorem dX12_poor_72 : decode cX12_poor 72 = .ok (.putfield 411, 3) := by decide +kernel
theorem dX12_poor_75 : decode cX12_poor 75 = .ok (.iconst 0, 1) := by decide +kernel
theorem dX12_poor_76 : decode cX12_poor 76 = .ok (.istore 4, 2) := by decide +kernel
theorem dX12_poor_78 : decode cX12_poor 78 = .ok (.iconst 0, 1) := by decide +kernel
theorem dX12_poor_79 : decode cX12_poor 79 = .ok (.istore 5, 2) := by decide +kernel
theorem dX12_poor_81 : decode cX12_poor 81 = .ok (.iload 5, 2) := by decide +kernel
theorem dX12_poor_83 : decode cX12_poor 83 = .ok (.iload_n 3, 1) := by decide +kernel
theorem dX12_poor_84 : decode cX12_poor 84 = .ok (.if_icmp .gt 173, 3) := by decide +kernel
theorem dX12_poor_87 : decode cX12_poor 87 = .ok (.aload_n 0, 1) := by decide +kernel
theorem dX12_poor_88 : decode cX12_poor 88 = .ok (.iconst 0, 1) := by decide +kernel
theorem dX12_poor_89 : decode cX12_poor 89 = .ok (.iload 5, 2) := by decide +kernel
theorem dX12_poor_91 : decode cX12_poor 91 = .ok (.iload_n 1, 1) := by decide +kernel
theorem dX12_poor_92 : decode cX12_poor 92 = .ok (.invokevirtual 457, 3) := by decide +kernel
theorem dX12_poor_95 : decode cX12_poor 95 = .ok (.istore 6, 2) := by decide +kernel
theorem dX12_poor_97 : decode cX12_poor 97 = .ok (.iload 6, 2) := by decide +kernel
theorem dX12_poor_99 : decode cX12_poor 99 = .ok (.ifCond .eq 152, 3) := by decide +kernel
theorem dX12_poor_102 : decode cX12_poor 102 = .ok (.iload 4, 2) := by decide +kernel
theorem dX12_poor_104 : decode cX12_poor 104 = .ok (.bipush 100, 2) := by decide +kernel
theorem dX12_poor_106 : decode cX12_poor 106 = .ok (.if_icmp .ne 6, 3) := by decide +kernel
theorem dX12_poor_109 : decode cX12_poor 109 = .ok (.bipush (-2), 2) := by decide +kernel
theorem dX12_poor_111 : decode cX12_poor 111 = .ok (.ireturn, 1) := by decide +kernel
theorem dX12_poor_112 : decode cX12_poor 112 = .ok (.iinc 4 1, 3) := by decide +kernel
theorem dX12_poor_115 : decode cX12_poor 115 = .ok (.aload_n 0, 1) := by decide +kernel
theorem dX12_poor_116 : decode cX12_poor 116 = .ok (.aload_n 0, 1) := by decide +kernel
theorem dX12_poor_117 : decode cX12_poor 117 = .ok (.getfield 38, 3) := by decide +kernel
theorem dX12_poor_120 : decode cX12_poor 120 = .ok (.aload_n 0, 1) := by decide +kernel
theorem dX12_poor_121 : decode cX12_poor 121 = .ok (.getfield 130, 3) := by decide +kernel
theorem dX12_poor_124 : decode cX12_poor 124 = .ok (.invokevirtual 328, 3) := by decide +kernel
theorem dX12_poor_127 : decode cX12_poor 127 = .ok (.iconst 0, 1) := by decide +kernel
theorem dX12_poor_128 : decode cX12_poor 128 = .ok (.istore 7, 2) := by decide +kernel
theorem dX12_poor_130 : decode cX12_poor 130 = .ok (.iload 7, 2) := by decide +kernel
theorem dX12_poor_132 : decode cX12_poor 132 = .ok (.aload_n 0, 1) := by decide +kernel
theorem dX12_poor_133 : decode cX12_poor 133 = .ok (.getfield 7, 3) := by decide +kernel
theorem dX12_poor_136 : decode cX12_poor 136 = .ok (.if_icmp .ge 28, 3) := by decide +kernel
theorem dX12_poor_139 : decode cX12_poor 139 = .ok (.aload_n 0, 1) := by decide +kernel
theorem dX12_poor_140 : decode cX12_poor 140 = .ok (.getfield 130, 3) := by decide +kernel
theorem dX12_poor_143 : decode cX12_poor 143 = .ok (.bipush 8, 2) := by decide +kernel
theorem dX12_poor_145 : decode cX12_poor 145 = .ok (.iload_n 1, 1) := by decide +kernel
theorem dX12_poor_146 : decode cX12_poor 146 = .ok (.imul, 1) := by decide +kernel
theorem dX12_poor_147 : decode cX12_poor 147 = .ok (.iload 7, 2) := by decide +kernel
theorem dX12_poor_149 : decode cX12_poor 149 = .ok (.iadd, 1) := by decide +kernel
theorem dX12_poor_150 : decode cX12_poor 150 = .ok (.aload_n 0, 1) := by decide +kernel
theorem dX12_poor_151 : decode cX12_poor 151 = .ok (.getfield 127, 3) := by decide +kernel
theorem dX12_poor_154 : decode cX12_poor 154 = .ok (.iload 7, 2) := by decide +kernel
theorem dX12_poor_156 : decode cX12_poor 156 = .ok (.iaload, 1) := by decide +kernel
theorem dX12_poor_157 : decode cX12_poor 157 = .ok (.iastore, 1) := by decide +kernel
theorem dX12_poor_158 : decode cX12_poor 158 = .ok (.iinc 7 1, 3) := by decide +kernel
theorem dX12_poor_161 : decode cX12_poor 161 = .ok (.goto (-31), 3) := by decide +kernel
theorem dX12_poor_164 : decode cX12_poor 164 = .ok (.aload_n 0, 1) := by decide +kernel
theorem dX12_poor_165 : decode cX12_poor 165 = .ok (.aload_n 0, 1) := by decide +kernel
theorem dX12_poor_166 : decode cX12_poor 166 = .ok (.getfield 130, 3) := by decide +kernel
theorem dX12_poor_169 : decode cX12_poor 169 = .ok (.invokevirtual 450, 3) := by decide +kernel
theorem dX12_poor_172 : decode cX12_poor 172 = .ok (.aload_n 0, 1) := by decide +kernel
theorem dX12_poor_173 : decode cX12_poor 173 = .ok (.getfield 414, 3) := by decide +kernel
theorem dX12_poor_176 : decode cX12_poor 176 = .ok (.ifCond .eq 6, 3) := by decide +kernel
theorem dX12_poor_179 : decode cX12_poor 179 = .ok (.bipush (-2), 2) := by decide +kernel
theorem dX12_poor_181 : decode cX12_poor 181 = .ok (.ireturn, 1) := by decide +kernel
theorem dX12_poor_182 : decode cX12_poor 182 = .ok (.aload_n 0, 1) := by decide +kernel
theorem dX12_poor_183 : decode cX12_poor 183 = .ok (.getfield 427, 3) := by decide +kernel
theorem dX12_poor_186 : decode cX12_poor 186 = .ok (.iconst (-1), 1) := by decide +kernel
theorem dX12_poor_187 : decode cX12_poor 187 = .ok (.if_icmp .eq 54, 3) := by decide +kernel
theorem dX12_poor_190 : decode cX12_poor 190 = .ok (.aload_n 0, 1) := by decide +kernel
theorem dX12_poor_191 : decode cX12_poor 191 = .ok (.iconst 1, 1) := by decide +kernel
theorem dX12_poor_192 : decode cX12_poor 192 = .ok (.putfield 335, 3) := by decide +kernel
theorem dX12_poor_195 : decode cX12_poor 195 = .ok (.iconst 0, 1) := by decide +kernel
theorem dX12_poor_196 : decode cX12_poor 196 = .ok (.istore 7, 2) := by decide +kernel
theorem dX12_poor_198 : decode cX12_poor 198 = .ok (.iload 7, 2) := by decide +kernel
theorem dX12_poor_200 : decode cX12_poor 200 = .ok (.bipush 8, 2) := by decide +kernel
theorem dX12_poor_202 : decode cX12_poor 202 = .ok (.if_icmp .ge 36, 3) := by decide +kernel
theorem dX12_poor_205 : decode cX12_poor 205 = .ok (.aload_n 0, 1) := by decide +kernel
theorem dX12_poor_206 : decode cX12_poor 206 = .ok (.getfield 124, 3) := by decide +kernel
theorem dX12_poor_209 : decode cX12_poor 209 = .ok (.iload 7, 2) := by decide +kernel
theorem dX12_poor_211 : decode cX12_poor 211 = .ok (.iload 7, 2) := by decide +kernel
theorem dX12_poor_213 : decode cX12_poor 213 = .ok (.aload_n 0, 1) := by decide +kernel
theorem dX12_poor_214 : decode cX12_poor 214 = .ok (.getfield 7, 3) := by decide +kernel
theorem dX12_poor_217 : decode cX12_poor 217 = .ok (.if_icmp .ge 13, 3) := by decide +kernel
theorem dX12_poor_220 : decode cX12_poor 220 = .ok (.aload_n 0, 1) := by decide +kernel
theorem dX12_poor_221 : decode cX12_poor 221 = .ok (.getfield 127, 3) := by decide +kernel
theorem dX12_poor_224 : decode cX12_poor 224 = .ok (.iload 7, 2) := by decide +kernel
theorem dX12_poor_226 : decode cX12_poor 226 = .ok (.iaload, 1) := by decide +kernel
theorem dX12_poor_227 : decode cX12_poor 227 = .ok (.goto 4, 3) := by decide +kernel
theorem dX12_poor_230 : decode cX12_poor 230 = .ok (.iconst 0, 1) := by decide +kernel
theorem dX12_poor_231 : decode cX12_poor 231 = .ok (.iastore, 1) := by decide +kernel
theorem dX12_poor_232 : decode cX12_poor 232 = .ok (.iinc 7 1, 3) := by decide +kernel
theorem dX12_poor_235 : decode cX12_poor 235 = .ok (.goto (-37), 3) := by decide +kernel
theorem dX12_poor_238 : decode cX12_poor 238 = .ok (.iload 5, 2) := by decide +kernel
theorem dX12_poor_240 : decode cX12_poor 240 = .ok (.ireturn, 1) := by decide +kernel
theorem dX12_poor_241 : decode cX12_poor 241 = .ok (.aload_n 0, 1) := by decide +kernel
theorem dX12_poor_242 : decode cX12_poor 242 = .ok (.iload_n 1, 1) := by decide +kernel
theorem dX12_poor_243 : decode cX12_poor 243 = .ok (.invokevirtual 460, 3) := by decide +kernel
theorem dX12_poor_246 : decode cX12_poor 246 = .ok (.istore 6, 2) := by decide +kernel
theorem dX12_poor_248 : decode cX12_poor 248 = .ok (.goto (-151), 3) := by decide +kernel
theorem dX12_poor_251 : decode cX12_poor 251 = .ok (.iinc 5 1, 3) := by decide +kernel
theorem dX12_poor_254 : decode cX12_poor 254 = .ok (.goto (-173), 3) := by decide +kernel
theorem dX12_poor_257 : decode cX12_poor 257 = .ok (.iconst (-1), 1) := by decide +kernel
theorem dX12_poor_258 : decode cX12_poor 258 = .ok (.ireturn, 1) := by decide +kernel
theorem dX12_bag_0 : decode cX12_bag 0 = .ok (.aload_n 0, 1) := by decide +kernel
theorem dX12_bag_1 : decode cX12_bag 1 = .ok (.iconst 0, 1) := by decide +kernel
theorem dX12_bag_2 : decode cX12_bag 2 = .ok (.putfield 184, 3) := by decide +kernel
theorem dX12_bag_5 : decode cX12_bag 5 = .ok (.aload_n 0, 1) := by decide +kernel
theorem dX12_bag_6 : decode cX12_bag 6 = .ok (.iload_n 1, 1) := by decide +kernel
theorem dX12_bag_7 : decode cX12_bag 7 = .ok (.invokevirtual 365, 3) := by decide +kernel
theorem dX12_bag_10 : decode cX12_bag 10 = .ok (.ifCond .eq 24, 3) := by decide +kernel
theorem dX12_bag_13 : decode cX12_bag 13 = .ok (.aload_n 0, 1) := by decide +kernel
theorem dX12_bag_14 : decode cX12_bag 14 = .ok (.aload_n 0, 1) := by decide +kernel
theorem dX12_bag_15 : decode cX12_bag 15 = .ok (.getfield 335, 3) := by decide +kernel
theorem dX12_bag_18 : decode cX12_bag 18 = .ok (.iconst 1, 1) := by decide +kernel
theorem dX12_bag_19 : decode cX12_bag 19 = .ok (.invokevirtual 309, 3) := by decide +kernel
theorem dX12_bag_22 : decode cX12_bag 22 = .ok (.ifCond .eq 12, 3) := by decide +kernel
theorem dX12_bag_25 : decode cX12_bag 25 = .ok (.aload_n 0, 1) := by decide +kernel
theorem dX12_bag_26 : decode cX12_bag 26 = .ok (.getfield 124, 3) := by decide +kernel
theorem dX12_bag_29 : decode cX12_bag 29 = .ok (.iload_n 1, 1) := by decide +kernel
theorem dX12_bag_30 : decode cX12_bag 30 = .ok (.iaload, 1) := by decide +kernel
theorem dX12_bag_31 : decode cX12_bag 31 = .ok (.goto 4, 3) := by decide +kernel
theorem dX12_bag_34 : decode cX12_bag 34 = .ok (.iconst 0, 1) := by decide +kernel
theorem dX12_bag_35 : decode cX12_bag 35 = .ok (.ireturn, 1) := by decide +kernel
theorem dX12_most_0 : decode cX12_most 0 = .ok (.aload_n 0, 1) := by decide +kernel
theorem dX12_most_1 : decode cX12_most 1 = .ok (.iconst 0, 1) := by decide +kernel
theorem dX12_most_2 : decode cX12_most 2 = .ok (.putfield 184, 3) := by decide +kernel
theorem dX12_most_5 : decode cX12_most 5 = .ok (.aload_n 0, 1) := by decide +kernel
theorem dX12_most_6 : decode cX12_most 6 = .ok (.iconst (-1), 1) := by decide +kernel
theorem dX12_most_7 : decode cX12_most 7 = .ok (.putfield 421, 3) := by decide +kernel
theorem dX12_most_10 : decode cX12_most 10 = .ok (.aload_n 0, 1) := by decide +kernel
theorem dX12_most_11 : decode cX12_most 11 = .ok (.sipush 400, 3) := by decide +kernel
theorem dX12_most_14 : decode cX12_most 14 = .ok (.putfield 411, 3) := by decide +kernel
theorem dX12_most_17 : decode cX12_most 17 = .ok (.aload_n 0, 1) := by decide +kernel
theorem dX12_most_18 : decode cX12_most 18 = .ok (.aload_n 0, 1) := by decide +kernel
theorem dX12_most_19 : decode cX12_most 19 = .ok (.getfield 38, 3) := by decide +kernel
theorem dX12_most_22 : decode cX12_most 22 = .ok (.invokevirtual 450, 3) := by decide +kernel
theorem dX12_most_25 : decode cX12_most 25 = .ok (.aload_n 0, 1) := by decide +kernel
theorem dX12_most_26 : decode cX12_most 26 = .ok (.getfield 414, 3) := by decide +kernel
theorem dX12_most_29 : decode cX12_most 29 = .ok (.ifCond .eq 6, 3) := by decide +kernel
theorem dX12_most_32 : decode cX12_most 32 = .ok (.bipush (-2), 2) := by decide +kernel
theorem dX12_most_34 : decode cX12_most 34 = .ok (.ireturn, 1) := by decide +kernel
theorem dX12_most_35 : decode cX12_most 35 = .ok (.iconst 0, 1) := by decide +kernel
theorem dX12_most_36 : decode cX12_most 36 = .ok (.istore_n 1, 1) := by decide +kernel
theorem dX12_most_37 : decode cX12_most 37 = .ok (.iconst (-1), 1) := by decide +kernel
theorem dX12_most_38 : decode cX12_most 38 = .ok (.istore_n 2, 1) := by decide +kernel
theorem dX12_most_39 : decode cX12_most 39 = .ok (.iconst 0, 1) := by decide +kernel
theorem dX12_most_40 : decode cX12_most 40 = .ok (.istore_n 3, 1) := by decide +kernel
theorem dX12_most_41 : decode cX12_most 41 = .ok (.iload_n 3, 1) := by decide +kernel
theorem dX12_most_42 : decode cX12_most 42 = .ok (.aload_n 0, 1) := by decide +kernel
theorem dX12_most_43 : decode cX12_most 43 = .ok (.getfield 401, 3) := by decide +kernel
theorem dX12_most_46 : decode cX12_most 46 = .ok (.if_icmp .ge 79, 3) := by decide +kernel
theorem dX12_most_49 : decode cX12_most 49 = .ok (.iconst 0, 1) := by decide +kernel
theorem dX12_most_50 : decode cX12_most 50 = .ok (.istore 4, 2) := by decide +kernel
theorem dX12_most_52 : decode cX12_most 52 = .ok (.iload 4, 2) := by decide +kernel
theorem dX12_most_54 : decode cX12_most 54 = .ok (.bipush 48, 2) := by decide +kernel
theorem dX12_most_56 : decode cX12_most 56 = .ok (.if_icmp .ge 28, 3) := by decide +kernel
theorem dX12_most_59 : decode cX12_most 59 = .ok (.aload_n 0, 1) := by decide +kernel
theorem dX12_most_60 : decode cX12_most 60 = .ok (.getfield 109, 3) := by decide +kernel
theorem dX12_most_63 : decode cX12_most 63 = .ok (.iload 4, 2) := by decide +kernel
theorem dX12_most_65 : decode cX12_most 65 = .ok (.aload_n 0, 1) := by decide +kernel
theorem dX12_most_66 : decode cX12_most 66 = .ok (.getfield 88, 3) := by decide +kernel
theorem dX12_most_69 : decode cX12_most 69 = .ok (.bipush 48, 2) := by decide +kernel
theorem dX12_most_71 : decode cX12_most 71 = .ok (.iload_n 3, 1) := by decide +kernel
theorem dX12_most_72 : decode cX12_most 72 = .ok (.imul, 1) := by decide +kernel
theorem dX12_most_73 : decode cX12_most 73 = .ok (.iload 4, 2) := by decide +kernel
theorem dX12_most_75 : decode cX12_most 75 = .ok (.iadd, 1) := by decide +kernel
theorem dX12_most_76 : decode cX12_most 76 = .ok (.iaload, 1) := by decide +kernel
theorem dX12_most_77 : decode cX12_most 77 = .ok (.iastore, 1) := by decide +kernel
theorem dX12_most_78 : decode cX12_most 78 = .ok (.iinc 4 1, 3) := by decide +kernel
theorem dX12_most_81 : decode cX12_most 81 = .ok (.goto (-29), 3) := by decide +kernel
theorem dX12_most_84 : decode cX12_most 84 = .ok (.aload_n 0, 1) := by decide +kernel
theorem dX12_most_85 : decode cX12_most 85 = .ok (.aload_n 0, 1) := by decide +kernel
theorem dX12_most_86 : decode cX12_most 86 = .ok (.getfield 109, 3) := by decide +kernel
theorem dX12_most_89 : decode cX12_most 89 = .ok (.invokevirtual 368, 3) := by decide +kernel
theorem dX12_most_92 : decode cX12_most 92 = .ok (.istore 4, 2) := by decide +kernel
theorem dX12_most_94 : decode cX12_most 94 = .ok (.iload 4, 2) := by decide +kernel
theorem dX12_most_96 : decode cX12_most 96 = .ok (.iload_n 2, 1) := by decide +kernel
theorem dX12_most_97 : decode cX12_most 97 = .ok (.if_icmp .le 7, 3) := by decide +kernel
theorem dX12_most_100 : decode cX12_most 100 = .ok (.iload_n 3, 1) := by decide +kernel
theorem dX12_most_101 : decode cX12_most 101 = .ok (.goto 4, 3) := by decide +kernel
theorem dX12_most_104 : decode cX12_most 104 = .ok (.iload_n 1, 1) := by decide +kernel
theorem dX12_most_105 : decode cX12_most 105 = .ok (.istore_n 1, 1) := by decide +kernel
theorem dX12_most_106 : decode cX12_most 106 = .ok (.iload 4, 2) := by decide +kernel
theorem dX12_most_108 : decode cX12_most 108 = .ok (.iload_n 2, 1) := by decide +kernel
theorem dX12_most_109 : decode cX12_most 109 = .ok (.if_icmp .le 8, 3) := by decide +kernel
theorem dX12_most_112 : decode cX12_most 112 = .ok (.iload 4, 2) := by decide +kernel
theorem dX12_most_114 : decode cX12_most 114 = .ok (.goto 4, 3) := by decide +kernel
theorem dX12_most_117 : decode cX12_most 117 = .ok (.iload_n 2, 1) := by decide +kernel
theorem dX12_most_118 : decode cX12_most 118 = .ok (.istore_n 2, 1) := by decide +kernel
theorem dX12_most_119 : decode cX12_most 119 = .ok (.iinc 3 1, 3) := by decide +kernel
theorem dX12_most_122 : decode cX12_most 122 = .ok (.goto (-81), 3) := by decide +kernel
theorem dX12_most_125 : decode cX12_most 125 = .ok (.aload_n 0, 1) := by decide +kernel
theorem dX12_most_126 : decode cX12_most 126 = .ok (.iload_n 1, 1) := by decide +kernel
theorem dX12_most_127 : decode cX12_most 127 = .ok (.invokevirtual 454, 3) := by decide +kernel
theorem dX12_most_130 : decode cX12_most 130 = .ok (.iload_n 2, 1) := by decide +kernel
theorem dX12_most_131 : decode cX12_most 131 = .ok (.ireturn, 1) := by decide +kernel
theorem dX12_freely_0 : decode cX12_freely 0 = .ok (.aload_n 0, 1) := by decide +kernel
theorem dX12_freely_1 : decode cX12_freely 1 = .ok (.iconst 0, 1) := by decide +kernel
theorem dX12_freely_2 : decode cX12_freely 2 = .ok (.putfield 184, 3) := by decide +kernel
theorem dX12_freely_5 : decode cX12_freely 5 = .ok (.iconst 0, 1) := by decide +kernel
theorem dX12_freely_6 : decode cX12_freely 6 = .ok (.istore_n 1, 1) := by decide +kernel
theorem dX12_freely_7 : decode cX12_freely 7 = .ok (.iconst 0, 1) := by decide +kernel
theorem dX12_freely_8 : decode cX12_freely 8 = .ok (.istore_n 2, 1) := by decide +kernel
theorem dX12_freely_9 : decode cX12_freely 9 = .ok (.iload_n 2, 1) := by decide +kernel
theorem dX12_freely_10 : decode cX12_freely 10 = .ok (.aload_n 0, 1) := by decide +kernel
theorem dX12_freely_11 : decode cX12_freely 11 = .ok (.getfield 7, 3) := by decide +kernel
theorem dX12_freely_14 : decode cX12_freely 14 = .ok (.if_icmp .ge 79, 3) := by decide +kernel
theorem dX12_freely_17 : decode cX12_freely 17 = .ok (.iconst 0, 1) := by decide +kernel
theorem dX12_freely_18 : decode cX12_freely 18 = .ok (.istore_n 3, 1) := by decide +kernel
theorem dX12_freely_19 : decode cX12_freely 19 = .ok (.iconst 0, 1) := by decide +kernel
theorem dX12_freely_20 : decode cX12_freely 20 = .ok (.istore 4, 2) := by decide +kernel
theorem dX12_freely_22 : decode cX12_freely 22 = .ok (.iload 4, 2) := by decide +kernel
theorem dX12_freely_24 : decode cX12_freely 24 = .ok (.aload_n 0, 1) := by decide +kernel
theorem dX12_freely_25 : decode cX12_freely 25 = .ok (.getfield 316, 3) := by decide +kernel
theorem dX12_freely_28 : decode cX12_freely 28 = .ok (.if_icmp .ge 42, 3) := by decide +kernel
theorem dX12_freely_31 : decode cX12_freely 31 = .ok (.aload_n 0, 1) := by decide +kernel
theorem dX12_freely_32 : decode cX12_freely 32 = .ok (.getfield 19, 3) := by decide +kernel
theorem dX12_freely_35 : decode cX12_freely 35 = .ok (.bipush 8, 2) := by decide +kernel
theorem dX12_freely_37 : decode cX12_freely 37 = .ok (.iload 4, 2) := by decide +kernel
theorem dX12_freely_39 : decode cX12_freely 39 = .ok (.imul, 1) := by decide +kernel
theorem dX12_freely_40 : decode cX12_freely 40 = .ok (.iload_n 2, 1) := by decide +kernel
theorem dX12_freely_41 : decode cX12_freely 41 = .ok (.iadd, 1) := by decide +kernel
theorem dX12_freely_42 : decode cX12_freely 42 = .ok (.iaload, 1) := by decide +kernel
theorem dX12_freely_43 : decode cX12_freely 43 = .ok (.iload_n 3, 1) := by decide +kernel
theorem dX12_freely_44 : decode cX12_freely 44 = .ok (.if_icmp .le 18, 3) := by decide +kernel
theorem dX12_freely_47 : decode cX12_freely 47 = .ok (.aload_n 0, 1) := by decide +kernel
theorem dX12_freely_48 : decode cX12_freely 48 = .ok (.getfield 19, 3) := by decide +kernel
theorem dX12_freely_51 : decode cX12_freely 51 = .ok (.bipush 8, 2) := by decide +kernel
theorem dX12_freely_53 : decode cX12_freely 53 = .ok (.iload 4, 2) := by decide +kernel
theorem dX12_freely_55 : decode cX12_freely 55 = .ok (.imul, 1) := by decide +kernel
theorem dX12_freely_56 : decode cX12_freely 56 = .ok (.iload_n 2, 1) := by decide +kernel
theorem dX12_freely_57 : decode cX12_freely 57 = .ok (.iadd, 1) := by decide +kernel
theorem dX12_freely_58 : decode cX12_freely 58 = .ok (.iaload, 1) := by decide +kernel
theorem dX12_freely_59 : decode cX12_freely 59 = .ok (.goto 4, 3) := by decide +kernel
theorem dX12_freely_62 : decode cX12_freely 62 = .ok (.iload_n 3, 1) := by decide +kernel
theorem dX12_freely_63 : decode cX12_freely 63 = .ok (.istore_n 3, 1) := by decide +kernel
theorem dX12_freely_64 : decode cX12_freely 64 = .ok (.iinc 4 1, 3) := by decide +kernel
theorem dX12_freely_67 : decode cX12_freely 67 = .ok (.goto (-45), 3) := by decide +kernel
theorem dX12_freely_70 : decode cX12_freely 70 = .ok (.iload_n 1, 1) := by decide +kernel
theorem dX12_freely_71 : decode cX12_freely 71 = .ok (.bipush 100, 2) := by decide +kernel
theorem dX12_freely_73 : decode cX12_freely 73 = .ok (.iload_n 3, 1) := by decide +kernel
theorem dX12_freely_74 : decode cX12_freely 74 = .ok (.imul, 1) := by decide +kernel
theorem dX12_freely_75 : decode cX12_freely 75 = .ok (.aload_n 0, 1) := by decide +kernel
theorem dX12_freely_76 : decode cX12_freely 76 = .ok (.aload_n 0, 1) := by decide +kernel
theorem dX12_freely_77 : decode cX12_freely 77 = .ok (.getfield 38, 3) := by decide +kernel
theorem dX12_freely_80 : decode cX12_freely 80 = .ok (.iload_n 2, 1) := by decide +kernel
theorem dX12_freely_81 : decode cX12_freely 81 = .ok (.invokevirtual 347, 3) := by decide +kernel
theorem dX12_freely_84 : decode cX12_freely 84 = .ok (.imul, 1) := by decide +kernel
theorem dX12_freely_85 : decode cX12_freely 85 = .ok (.iadd, 1) := by decide +kernel
theorem dX12_freely_86 : decode cX12_freely 86 = .ok (.istore_n 1, 1) := by decide +kernel
theorem dX12_freely_87 : decode cX12_freely 87 = .ok (.iinc 2 1, 3) := by decide +kernel
theorem dX12_freely_90 : decode cX12_freely 90 = .ok (.goto (-81), 3) := by decide +kernel
theorem dX12_freely_93 : decode cX12_freely 93 = .ok (.iconst 0, 1) := by decide +kernel
theorem dX12_freely_94 : decode cX12_freely 94 = .ok (.istore_n 2, 1) := by decide +kernel
theorem dX12_freely_95 : decode cX12_freely 95 = .ok (.iload_n 2, 1) := by decide +kernel
theorem dX12_freely_96 : decode cX12_freely 96 = .ok (.aload_n 0, 1) := by decide +kernel
theorem dX12_freely_97 : decode cX12_freely 97 = .ok (.getfield 316, 3) := by decide +kernel
theorem dX12_freely_100 : decode cX12_freely 100 = .ok (.if_icmp .ge 48, 3) := by decide +kernel
theorem dX12_freely_103 : decode cX12_freely 103 = .ok (.iconst 0, 1) := by decide +kernel
theorem dX12_freely_104 : decode cX12_freely 104 = .ok (.istore_n 3, 1) := by decide +kernel
theorem dX12_freely_105 : decode cX12_freely 105 = .ok (.iload_n 3, 1) := by decide +kernel
theorem dX12_freely_106 : decode cX12_freely 106 = .ok (.aload_n 0, 1) := by decide +kernel
theorem dX12_freely_107 : decode cX12_freely 107 = .ok (.getfield 26, 3) := by decide +kernel
theorem dX12_freely_110 : decode cX12_freely 110 = .ok (.iload_n 2, 1) := by decide +kernel
theorem dX12_freely_111 : decode cX12_freely 111 = .ok (.iaload, 1) := by decide +kernel
theorem dX12_freely_112 : decode cX12_freely 112 = .ok (.if_icmp .ge 30, 3) := by decide +kernel
theorem dX12_freely_115 : decode cX12_freely 115 = .ok (.iload_n 1, 1) := by decide +kernel
theorem dX12_freely_116 : decode cX12_freely 116 = .ok (.bipush 100, 2) := by decide +kernel
theorem dX12_freely_118 : decode cX12_freely 118 = .ok (.aload_n 0, 1) := by decide +kernel
theorem dX12_freely_119 : decode cX12_freely 119 = .ok (.getfield 29, 3) := by decide +kernel
theorem dX12_freely_122 : decode cX12_freely 122 = .ok (.bipush 18, 2) := by decide +kernel
theorem dX12_freely_124 : decode cX12_freely 124 = .ok (.iload_n 2, 1) := by decide +kernel
theorem dX12_freely_125 : decode cX12_freely 125 = .ok (.imul, 1) := by decide +kernel
theorem dX12_freely_126 : decode cX12_freely 126 = .ok (.iconst 3, 1) := by decide +kernel
theorem dX12_freely_127 : decode cX12_freely 127 = .ok (.iload_n 3, 1) := by decide +kernel
theorem dX12_freely_128 : decode cX12_freely 128 = .ok (.imul, 1) := by decide +kernel
theorem dX12_freely_129 : decode cX12_freely 129 = .ok (.iadd, 1) := by decide +kernel
theorem dX12_freely_130 : decode cX12_freely 130 = .ok (.iconst 2, 1) := by decide +kernel
theorem dX12_freely_131 : decode cX12_freely 131 = .ok (.iadd, 1) := by decide +kernel
theorem dX12_freely_132 : decode cX12_freely 132 = .ok (.iaload, 1) := by decide +kernel
theorem dX12_freely_133 : decode cX12_freely 133 = .ok (.imul, 1) := by decide +kernel
theorem dX12_freely_134 : decode cX12_freely 134 = .ok (.iadd, 1) := by decide +kernel
theorem dX12_freely_135 : decode cX12_freely 135 = .ok (.istore_n 1, 1) := by decide +kernel
theorem dX12_freely_136 : decode cX12_freely 136 = .ok (.iinc 3 1, 3) := by decide +kernel
theorem dX12_freely_139 : decode cX12_freely 139 = .ok (.goto (-34), 3) := by decide +kernel
theorem dX12_freely_142 : decode cX12_freely 142 = .ok (.iinc 2 1, 3) := by decide +kernel
theorem dX12_freely_145 : decode cX12_freely 145 = .ok (.goto (-50), 3) := by decide +kernel
theorem dX12_freely_148 : decode cX12_freely 148 = .ok (.iload_n 1, 1) := by decide +kernel
theorem dX12_freely_149 : decode cX12_freely 149 = .ok (.ireturn, 1) := by decide +kernel
theorem dX12_looks_0 : decode cX12_looks 0 = .ok (.aload_n 0, 1) := by decide +kernel
theorem dX12_looks_1 : decode cX12_looks 1 = .ok (.invokevirtual 430, 3) := by decide +kernel
theorem dX12_looks_4 : decode cX12_looks 4 = .ok (.aload_n 0, 1) := by decide +kernel
theorem dX12_looks_5 : decode cX12_looks 5 = .ok (.aload_n 1, 1) := by decide +kernel
theorem dX12_looks_6 : decode cX12_looks 6 = .ok (.iload_n 2, 1) := by decide +kernel
theorem dX12_looks_7 : decode cX12_looks 7 = .ok (.invokevirtual 351, 3) := by decide +kernel
theorem dX12_looks_10 : decode cX12_looks 10 = .ok (.istore 4, 2) := by decide +kernel
theorem dX12_looks_12 : decode cX12_looks 12 = .ok (.aload_n 0, 1) := by decide +kernel
theorem dX12_looks_13 : decode cX12_looks 13 = .ok (.aload_n 1, 1) := by decide +kernel
theorem dX12_looks_14 : decode cX12_looks 14 = .ok (.iload_n 3, 1) := by decide +kernel
theorem dX12_looks_15 : decode cX12_looks 15 = .ok (.invokevirtual 351, 3) := by decide +kernel
theorem dX12_looks_18 : decode cX12_looks 18 = .ok (.istore 5, 2) := by decide +kernel
theorem dX12_looks_20 : decode cX12_looks 20 = .ok (.iconst 1, 1) := by decide +kernel
theorem dX12_looks_21 : decode cX12_looks 21 = .ok (.istore 6, 2) := by decide +kernel
theorem dX12_looks_23 : decode cX12_looks 23 = .ok (.iload 6, 2) := by decide +kernel
theorem dX12_looks_25 : decode cX12_looks 25 = .ok (.ifCond .eq 156, 3) := by decide +kernel
theorem dX12_looks_28 : decode cX12_looks 28 = .ok (.iconst 0, 1) := by decide +kernel
theorem dX12_looks_29 : decode cX12_looks 29 = .ok (.istore 7, 2) := by decide +kernel
theorem dX12_looks_31 : decode cX12_looks 31 = .ok (.iload 7, 2) := by decide +kernel
theorem dX12_looks_33 : decode cX12_looks 33 = .ok (.aload_n 0, 1) := by decide +kernel
theorem dX12_looks_34 : decode cX12_looks 34 = .ok (.getfield 7, 3) := by decide +kernel
theorem dX12_looks_37 : decode cX12_looks 37 = .ok (.if_icmp .ge 135, 3) := by decide +kernel
theorem dX12_looks_40 : decode cX12_looks 40 = .ok (.aload_n 0, 1) := by decide +kernel
theorem dX12_looks_41 : decode cX12_looks 41 = .ok (.aload_n 1, 1) := by decide +kernel
theorem dX12_looks_42 : decode cX12_looks 42 = .ok (.iload_n 2, 1) := by decide +kernel
theorem dX12_looks_43 : decode cX12_looks 43 = .ok (.iload_n 3, 1) := by decide +kernel
theorem dX12_looks_44 : decode cX12_looks 44 = .ok (.iload 7, 2) := by decide +kernel
theorem dX12_looks_46 : decode cX12_looks 46 = .ok (.invokevirtual 385, 3) := by decide +kernel
theorem dX12_looks_49 : decode cX12_looks 49 = .ok (.ifCond .ne 6, 3) := by decide +kernel
theorem dX12_looks_52 : decode cX12_looks 52 = .ok (.goto 114, 3) := by decide +kernel
theorem dX12_looks_55 : decode cX12_looks 55 = .ok (.aload_n 0, 1) := by decide +kernel
theorem dX12_looks_56 : decode cX12_looks 56 = .ok (.aload_n 1, 1) := by decide +kernel
theorem dX12_looks_57 : decode cX12_looks 57 = .ok (.aload_n 0, 1) := by decide +kernel
theorem dX12_looks_58 : decode cX12_looks 58 = .ok (.getfield 84, 3) := by decide +kernel
theorem dX12_looks_61 : decode cX12_looks 61 = .ok (.invokevirtual 328, 3) := by decide +kernel
theorem dX12_looks_64 : decode cX12_looks 64 = .ok (.aload_n 0, 1) := by decide +kernel
theorem dX12_looks_65 : decode cX12_looks 65 = .ok (.aload_n 0, 1) := by decide +kernel
theorem dX12_looks_66 : decode cX12_looks 66 = .ok (.getfield 84, 3) := by decide +kernel
theorem dX12_looks_69 : decode cX12_looks 69 = .ok (.iload_n 2, 1) := by decide +kernel
theorem dX12_looks_70 : decode cX12_looks 70 = .ok (.iload_n 3, 1) := by decide +kernel
theorem dX12_looks_71 : decode cX12_looks 71 = .ok (.iload 7, 2) := by decide +kernel
theorem dX12_looks_73 : decode cX12_looks 73 = .ok (.invokevirtual 389, 3) := by decide +kernel
theorem dX12_looks_76 : decode cX12_looks 76 = .ok (.aload_n 0, 1) := by decide +kernel
theorem dX12_looks_77 : decode cX12_looks 77 = .ok (.aload_n 0, 1) := by decide +kernel
theorem dX12_looks_78 : decode cX12_looks 78 = .ok (.getfield 84, 3) := by decide +kernel
theorem dX12_looks_81 : decode cX12_looks 81 = .ok (.iload_n 2, 1) := by decide +kernel
theorem dX12_looks_82 : decode cX12_looks 82 = .ok (.invokevirtual 351, 3) := by decide +kernel
theorem dX12_looks_85 : decode cX12_looks 85 = .ok (.iload 4, 2) := by decide +kernel
theorem dX12_looks_87 : decode cX12_looks 87 = .ok (.isub, 1) := by decide +kernel
theorem dX12_looks_88 : decode cX12_looks 88 = .ok (.istore 8, 2) := by decide +kernel
theorem dX12_looks_90 : decode cX12_looks 90 = .ok (.aload_n 0, 1) := by decide +kernel
theorem dX12_looks_91 : decode cX12_looks 91 = .ok (.aload_n 0, 1) := by decide +kernel
theorem dX12_looks_92 : decode cX12_looks 92 = .ok (.getfield 84, 3) := by decide +kernel
theorem dX12_looks_95 : decode cX12_looks 95 = .ok (.iload_n 3, 1) := by decide +kernel
theorem dX12_looks_96 : decode cX12_looks 96 = .ok (.invokevirtual 351, 3) := by decide +kernel
theorem dX12_looks_99 : decode cX12_looks 99 = .ok (.iload 5, 2) := by decide +kernel
theorem dX12_looks_101 : decode cX12_looks 101 = .ok (.isub, 1) := by decide +kernel
theorem dX12_looks_102 : decode cX12_looks 102 = .ok (.istore 9, 2) := by decide +kernel
theorem dX12_looks_104 : decode cX12_looks 104 = .ok (.iload 8, 2) := by decide +kernel
theorem dX12_looks_106 : decode cX12_looks 106 = .ok (.ifCond .le 60, 3) := by decide +kernel
theorem dX12_looks_109 : decode cX12_looks 109 = .ok (.iload 9, 2) := by decide +kernel
theorem dX12_looks_111 : decode cX12_looks 111 = .ok (.ifCond .le 55, 3) := by decide +kernel
theorem dX12_looks_114 : decode cX12_looks 114 = .ok (.iload 8, 2) := by decide +kernel
theorem dX12_looks_116 : decode cX12_looks 116 = .ok (.iload 9, 2) := by decide +kernel
theorem dX12_looks_118 : decode cX12_looks 118 = .ok (.iadd, 1) := by decide +kernel
theorem dX12_looks_119 : decode cX12_looks 119 = .ok (.aload_n 0, 1) := by decide +kernel
theorem dX12_looks_120 : decode cX12_looks 120 = .ok (.getfield 463, 3) := by decide +kernel
theorem dX12_looks_123 : decode cX12_looks 123 = .ok (.if_icmp .gt 6, 3) := by decide +kernel
theorem dX12_looks_126 : decode cX12_looks 126 = .ok (.goto 40, 3) := by decide +kernel
theorem dX12_looks_129 : decode cX12_looks 129 = .ok (.aload_n 0, 1) := by decide +kernel
theorem dX12_looks_130 : decode cX12_looks 130 = .ok (.iload 8, 2) := by decide +kernel
theorem dX12_looks_132 : decode cX12_looks 132 = .ok (.iload 9, 2) := by decide +kernel
theorem dX12_looks_134 : decode cX12_looks 134 = .ok (.iadd, 1) := by decide +kernel
theorem dX12_looks_135 : decode cX12_looks 135 = .ok (.putfield 463, 3) := by decide +kernel
theorem dX12_looks_138 : decode cX12_looks 138 = .ok (.aload_n 0, 1) := by decide +kernel
theorem dX12_looks_139 : decode cX12_looks 139 = .ok (.iload_n 2, 1) := by decide +kernel
theorem dX12_looks_140 : decode cX12_looks 140 = .ok (.putfield 466, 3) := by decide +kernel
theorem dX12_looks_143 : decode cX12_looks 143 = .ok (.aload_n 0, 1) := by decide +kernel
theorem dX12_looks_144 : decode cX12_looks 144 = .ok (.iload_n 3, 1) := by decide +kernel
theorem dX12_looks_145 : decode cX12_looks 145 = .ok (.putfield 469, 3) := by decide +kernel
theorem dX12_looks_148 : decode cX12_looks 148 = .ok (.aload_n 0, 1) := by decide +kernel
theorem dX12_looks_149 : decode cX12_looks 149 = .ok (.iload 7, 2) := by decide +kernel
theorem dX12_looks_151 : decode cX12_looks 151 = .ok (.putfield 472, 3) := by decide +kernel
theorem dX12_looks_154 : decode cX12_looks 154 = .ok (.aload_n 0, 1) := by decide +kernel
theorem dX12_looks_155 : decode cX12_looks 155 = .ok (.aload_n 0, 1) := by decide +kernel
theorem dX12_looks_156 : decode cX12_looks 156 = .ok (.getfield 81, 3) := by decide +kernel
theorem dX12_looks_159 : decode cX12_looks 159 = .ok (.aload_n 0, 1) := by decide +kernel
theorem dX12_looks_160 : decode cX12_looks 160 = .ok (.getfield 133, 3) := by decide +kernel
theorem dX12_looks_163 : decode cX12_looks 163 = .ok (.invokevirtual 328, 3) := by decide +kernel
theorem dX12_looks_166 : decode cX12_looks 166 = .ok (.iinc 7 1, 3) := by decide +kernel
theorem dX12_looks_169 : decode cX12_looks 169 = .ok (.goto (-138), 3) := by decide +kernel
theorem dX12_looks_172 : decode cX12_looks 172 = .ok (.aload_n 0, 1) := by decide +kernel
theorem dX12_looks_173 : decode cX12_looks 173 = .ok (.invokevirtual 443, 3) := by decide +kernel
theorem dX12_looks_176 : decode cX12_looks 176 = .ok (.istore 6, 2) := by decide +kernel
theorem dX12_looks_178 : decode cX12_looks 178 = .ok (.goto (-155), 3) := by decide +kernel
theorem dX12_looks_181 : decode cX12_looks 181 = .ok (.return_, 1) := by decide +kernel
theorem dX12_meet0_0 : decode cX12_meet0 0 = .ok (.aload_n 0, 1) := by decide +kernel
theorem dX12_meet0_1 : decode cX12_meet0 1 = .ok (.iconst 0, 1) := by decide +kernel
theorem dX12_meet0_2 : decode cX12_meet0 2 = .ok (.putfield 463, 3) := by decide +kernel
theorem dX12_meet0_5 : decode cX12_meet0 5 = .ok (.aload_n 0, 1) := by decide +kernel
theorem dX12_meet0_6 : decode cX12_meet0 6 = .ok (.aload_n 1, 1) := by decide +kernel
theorem dX12_meet0_7 : decode cX12_meet0 7 = .ok (.iload_n 2, 1) := by decide +kernel
theorem dX12_meet0_8 : decode cX12_meet0 8 = .ok (.iload_n 3, 1) := by decide +kernel
theorem dX12_meet0_9 : decode cX12_meet0 9 = .ok (.if_icmp .ge 7, 3) := by decide +kernel
theorem dX12_meet0_12 : decode cX12_meet0 12 = .ok (.iload_n 2, 1) := by decide +kernel
theorem dX12_meet0_13 : decode cX12_meet0 13 = .ok (.goto 4, 3) := by decide +kernel
theorem dX12_meet0_16 : decode cX12_meet0 16 = .ok (.iload_n 3, 1) := by decide +kernel
theorem dX12_meet0_17 : decode cX12_meet0 17 = .ok (.iload_n 2, 1) := by decide +kernel
theorem dX12_meet0_18 : decode cX12_meet0 18 = .ok (.iload_n 3, 1) := by decide +kernel
theorem dX12_meet0_19 : decode cX12_meet0 19 = .ok (.if_icmp .ge 7, 3) := by decide +kernel
theorem dX12_meet0_22 : decode cX12_meet0 22 = .ok (.iload_n 3, 1) := by decide +kernel
theorem dX12_meet0_23 : decode cX12_meet0 23 = .ok (.goto 4, 3) := by decide +kernel
theorem dX12_meet0_26 : decode cX12_meet0 26 = .ok (.iload_n 2, 1) := by decide +kernel
theorem dX12_meet0_27 : decode cX12_meet0 27 = .ok (.invokevirtual 475, 3) := by decide +kernel
theorem dX12_meet0_30 : decode cX12_meet0 30 = .ok (.aload_n 0, 1) := by decide +kernel
theorem dX12_meet0_31 : decode cX12_meet0 31 = .ok (.aload_n 1, 1) := by decide +kernel
theorem dX12_meet0_32 : decode cX12_meet0 32 = .ok (.iload_n 2, 1) := by decide +kernel
theorem dX12_meet0_33 : decode cX12_meet0 33 = .ok (.iload_n 3, 1) := by decide +kernel
theorem dX12_meet0_34 : decode cX12_meet0 34 = .ok (.if_icmp .ge 7, 3) := by decide +kernel
theorem dX12_meet0_37 : decode cX12_meet0 37 = .ok (.iload_n 3, 1) := by decide +kernel
theorem dX12_meet0_38 : decode cX12_meet0 38 = .ok (.goto 4, 3) := by decide +kernel
theorem dX12_meet0_41 : decode cX12_meet0 41 = .ok (.iload_n 2, 1) := by decide +kernel
theorem dX12_meet0_42 : decode cX12_meet0 42 = .ok (.iload_n 2, 1) := by decide +kernel
theorem dX12_meet0_43 : decode cX12_meet0 43 = .ok (.iload_n 3, 1) := by decide +kernel
theorem dX12_meet0_44 : decode cX12_meet0 44 = .ok (.if_icmp .ge 7, 3) := by decide +kernel
theorem dX12_meet0_47 : decode cX12_meet0 47 = .ok (.iload_n 2, 1) := by decide +kernel
theorem dX12_meet0_48 : decode cX12_meet0 48 = .ok (.goto 4, 3) := by decide +kernel
theorem dX12_meet0_51 : decode cX12_meet0 51 = .ok (.iload_n 3, 1) := by decide +kernel
theorem dX12_meet0_52 : decode cX12_meet0 52 = .ok (.invokevirtual 475, 3) := by decide +kernel
theorem dX12_meet0_55 : decode cX12_meet0 55 = .ok (.aload_n 0, 1) := by decide +kernel
theorem dX12_meet0_56 : decode cX12_meet0 56 = .ok (.getfield 463, 3) := by decide +kernel
theorem dX12_meet0_59 : decode cX12_meet0 59 = .ok (.ifCond .le 32, 3) := by decide +kernel
theorem dX12_meet0_62 : decode cX12_meet0 62 = .ok (.aload_n 0, 1) := by decide +kernel
theorem dX12_meet0_63 : decode cX12_meet0 63 = .ok (.aload_n 0, 1) := by decide +kernel
theorem dX12_meet0_64 : decode cX12_meet0 64 = .ok (.getfield 133, 3) := by decide +kernel
theorem dX12_meet0_67 : decode cX12_meet0 67 = .ok (.aload_n 0, 1) := by decide +kernel
theorem dX12_meet0_68 : decode cX12_meet0 68 = .ok (.getfield 81, 3) := by decide +kernel
theorem dX12_meet0_71 : decode cX12_meet0 71 = .ok (.invokevirtual 328, 3) := by decide +kernel
theorem dX12_meet0_74 : decode cX12_meet0 74 = .ok (.aload_n 0, 1) := by decide +kernel
theorem dX12_meet0_75 : decode cX12_meet0 75 = .ok (.aload_n 1, 1) := by decide +kernel
theorem dX12_meet0_76 : decode cX12_meet0 76 = .ok (.aload_n 0, 1) := by decide +kernel
theorem dX12_meet0_77 : decode cX12_meet0 77 = .ok (.getfield 466, 3) := by decide +kernel
theorem dX12_meet0_80 : decode cX12_meet0 80 = .ok (.aload_n 0, 1) := by decide +kernel
theorem dX12_meet0_81 : decode cX12_meet0 81 = .ok (.getfield 469, 3) := by decide +kernel
theorem dX12_meet0_84 : decode cX12_meet0 84 = .ok (.aload_n 0, 1) := by decide +kernel
theorem dX12_meet0_85 : decode cX12_meet0 85 = .ok (.getfield 472, 3) := by decide +kernel
theorem dX12_meet0_88 : decode cX12_meet0 88 = .ok (.invokevirtual 389, 3) := by decide +kernel
theorem dX12_meet0_91 : decode cX12_meet0 91 = .ok (.aload_n 0, 1) := by decide +kernel
theorem dX12_meet0_92 : decode cX12_meet0 92 = .ok (.getfield 463, 3) := by decide +kernel
theorem dX12_meet0_95 : decode cX12_meet0 95 = .ok (.ireturn, 1) := by decide +kernel
theorem dX12_meet_0 : decode cX12_meet 0 = .ok (.aload_n 0, 1) := by decide +kernel
theorem dX12_meet_1 : decode cX12_meet 1 = .ok (.iconst 0, 1) := by decide +kernel
theorem dX12_meet_2 : decode cX12_meet 2 = .ok (.putfield 184, 3) := by decide +kernel
theorem dX12_meet_5 : decode cX12_meet 5 = .ok (.aload_n 0, 1) := by decide +kernel
theorem dX12_meet_6 : decode cX12_meet 6 = .ok (.iload_n 1, 1) := by decide +kernel
theorem dX12_meet_7 : decode cX12_meet 7 = .ok (.ifCond .lt 32, 3) := by decide +kernel
theorem dX12_meet_10 : decode cX12_meet 10 = .ok (.iload_n 1, 1) := by decide +kernel
theorem dX12_meet_11 : decode cX12_meet 11 = .ok (.aload_n 0, 1) := by decide +kernel
theorem dX12_meet_12 : decode cX12_meet 12 = .ok (.getfield 316, 3) := by decide +kernel
theorem dX12_meet_15 : decode cX12_meet 15 = .ok (.if_icmp .ge 24, 3) := by decide +kernel
theorem dX12_meet_18 : decode cX12_meet 18 = .ok (.iload_n 2, 1) := by decide +kernel
theorem dX12_meet_19 : decode cX12_meet 19 = .ok (.ifCond .lt 20, 3) := by decide +kernel
theorem dX12_meet_22 : decode cX12_meet 22 = .ok (.iload_n 2, 1) := by decide +kernel
theorem dX12_meet_23 : decode cX12_meet 23 = .ok (.aload_n 0, 1) := by decide +kernel
theorem dX12_meet_24 : decode cX12_meet 24 = .ok (.getfield 316, 3) := by decide +kernel
theorem dX12_meet_27 : decode cX12_meet 27 = .ok (.if_icmp .ge 12, 3) := by decide +kernel
theorem dX12_meet_30 : decode cX12_meet 30 = .ok (.iload_n 1, 1) := by decide +kernel
theorem dX12_meet_31 : decode cX12_meet 31 = .ok (.iload_n 2, 1) := by decide +kernel
theorem dX12_meet_32 : decode cX12_meet 32 = .ok (.if_icmp .eq 7, 3) := by decide +kernel
theorem dX12_meet_35 : decode cX12_meet 35 = .ok (.iconst 1, 1) := by decide +kernel
theorem dX12_meet_36 : decode cX12_meet 36 = .ok (.goto 4, 3) := by decide +kernel
theorem dX12_meet_39 : decode cX12_meet 39 = .ok (.iconst 0, 1) := by decide +kernel
theorem dX12_meet_40 : decode cX12_meet 40 = .ok (.iconst 1, 1) := by decide +kernel
theorem dX12_meet_41 : decode cX12_meet 41 = .ok (.invokevirtual 309, 3) := by decide +kernel
theorem dX12_meet_44 : decode cX12_meet 44 = .ok (.ifCond .eq 16, 3) := by decide +kernel
theorem dX12_meet_47 : decode cX12_meet 47 = .ok (.aload_n 0, 1) := by decide +kernel
theorem dX12_meet_48 : decode cX12_meet 48 = .ok (.aload_n 0, 1) := by decide +kernel
theorem dX12_meet_49 : decode cX12_meet 49 = .ok (.getfield 38, 3) := by decide +kernel
theorem dX12_meet_52 : decode cX12_meet 52 = .ok (.iload_n 1, 1) := by decide +kernel
theorem dX12_meet_53 : decode cX12_meet 53 = .ok (.iload_n 2, 1) := by decide +kernel
theorem dX12_meet_54 : decode cX12_meet 54 = .ok (.invokevirtual 478, 3) := by decide +kernel
theorem dX12_meet_57 : decode cX12_meet 57 = .ok (.goto 4, 3) := by decide +kernel
theorem dX12_meet_60 : decode cX12_meet 60 = .ok (.iconst 0, 1) := by decide +kernel
theorem dX12_meet_61 : decode cX12_meet 61 = .ok (.ireturn, 1) := by decide +kernel
theorem dX12_day_0 : decode cX12_day 0 = .ok (.iconst 0, 1) := by decide +kernel
theorem dX12_day_1 : decode cX12_day 1 = .ok (.istore_n 3, 1) := by decide +kernel
theorem dX12_day_2 : decode cX12_day 2 = .ok (.iconst 0, 1) := by decide +kernel
theorem dX12_day_3 : decode cX12_day 3 = .ok (.istore 4, 2) := by decide +kernel
theorem dX12_day_5 : decode cX12_day 5 = .ok (.iload 4, 2) := by decide +kernel
theorem dX12_day_7 : decode cX12_day 7 = .ok (.aload_n 0, 1) := by decide +kernel
theorem dX12_day_8 : decode cX12_day 8 = .ok (.getfield 322, 3) := by decide +kernel
theorem dX12_day_11 : decode cX12_day 11 = .ok (.if_icmp .ge 65, 3) := by decide +kernel
theorem dX12_day_14 : decode cX12_day 14 = .ok (.aload_n 0, 1) := by decide +kernel
theorem dX12_day_15 : decode cX12_day 15 = .ok (.getfield 35, 3) := by decide +kernel
theorem dX12_day_18 : decode cX12_day 18 = .ok (.iconst 2, 1) := by decide +kernel
theorem dX12_day_19 : decode cX12_day 19 = .ok (.iload 4, 2) := by decide +kernel
theorem dX12_day_21 : decode cX12_day 21 = .ok (.imul, 1) := by decide +kernel
theorem dX12_day_22 : decode cX12_day 22 = .ok (.iaload, 1) := by decide +kernel
theorem dX12_day_23 : decode cX12_day 23 = .ok (.istore 5, 2) := by decide +kernel
theorem dX12_day_25 : decode cX12_day 25 = .ok (.aload_n 0, 1) := by decide +kernel
theorem dX12_day_26 : decode cX12_day 26 = .ok (.getfield 35, 3) := by decide +kernel
theorem dX12_day_29 : decode cX12_day 29 = .ok (.iconst 2, 1) := by decide +kernel
theorem dX12_day_30 : decode cX12_day 30 = .ok (.iload 4, 2) := by decide +kernel
theorem dX12_day_32 : decode cX12_day 32 = .ok (.imul, 1) := by decide +kernel
theorem dX12_day_33 : decode cX12_day 33 = .ok (.iconst 1, 1) := by decide +kernel
theorem dX12_day_34 : decode cX12_day 34 = .ok (.iadd, 1) := by decide +kernel
theorem dX12_day_35 : decode cX12_day 35 = .ok (.iaload, 1) := by decide +kernel
theorem dX12_day_36 : decode cX12_day 36 = .ok (.istore 6, 2) := by decide +kernel
theorem dX12_day_38 : decode cX12_day 38 = .ok (.iload 5, 2) := by decide +kernel
theorem dX12_day_40 : decode cX12_day 40 = .ok (.iload_n 2, 1) := by decide +kernel
theorem dX12_day_41 : decode cX12_day 41 = .ok (.if_icmp .eq 29, 3) := by decide +kernel
theorem dX12_day_44 : decode cX12_day 44 = .ok (.iload 6, 2) := by decide +kernel
theorem dX12_day_46 : decode cX12_day 46 = .ok (.iload_n 2, 1) := by decide +kernel
theorem dX12_day_47 : decode cX12_day 47 = .ok (.if_icmp .eq 23, 3) := by decide +kernel
theorem dX12_day_50 : decode cX12_day 50 = .ok (.iload_n 3, 1) := by decide +kernel
theorem dX12_day_51 : decode cX12_day 51 = .ok (.aload_n 0, 1) := by decide +kernel
theorem dX12_day_52 : decode cX12_day 52 = .ok (.aload_n 1, 1) := by decide +kernel
theorem dX12_day_53 : decode cX12_day 53 = .ok (.iload 5, 2) := by decide +kernel
theorem dX12_day_55 : decode cX12_day 55 = .ok (.iload 6, 2) := by decide +kernel
theorem dX12_day_57 : decode cX12_day 57 = .ok (.invokevirtual 478, 3) := by decide +kernel
theorem dX12_day_60 : decode cX12_day 60 = .ok (.ifCond .le 7, 3) := by decide +kernel
theorem dX12_day_63 : decode cX12_day 63 = .ok (.iconst 1, 1) := by decide +kernel
theorem dX12_day_64 : decode cX12_day 64 = .ok (.goto 4, 3) := by decide +kernel
theorem dX12_day_67 : decode cX12_day 67 = .ok (.iconst 0, 1) := by decide +kernel
theorem dX12_day_68 : decode cX12_day 68 = .ok (.iadd, 1) := by decide +kernel
theorem dX12_day_69 : decode cX12_day 69 = .ok (.istore_n 3, 1) := by decide +kernel
theorem dX12_day_70 : decode cX12_day 70 = .ok (.iinc 4 1, 3) := by decide +kernel
theorem dX12_day_73 : decode cX12_day 73 = .ok (.goto (-68), 3) := by decide +kernel
theorem dX12_day_76 : decode cX12_day 76 = .ok (.iload_n 3, 1) := by decide +kernel
theorem dX12_day_77 : decode cX12_day 77 = .ok (.ireturn, 1) := by decide +kernel
theorem dX12_days_0 : decode cX12_days 0 = .ok (.aload_n 0, 1) := by decide +kernel
theorem dX12_days_1 : decode cX12_days 1 = .ok (.iconst 0, 1) := by decide +kernel
theorem dX12_days_2 : decode cX12_days 2 = .ok (.putfield 184, 3) := by decide +kernel
theorem dX12_days_5 : decode cX12_days 5 = .ok (.aload_n 0, 1) := by decide +kernel
theorem dX12_days_6 : decode cX12_days 6 = .ok (.iload_n 1, 1) := by decide +kernel
theorem dX12_days_7 : decode cX12_days 7 = .ok (.iconst 0, 1) := by decide +kernel
theorem dX12_days_8 : decode cX12_days 8 = .ok (.bipush 60, 2) := by decide +kernel
theorem dX12_days_10 : decode cX12_days 10 = .ok (.invokestatic 354, 3) := by decide +kernel
theorem dX12_days_13 : decode cX12_days 13 = .ok (.iconst 1, 1) := by decide +kernel
theorem dX12_days_14 : decode cX12_days 14 = .ok (.invokevirtual 309, 3) := by decide +kernel
theorem dX12_days_17 : decode cX12_days 17 = .ok (.ifCond .ne 5, 3) := by decide +kernel
theorem dX12_days_20 : decode cX12_days 20 = .ok (.iconst 0, 1) := by decide +kernel
theorem dX12_days_21 : decode cX12_days 21 = .ok (.ireturn, 1) := by decide +kernel
theorem dX12_days_22 : decode cX12_days 22 = .ok (.iconst 0, 1) := by decide +kernel
theorem dX12_days_23 : decode cX12_days 23 = .ok (.istore_n 2, 1) := by decide +kernel
theorem dX12_days_24 : decode cX12_days 24 = .ok (.iconst 0, 1) := by decide +kernel
theorem dX12_days_25 : decode cX12_days 25 = .ok (.istore_n 3, 1) := by decide +kernel
theorem dX12_days_26 : decode cX12_days 26 = .ok (.iload_n 3, 1) := by decide +kernel
theorem dX12_days_27 : decode cX12_days 27 = .ok (.iload_n 1, 1) := by decide +kernel
theorem dX12_days_28 : decode cX12_days 28 = .ok (.if_icmp .ge 21, 3) := by decide +kernel
theorem dX12_days_31 : decode cX12_days 31 = .ok (.iload_n 2, 1) := by decide +kernel
theorem dX12_days_32 : decode cX12_days 32 = .ok (.aload_n 0, 1) := by decide +kernel
theorem dX12_days_33 : decode cX12_days 33 = .ok (.aload_n 0, 1) := by decide +kernel
theorem dX12_days_34 : decode cX12_days 34 = .ok (.getfield 38, 3) := by decide +kernel
theorem dX12_days_37 : decode cX12_days 37 = .ok (.iconst (-1), 1) := by decide +kernel
theorem dX12_days_38 : decode cX12_days 38 = .ok (.invokevirtual 482, 3) := by decide +kernel
theorem dX12_days_41 : decode cX12_days 41 = .ok (.iadd, 1) := by decide +kernel
theorem dX12_days_42 : decode cX12_days 42 = .ok (.istore_n 2, 1) := by decide +kernel
theorem dX12_days_43 : decode cX12_days 43 = .ok (.iinc 3 1, 3) := by decide +kernel
theorem dX12_days_46 : decode cX12_days 46 = .ok (.goto (-20), 3) := by decide +kernel
theorem dX12_days_49 : decode cX12_days 49 = .ok (.iload_n 2, 1) := by decide +kernel
theorem dX12_days_50 : decode cX12_days 50 = .ok (.ireturn, 1) := by decide +kernel
theorem dX12_ends_0 : decode cX12_ends 0 = .ok (.iconst 0, 1) := by decide +kernel
theorem dX12_ends_1 : decode cX12_ends 1 = .ok (.istore_n 1, 1) := by decide +kernel
theorem dX12_ends_2 : decode cX12_ends 2 = .ok (.iload_n 1, 1) := by decide +kernel
theorem dX12_ends_3 : decode cX12_ends 3 = .ok (.bipush 60, 2) := by decide +kernel
theorem dX12_ends_5 : decode cX12_ends 5 = .ok (.if_icmp .ge 21, 3) := by decide +kernel
theorem dX12_ends_8 : decode cX12_ends 8 = .ok (.aload_n 0, 1) := by decide +kernel
theorem dX12_ends_9 : decode cX12_ends 9 = .ok (.aload_n 0, 1) := by decide +kernel
theorem dX12_ends_10 : decode cX12_ends 10 = .ok (.getfield 136, 3) := by decide +kernel
theorem dX12_ends_13 : decode cX12_ends 13 = .ok (.iconst (-1), 1) := by decide +kernel
theorem dX12_ends_14 : decode cX12_ends 14 = .ok (.invokevirtual 482, 3) := by decide +kernel
theorem dX12_ends_17 : decode cX12_ends 17 = .ok (.ifCond .le 9, 3) := by decide +kernel
theorem dX12_ends_20 : decode cX12_ends 20 = .ok (.iinc 1 1, 3) := by decide +kernel
theorem dX12_ends_23 : decode cX12_ends 23 = .ok (.goto (-21), 3) := by decide +kernel
theorem dX12_ends_26 : decode cX12_ends 26 = .ok (.iload_n 1, 1) := by decide +kernel
theorem dX12_ends_27 : decode cX12_ends 27 = .ok (.ireturn, 1) := by decide +kernel
theorem dX12_end_0 : decode cX12_end 0 = .ok (.aload_n 0, 1) := by decide +kernel
theorem dX12_end_1 : decode cX12_end 1 = .ok (.iconst 0, 1) := by decide +kernel
theorem dX12_end_2 : decode cX12_end 2 = .ok (.putfield 184, 3) := by decide +kernel
theorem dX12_end_5 : decode cX12_end 5 = .ok (.aload_n 0, 1) := by decide +kernel
theorem dX12_end_6 : decode cX12_end 6 = .ok (.iload_n 1, 1) := by decide +kernel
theorem dX12_end_7 : decode cX12_end 7 = .ok (.iconst 0, 1) := by decide +kernel
theorem dX12_end_8 : decode cX12_end 8 = .ok (.iconst 2, 1) := by decide +kernel
theorem dX12_end_9 : decode cX12_end 9 = .ok (.invokestatic 354, 3) := by decide +kernel
theorem dX12_end_12 : decode cX12_end 12 = .ok (.ifCond .ne 18, 3) := by decide +kernel
theorem dX12_end_15 : decode cX12_end 15 = .ok (.iload_n 1, 1) := by decide +kernel
theorem dX12_end_16 : decode cX12_end 16 = .ok (.iconst 3, 1) := by decide +kernel
theorem dX12_end_17 : decode cX12_end 17 = .ok (.if_icmp .lt 17, 3) := by decide +kernel
theorem dX12_end_20 : decode cX12_end 20 = .ok (.iload_n 1, 1) := by decide +kernel
theorem dX12_end_21 : decode cX12_end 21 = .ok (.iconst 3, 1) := by decide +kernel
theorem dX12_end_22 : decode cX12_end 22 = .ok (.isub, 1) := by decide +kernel
theorem dX12_end_23 : decode cX12_end 23 = .ok (.aload_n 0, 1) := by decide +kernel
theorem dX12_end_24 : decode cX12_end 24 = .ok (.getfield 316, 3) := by decide +kernel
theorem dX12_end_27 : decode cX12_end 27 = .ok (.if_icmp .ge 7, 3) := by decide +kernel
theorem dX12_end_30 : decode cX12_end 30 = .ok (.iconst 1, 1) := by decide +kernel
theorem dX12_end_31 : decode cX12_end 31 = .ok (.goto 4, 3) := by decide +kernel
theorem dX12_end_34 : decode cX12_end 34 = .ok (.iconst 0, 1) := by decide +kernel
theorem dX12_end_35 : decode cX12_end 35 = .ok (.iconst 1, 1) := by decide +kernel
theorem dX12_end_36 : decode cX12_end 36 = .ok (.invokevirtual 309, 3) := by decide +kernel
theorem dX12_end_39 : decode cX12_end 39 = .ok (.ifCond .ne 5, 3) := by decide +kernel
theorem dX12_end_42 : decode cX12_end 42 = .ok (.iconst 0, 1) := by decide +kernel
theorem dX12_end_43 : decode cX12_end 43 = .ok (.ireturn, 1) := by decide +kernel
theorem dX12_end_44 : decode cX12_end 44 = .ok (.aload_n 0, 1) := by decide +kernel
theorem dX12_end_45 : decode cX12_end 45 = .ok (.aload_n 0, 1) := by decide +kernel
theorem dX12_end_46 : decode cX12_end 46 = .ok (.getfield 38, 3) := by decide +kernel
theorem dX12_end_49 : decode cX12_end 49 = .ok (.aload_n 0, 1) := by decide +kernel
theorem dX12_end_50 : decode cX12_end 50 = .ok (.getfield 136, 3) := by decide +kernel
theorem dX12_end_53 : decode cX12_end 53 = .ok (.invokevirtual 328, 3) := by decide +kernel
theorem dX12_end_56 : decode cX12_end 56 = .ok (.aload_n 0, 1) := by decide +kernel
theorem dX12_end_57 : decode cX12_end 57 = .ok (.invokevirtual 485, 3) := by decide +kernel
theorem dX12_end_60 : decode cX12_end 60 = .ok (.istore_n 2, 1) := by decide +kernel
theorem dX12_end_61 : decode cX12_end 61 = .ok (.iload_n 1, 1) := by decide +kernel
theorem dX12_end_62 : decode cX12_end 62 = .ok (.ifCond .ne 7, 3) := by decide +kernel
theorem dX12_end_65 : decode cX12_end 65 = .ok (.iload_n 2, 1) := by decide +kernel
theorem dX12_end_66 : decode cX12_end 66 = .ok (.goto 46, 3) := by decide +kernel
theorem dX12_end_69 : decode cX12_end 69 = .ok (.iload_n 1, 1) := by decide +kernel
theorem dX12_end_70 : decode cX12_end 70 = .ok (.iconst 1, 1) := by decide +kernel
theorem dX12_end_71 : decode cX12_end 71 = .ok (.if_icmp .ne 14, 3) := by decide +kernel
theorem dX12_end_74 : decode cX12_end 74 = .ok (.aload_n 0, 1) := by decide +kernel
theorem dX12_end_75 : decode cX12_end 75 = .ok (.aload_n 0, 1) := by decide +kernel
theorem dX12_end_76 : decode cX12_end 76 = .ok (.getfield 136, 3) := by decide +kernel
theorem dX12_end_79 : decode cX12_end 79 = .ok (.invokevirtual 358, 3) := by decide +kernel
theorem dX12_end_82 : decode cX12_end 82 = .ok (.goto 30, 3) := by decide +kernel
theorem dX12_end_85 : decode cX12_end 85 = .ok (.iload_n 1, 1) := by decide +kernel
theorem dX12_end_86 : decode cX12_end 86 = .ok (.iconst 2, 1) := by decide +kernel
theorem dX12_end_87 : decode cX12_end 87 = .ok (.if_icmp .ne 14, 3) := by decide +kernel
theorem dX12_end_90 : decode cX12_end 90 = .ok (.aload_n 0, 1) := by decide +kernel
theorem dX12_end_91 : decode cX12_end 91 = .ok (.aload_n 0, 1) := by decide +kernel
theorem dX12_end_92 : decode cX12_end 92 = .ok (.getfield 136, 3) := by decide +kernel
theorem dX12_end_95 : decode cX12_end 95 = .ok (.invokevirtual 368, 3) := by decide +kernel
theorem dX12_end_98 : decode cX12_end 98 = .ok (.goto 14, 3) := by decide +kernel
theorem dX12_end_101 : decode cX12_end 101 = .ok (.aload_n 0, 1) := by decide +kernel
theorem dX12_end_102 : decode cX12_end 102 = .ok (.aload_n 0, 1) := by decide +kernel
theorem dX12_end_103 : decode cX12_end 103 = .ok (.getfield 136, 3) := by decide +kernel
theorem dX12_end_106 : decode cX12_end 106 = .ok (.iload_n 1, 1) := by decide +kernel
theorem dX12_end_107 : decode cX12_end 107 = .ok (.iconst 3, 1) := by decide +kernel
theorem dX12_end_108 : decode cX12_end 108 = .ok (.isub, 1) := by decide +kernel
theorem dX12_end_109 : decode cX12_end 109 = .ok (.invokevirtual 351, 3) := by decide +kernel
theorem dX12_end_112 : decode cX12_end 112 = .ok (.ireturn, 1) := by decide +kernel
theorem dX12_swaps_0 : decode cX12_swaps 0 = .ok (.aload_n 0, 1) := by decide +kernel
theorem dX12_swaps_1 : decode cX12_swaps 1 = .ok (.getfield 322, 3) := by decide +kernel
theorem dX12_swaps_4 : decode cX12_swaps 4 = .ok (.iconst 2, 1) := by decide +kernel
theorem dX12_swaps_5 : decode cX12_swaps 5 = .ok (.isub, 1) := by decide +kernel
theorem dX12_swaps_6 : decode cX12_swaps 6 = .ok (.istore_n 1, 1) := by decide +kernel
theorem dX12_swaps_7 : decode cX12_swaps 7 = .ok (.iload_n 1, 1) := by decide +kernel
theorem dX12_swaps_8 : decode cX12_swaps 8 = .ok (.ifCond .lt 26, 3) := by decide +kernel
theorem dX12_swaps_11 : decode cX12_swaps 11 = .ok (.aload_n 0, 1) := by decide +kernel
theorem dX12_swaps_12 : decode cX12_swaps 12 = .ok (.getfield 142, 3) := by decide +kernel
theorem dX12_swaps_15 : decode cX12_swaps 15 = .ok (.iload_n 1, 1) := by decide +kernel
theorem dX12_swaps_16 : decode cX12_swaps 16 = .ok (.iaload, 1) := by decide +kernel
theorem dX12_swaps_17 : decode cX12_swaps 17 = .ok (.aload_n 0, 1) := by decide +kernel
theorem dX12_swaps_18 : decode cX12_swaps 18 = .ok (.getfield 142, 3) := by decide +kernel
theorem dX12_swaps_21 : decode cX12_swaps 21 = .ok (.iload_n 1, 1) := by decide +kernel
theorem dX12_swaps_22 : decode cX12_swaps 22 = .ok (.iconst 1, 1) := by decide +kernel
theorem dX12_swaps_23 : decode cX12_swaps 23 = .ok (.iadd, 1) := by decide +kernel
theorem dX12_swaps_24 : decode cX12_swaps 24 = .ok (.iaload, 1) := by decide +kernel
theorem dX12_swaps_25 : decode cX12_swaps 25 = .ok (.if_icmp .le 9, 3) := by decide +kernel
theorem dX12_swaps_28 : decode cX12_swaps 28 = .ok (.iinc 1 (-1), 3) := by decide +kernel
theorem dX12_swaps_31 : decode cX12_swaps 31 = .ok (.goto (-24), 3) := by decide +kernel
theorem dX12_swaps_34 : decode cX12_swaps 34 = .ok (.iload_n 1, 1) := by decide +kernel
theorem dX12_swaps_35 : decode cX12_swaps 35 = .ok (.ifCond .ge 5, 3) := by decide +kernel
theorem dX12_swaps_38 : decode cX12_swaps 38 = .ok (.iconst 0, 1) := by decide +kernel
theorem dX12_swaps_39 : decode cX12_swaps 39 = .ok (.ireturn, 1) := by decide +kernel
theorem dX12_swaps_40 : decode cX12_swaps 40 = .ok (.aload_n 0, 1) := by decide +kernel
theorem dX12_swaps_41 : decode cX12_swaps 41 = .ok (.getfield 322, 3) := by decide +kernel
theorem dX12_swaps_44 : decode cX12_swaps 44 = .ok (.iconst 1, 1) := by decide +kernel
theorem dX12_swaps_45 : decode cX12_swaps 45 = .ok (.isub, 1) := by decide +kernel
theorem dX12_swaps_46 : decode cX12_swaps 46 = .ok (.istore_n 2, 1) := by decide +kernel
theorem dX12_swaps_47 : decode cX12_swaps 47 = .ok (.aload_n 0, 1) := by decide +kernel
theorem dX12_swaps_48 : decode cX12_swaps 48 = .ok (.getfield 142, 3) := by decide +kernel
theorem dX12_swaps_51 : decode cX12_swaps 51 = .ok (.iload_n 2, 1) := by decide +kernel
theorem dX12_swaps_52 : decode cX12_swaps 52 = .ok (.iaload, 1) := by decide +kernel
theorem dX12_swaps_53 : decode cX12_swaps 53 = .ok (.aload_n 0, 1) := by decide +kernel
theorem dX12_swaps_54 : decode cX12_swaps 54 = .ok (.getfield 142, 3) := by decide +kernel
theorem dX12_swaps_57 : decode cX12_swaps 57 = .ok (.iload_n 1, 1) := by decide +kernel
theorem dX12_swaps_58 : decode cX12_swaps 58 = .ok (.iaload, 1) := by decide +kernel
theorem dX12_swaps_59 : decode cX12_swaps 59 = .ok (.if_icmp .ge 9, 3) := by decide +kernel
theorem dX12_swaps_62 : decode cX12_swaps 62 = .ok (.iinc 2 (-1), 3) := by decide +kernel
theorem dX12_swaps_65 : decode cX12_swaps 65 = .ok (.goto (-18), 3) := by decide +kernel
theorem dX12_swaps_68 : decode cX12_swaps 68 = .ok (.aload_n 0, 1) := by decide +kernel
theorem dX12_swaps_69 : decode cX12_swaps 69 = .ok (.iload_n 1, 1) := by decide +kernel
theorem dX12_swaps_70 : decode cX12_swaps 70 = .ok (.iload_n 2, 1) := by decide +kernel
theorem dX12_swaps_71 : decode cX12_swaps 71 = .ok (.invokevirtual 488, 3) := by decide +kernel
theorem dX12_swaps_74 : decode cX12_swaps 74 = .ok (.iload_n 1, 1) := by decide +kernel
theorem dX12_swaps_75 : decode cX12_swaps 75 = .ok (.iconst 1, 1) := by decide +kernel
theorem dX12_swaps_76 : decode cX12_swaps 76 = .ok (.iadd, 1) := by decide +kernel
theorem dX12_swaps_77 : decode cX12_swaps 77 = .ok (.istore_n 3, 1) := by decide +kernel
theorem dX12_swaps_78 : decode cX12_swaps 78 = .ok (.aload_n 0, 1) := by decide +kernel
theorem dX12_swaps_79 : decode cX12_swaps 79 = .ok (.getfield 322, 3) := by decide +kernel
theorem dX12_swaps_82 : decode cX12_swaps 82 = .ok (.iconst 1, 1) := by decide +kernel
theorem dX12_swaps_83 : decode cX12_swaps 83 = .ok (.isub, 1) := by decide +kernel
theorem dX12_swaps_84 : decode cX12_swaps 84 = .ok (.istore 4, 2) := by decide +kernel
theorem dX12_swaps_86 : decode cX12_swaps 86 = .ok (.iload_n 3, 1) := by decide +kernel
theorem dX12_swaps_87 : decode cX12_swaps 87 = .ok (.iload 4, 2) := by decide +kernel
theorem dX12_swaps_89 : decode cX12_swaps 89 = .ok (.if_icmp .ge 19, 3) := by decide +kernel
theorem dX12_swaps_92 : decode cX12_swaps 92 = .ok (.aload_n 0, 1) := by decide +kernel
theorem dX12_swaps_93 : decode cX12_swaps 93 = .ok (.iload_n 3, 1) := by decide +kernel
theorem dX12_swaps_94 : decode cX12_swaps 94 = .ok (.iload 4, 2) := by decide +kernel
theorem dX12_swaps_96 : decode cX12_swaps 96 = .ok (.invokevirtual 488, 3) := by decide +kernel
theorem dX12_swaps_99 : decode cX12_swaps 99 = .ok (.iinc 3 1, 3) := by decide +kernel
theorem dX12_swaps_102 : decode cX12_swaps 102 = .ok (.iinc 4 (-1), 3) := by decide +kernel
theorem dX12_swaps_105 : decode cX12_swaps 105 = .ok (.goto (-19), 3) := by decide +kernel
theorem dX12_swaps_108 : decode cX12_swaps 108 = .ok (.iconst 1, 1) := by decide +kernel
theorem dX12_swaps_109 : decode cX12_swaps 109 = .ok (.ireturn, 1) := by decide +kernel
theorem dX12_swap_0 : decode cX12_swap 0 = .ok (.aload_n 0, 1) := by decide +kernel
theorem dX12_swap_1 : decode cX12_swap 1 = .ok (.getfield 142, 3) := by decide +kernel
theorem dX12_swap_4 : decode cX12_swap 4 = .ok (.iload_n 1, 1) := by decide +kernel
theorem dX12_swap_5 : decode cX12_swap 5 = .ok (.iaload, 1) := by decide +kernel
theorem dX12_swap_6 : decode cX12_swap 6 = .ok (.istore_n 3, 1) := by decide +kernel
theorem dX12_swap_7 : decode cX12_swap 7 = .ok (.aload_n 0, 1) := by decide +kernel
theorem dX12_swap_8 : decode cX12_swap 8 = .ok (.getfield 142, 3) := by decide +kernel
theorem dX12_swap_11 : decode cX12_swap 11 = .ok (.iload_n 1, 1) := by decide +kernel
theorem dX12_swap_12 : decode cX12_swap 12 = .ok (.aload_n 0, 1) := by decide +kernel
theorem dX12_swap_13 : decode cX12_swap 13 = .ok (.getfield 142, 3) := by decide +kernel
theorem dX12_swap_16 : decode cX12_swap 16 = .ok (.iload_n 2, 1) := by decide +kernel
theorem dX12_swap_17 : decode cX12_swap 17 = .ok (.iaload, 1) := by decide +kernel
theorem dX12_swap_18 : decode cX12_swap 18 = .ok (.iastore, 1) := by decide +kernel
theorem dX12_swap_19 : decode cX12_swap 19 = .ok (.aload_n 0, 1) := by decide +kernel
theorem dX12_swap_20 : decode cX12_swap 20 = .ok (.getfield 142, 3) := by decide +kernel
theorem dX12_swap_23 : decode cX12_swap 23 = .ok (.iload_n 2, 1) := by decide +kernel
theorem dX12_swap_24 : decode cX12_swap 24 = .ok (.iload_n 3, 1) := by decide +kernel
theorem dX12_swap_25 : decode cX12_swap 25 = .ok (.iastore, 1) := by decide +kernel
theorem dX12_swap_26 : decode cX12_swap 26 = .ok (.return_, 1) := by decide +kernel
theorem dX12_order_0 : decode cX12_order 0 = .ok (.aload_n 0, 1) := by decide +kernel
theorem dX12_order_1 : decode cX12_order 1 = .ok (.iconst 0, 1) := by decide +kernel
theorem dX12_order_2 : decode cX12_order 2 = .ok (.putfield 184, 3) := by decide +kernel
theorem dX12_order_5 : decode cX12_order 5 = .ok (.aload_n 0, 1) := by decide +kernel
theorem dX12_order_6 : decode cX12_order 6 = .ok (.getfield 322, 3) := by decide +kernel
theorem dX12_order_9 : decode cX12_order 9 = .ok (.iconst 5, 1) := by decide +kernel
theorem dX12_order_10 : decode cX12_order 10 = .ok (.if_icmp .le 5, 3) := by decide +kernel
theorem dX12_order_13 : decode cX12_order 13 = .ok (.iconst (-1), 1) := by decide +kernel
theorem dX12_order_14 : decode cX12_order 14 = .ok (.ireturn, 1) := by decide +kernel
theorem dX12_order_15 : decode cX12_order 15 = .ok (.iconst 0, 1) := by decide +kernel
theorem dX12_order_16 : decode cX12_order 16 = .ok (.istore_n 1, 1) := by decide +kernel
theorem dX12_order_17 : decode cX12_order 17 = .ok (.iload_n 1, 1) := by decide +kernel
theorem dX12_order_18 : decode cX12_order 18 = .ok (.aload_n 0, 1) := by decide +kernel
theorem dX12_order_19 : decode cX12_order 19 = .ok (.getfield 322, 3) := by decide +kernel
theorem dX12_order_22 : decode cX12_order 22 = .ok (.if_icmp .ge 16, 3) := by decide +kernel
theorem dX12_order_25 : decode cX12_order 25 = .ok (.aload_n 0, 1) := by decide +kernel
theorem dX12_order_26 : decode cX12_order 26 = .ok (.getfield 142, 3) := by decide +kernel
theorem dX12_order_29 : decode cX12_order 29 = .ok (.iload_n 1, 1) := by decide +kernel
theorem dX12_order_30 : decode cX12_order 30 = .ok (.iload_n 1, 1) := by decide +kernel
theorem dX12_order_31 : decode cX12_order 31 = .ok (.iastore, 1) := by decide +kernel
theorem dX12_order_32 : decode cX12_order 32 = .ok (.iinc 1 1, 3) := by decide +kernel
theorem dX12_order_35 : decode cX12_order 35 = .ok (.goto (-18), 3) := by decide +kernel
theorem dX12_order_38 : decode cX12_order 38 = .ok (.iconst (-1), 1) := by decide +kernel
theorem dX12_order_39 : decode cX12_order 39 = .ok (.istore_n 1, 1) := by decide +kernel
theorem dX12_order_40 : decode cX12_order 40 = .ok (.iconst 1, 1) := by decide +kernel
theorem dX12_order_41 : decode cX12_order 41 = .ok (.istore_n 2, 1) := by decide +kernel
theorem dX12_order_42 : decode cX12_order 42 = .ok (.iload_n 2, 1) := by decide +kernel
theorem dX12_order_43 : decode cX12_order 43 = .ok (.ifCond .eq 124, 3) := by decide +kernel
theorem dX12_order_46 : decode cX12_order 46 = .ok (.aload_n 0, 1) := by decide +kernel
theorem dX12_order_47 : decode cX12_order 47 = .ok (.aload_n 0, 1) := by decide +kernel
theorem dX12_order_48 : decode cX12_order 48 = .ok (.getfield 38, 3) := by decide +kernel
theorem dX12_order_51 : decode cX12_order 51 = .ok (.aload_n 0, 1) := by decide +kernel
theorem dX12_order_52 : decode cX12_order 52 = .ok (.getfield 136, 3) := by decide +kernel
theorem dX12_order_55 : decode cX12_order 55 = .ok (.invokevirtual 328, 3) := by decide +kernel
theorem dX12_order_58 : decode cX12_order 58 = .ok (.iconst 0, 1) := by decide +kernel
theorem dX12_order_59 : decode cX12_order 59 = .ok (.istore_n 3, 1) := by decide +kernel
theorem dX12_order_60 : decode cX12_order 60 = .ok (.iload_n 3, 1) := by decide +kernel
theorem dX12_order_61 : decode cX12_order 61 = .ok (.aload_n 0, 1) := by decide +kernel
theorem dX12_order_62 : decode cX12_order 62 = .ok (.getfield 322, 3) := by decide +kernel
theorem dX12_order_65 : decode cX12_order 65 = .ok (.if_icmp .ge 46, 3) := by decide +kernel
theorem dX12_order_68 : decode cX12_order 68 = .ok (.aload_n 0, 1) := by decide +kernel
theorem dX12_order_69 : decode cX12_order 69 = .ok (.aload_n 0, 1) := by decide +kernel
theorem dX12_order_70 : decode cX12_order 70 = .ok (.getfield 136, 3) := by decide +kernel
theorem dX12_order_73 : decode cX12_order 73 = .ok (.aload_n 0, 1) := by decide +kernel
theorem dX12_order_74 : decode cX12_order 74 = .ok (.getfield 35, 3) := by decide +kernel
theorem dX12_order_77 : decode cX12_order 77 = .ok (.iconst 2, 1) := by decide +kernel
theorem dX12_order_78 : decode cX12_order 78 = .ok (.aload_n 0, 1) := by decide +kernel
theorem dX12_order_79 : decode cX12_order 79 = .ok (.getfield 142, 3) := by decide +kernel
theorem dX12_order_82 : decode cX12_order 82 = .ok (.iload_n 3, 1) := by decide +kernel
theorem dX12_order_83 : decode cX12_order 83 = .ok (.iaload, 1) := by decide +kernel
theorem dX12_order_84 : decode cX12_order 84 = .ok (.imul, 1) := by decide +kernel
theorem dX12_order_85 : decode cX12_order 85 = .ok (.iaload, 1) := by decide +kernel
theorem dX12_order_86 : decode cX12_order 86 = .ok (.aload_n 0, 1) := by decide +kernel
theorem dX12_order_87 : decode cX12_order 87 = .ok (.getfield 35, 3) := by decide +kernel
theorem dX12_order_90 : decode cX12_order 90 = .ok (.iconst 2, 1) := by decide +kernel
theorem dX12_order_91 : decode cX12_order 91 = .ok (.aload_n 0, 1) := by decide +kernel
theorem dX12_order_92 : decode cX12_order 92 = .ok (.getfield 142, 3) := by decide +kernel
theorem dX12_order_95 : decode cX12_order 95 = .ok (.iload_n 3, 1) := by decide +kernel
theorem dX12_order_96 : decode cX12_order 96 = .ok (.iaload, 1) := by decide +kernel
theorem dX12_order_97 : decode cX12_order 97 = .ok (.imul, 1) := by decide +kernel
theorem dX12_order_98 : decode cX12_order 98 = .ok (.iconst 1, 1) := by decide +kernel
theorem dX12_order_99 : decode cX12_order 99 = .ok (.iadd, 1) := by decide +kernel
theorem dX12_order_100 : decode cX12_order 100 = .ok (.iaload, 1) := by decide +kernel
theorem dX12_order_101 : decode cX12_order 101 = .ok (.invokevirtual 478, 3) := by decide +kernel
theorem dX12_order_104 : decode cX12_order 104 = .ok (.pop, 1) := by decide +kernel
theorem dX12_order_105 : decode cX12_order 105 = .ok (.iinc 3 1, 3) := by decide +kernel
theorem dX12_order_108 : decode cX12_order 108 = .ok (.goto (-48), 3) := by decide +kernel
theorem dX12_order_111 : decode cX12_order 111 = .ok (.aload_n 0, 1) := by decide +kernel
theorem dX12_order_112 : decode cX12_order 112 = .ok (.aload_n 0, 1) := by decide +kernel
theorem dX12_order_113 : decode cX12_order 113 = .ok (.getfield 136, 3) := by decide +kernel
theorem dX12_order_116 : decode cX12_order 116 = .ok (.invokevirtual 368, 3) := by decide +kernel
theorem dX12_order_119 : decode cX12_order 119 = .ok (.istore_n 3, 1) := by decide +kernel
theorem dX12_order_120 : decode cX12_order 120 = .ok (.iload_n 3, 1) := by decide +kernel
theorem dX12_order_121 : decode cX12_order 121 = .ok (.iload_n 1, 1) := by decide +kernel
theorem dX12_order_122 : decode cX12_order 122 = .ok (.if_icmp .le 37, 3) := by decide +kernel
theorem dX12_order_125 : decode cX12_order 125 = .ok (.iload_n 3, 1) := by decide +kernel
theorem dX12_order_126 : decode cX12_order 126 = .ok (.istore_n 1, 1) := by decide +kernel
theorem dX12_order_127 : decode cX12_order 127 = .ok (.iconst 0, 1) := by decide +kernel
theorem dX12_order_128 : decode cX12_order 128 = .ok (.istore 4, 2) := by decide +kernel
theorem dX12_order_130 : decode cX12_order 130 = .ok (.iload 4, 2) := by decide +kernel
theorem dX12_order_132 : decode cX12_order 132 = .ok (.aload_n 0, 1) := by decide +kernel
theorem dX12_order_133 : decode cX12_order 133 = .ok (.getfield 322, 3) := by decide +kernel
theorem dX12_order_136 : decode cX12_order 136 = .ok (.if_icmp .ge 23, 3) := by decide +kernel
theorem dX12_order_139 : decode cX12_order 139 = .ok (.aload_n 0, 1) := by decide +kernel
theorem dX12_order_140 : decode cX12_order 140 = .ok (.getfield 139, 3) := by decide +kernel
theorem dX12_order_143 : decode cX12_order 143 = .ok (.iload 4, 2) := by decide +kernel
theorem dX12_order_145 : decode cX12_order 145 = .ok (.aload_n 0, 1) := by decide +kernel
theorem dX12_order_146 : decode cX12_order 146 = .ok (.getfield 142, 3) := by decide +kernel
theorem dX12_order_149 : decode cX12_order 149 = .ok (.iload 4, 2) := by decide +kernel
theorem dX12_order_151 : decode cX12_order 151 = .ok (.iaload, 1) := by decide +kernel
theorem dX12_order_152 : decode cX12_order 152 = .ok (.iastore, 1) := by decide +kernel
theorem dX12_order_153 : decode cX12_order 153 = .ok (.iinc 4 1, 3) := by decide +kernel
theorem dX12_order_156 : decode cX12_order 156 = .ok (.goto (-26), 3) := by decide +kernel
theorem dX12_order_159 : decode cX12_order 159 = .ok (.aload_n 0, 1) := by decide +kernel
theorem dX12_order_160 : decode cX12_order 160 = .ok (.invokevirtual 492, 3) := by decide +kernel
theorem dX12_order_163 : decode cX12_order 163 = .ok (.istore_n 2, 1) := by decide +kernel
theorem dX12_order_164 : decode cX12_order 164 = .ok (.goto (-122), 3) := by decide +kernel
theorem dX12_order_167 : decode cX12_order 167 = .ok (.aload_n 0, 1) := by decide +kernel
theorem dX12_order_168 : decode cX12_order 168 = .ok (.aload_n 0, 1) := by decide +kernel
theorem dX12_order_169 : decode cX12_order 169 = .ok (.getfield 322, 3) := by decide +kernel
theorem dX12_order_172 : decode cX12_order 172 = .ok (.putfield 338, 3) := by decide +kernel
theorem dX12_order_175 : decode cX12_order 175 = .ok (.iload_n 1, 1) := by decide +kernel
theorem dX12_order_176 : decode cX12_order 176 = .ok (.ireturn, 1) := by decide +kernel
theorem dX12_ordered_0 : decode cX12_ordered 0 = .ok (.aload_n 0, 1) := by decide +kernel
theorem dX12_ordered_1 : decode cX12_ordered 1 = .ok (.iconst 0, 1) := by decide +kernel
theorem dX12_ordered_2 : decode cX12_ordered 2 = .ok (.putfield 184, 3) := by decide +kernel
theorem dX12_ordered_5 : decode cX12_ordered 5 = .ok (.aload_n 0, 1) := by decide +kernel
theorem dX12_ordered_6 : decode cX12_ordered 6 = .ok (.iload_n 1, 1) := by decide +kernel
theorem dX12_ordered_7 : decode cX12_ordered 7 = .ok (.ifCond .lt 15, 3) := by decide +kernel
theorem dX12_ordered_10 : decode cX12_ordered 10 = .ok (.iload_n 1, 1) := by decide +kernel
theorem dX12_ordered_11 : decode cX12_ordered 11 = .ok (.aload_n 0, 1) := by decide +kernel
theorem dX12_ordered_12 : decode cX12_ordered 12 = .ok (.getfield 338, 3) := by decide +kernel
theorem dX12_ordered_15 : decode cX12_ordered 15 = .ok (.if_icmp .ge 7, 3) := by decide +kernel
theorem dX12_ordered_18 : decode cX12_ordered 18 = .ok (.iconst 1, 1) := by decide +kernel
theorem dX12_ordered_19 : decode cX12_ordered 19 = .ok (.goto 4, 3) := by decide +kernel
theorem dX12_ordered_22 : decode cX12_ordered 22 = .ok (.iconst 0, 1) := by decide +kernel
theorem dX12_ordered_23 : decode cX12_ordered 23 = .ok (.iconst 1, 1) := by decide +kernel
theorem dX12_ordered_24 : decode cX12_ordered 24 = .ok (.invokevirtual 309, 3) := by decide +kernel
theorem dX12_ordered_27 : decode cX12_ordered 27 = .ok (.ifCond .eq 12, 3) := by decide +kernel
theorem dX12_ordered_30 : decode cX12_ordered 30 = .ok (.aload_n 0, 1) := by decide +kernel
theorem dX12_ordered_31 : decode cX12_ordered 31 = .ok (.getfield 139, 3) := by decide +kernel
theorem dX12_ordered_34 : decode cX12_ordered 34 = .ok (.iload_n 1, 1) := by decide +kernel
theorem dX12_ordered_35 : decode cX12_ordered 35 = .ok (.iaload, 1) := by decide +kernel
theorem dX12_ordered_36 : decode cX12_ordered 36 = .ok (.goto 4, 3) := by decide +kernel
theorem dX12_ordered_39 : decode cX12_ordered 39 = .ok (.iconst 0, 1) := by decide +kernel
theorem dX12_ordered_40 : decode cX12_ordered 40 = .ok (.ireturn, 1) := by decide +kernel
theorem dX12_scenes_0 : decode cX12_scenes 0 = .ok (.iconst 0, 1) := by decide +kernel
theorem dX12_scenes_1 : decode cX12_scenes 1 = .ok (.istore_n 2, 1) := by decide +kernel
theorem dX12_scenes_2 : decode cX12_scenes 2 = .ok (.iload_n 2, 1) := by decide +kernel
theorem dX12_scenes_3 : decode cX12_scenes 3 = .ok (.bipush 48, 2) := by decide +kernel
theorem dX12_scenes_5 : decode cX12_scenes 5 = .ok (.if_icmp .ge 26, 3) := by decide +kernel
theorem dX12_scenes_8 : decode cX12_scenes 8 = .ok (.aload_n 0, 1) := by decide +kernel
theorem dX12_scenes_9 : decode cX12_scenes 9 = .ok (.getfield 172, 3) := by decide +kernel
theorem dX12_scenes_12 : decode cX12_scenes 12 = .ok (.iload_n 2, 1) := by decide +kernel
theorem dX12_scenes_13 : decode cX12_scenes 13 = .ok (.aload_n 0, 1) := by decide +kernel
theorem dX12_scenes_14 : decode cX12_scenes 14 = .ok (.getfield 145, 3) := by decide +kernel
theorem dX12_scenes_17 : decode cX12_scenes 17 = .ok (.bipush 48, 2) := by decide +kernel
theorem dX12_scenes_19 : decode cX12_scenes 19 = .ok (.iload_n 1, 1) := by decide +kernel
theorem dX12_scenes_20 : decode cX12_scenes 20 = .ok (.imul, 1) := by decide +kernel
theorem dX12_scenes_21 : decode cX12_scenes 21 = .ok (.iload_n 2, 1) := by decide +kernel
theorem dX12_scenes_22 : decode cX12_scenes 22 = .ok (.iadd, 1) := by decide +kernel
theorem dX12_scenes_23 : decode cX12_scenes 23 = .ok (.iaload, 1) := by decide +kernel
theorem dX12_scenes_24 : decode cX12_scenes 24 = .ok (.iastore, 1) := by decide +kernel
theorem dX12_scenes_25 : decode cX12_scenes 25 = .ok (.iinc 2 1, 3) := by decide +kernel
theorem dX12_scenes_28 : decode cX12_scenes 28 = .ok (.goto (-26), 3) := by decide +kernel
theorem dX12_scenes_31 : decode cX12_scenes 31 = .ok (.return_, 1) := by decide +kernel
theorem dX12_firstOf_0 : decode cX12_firstOf 0 = .ok (.aload_n 0, 1) := by decide +kernel
theorem dX12_firstOf_1 : decode cX12_firstOf 1 = .ok (.getfield 35, 3) := by decide +kernel
theorem dX12_firstOf_4 : decode cX12_firstOf 4 = .ok (.iconst 2, 1) := by decide +kernel
theorem dX12_firstOf_5 : decode cX12_firstOf 5 = .ok (.iload_n 1, 1) := by decide +kernel
theorem dX12_firstOf_6 : decode cX12_firstOf 6 = .ok (.imul, 1) := by decide +kernel
theorem dX12_firstOf_7 : decode cX12_firstOf 7 = .ok (.iaload, 1) := by decide +kernel
theorem dX12_firstOf_8 : decode cX12_firstOf 8 = .ok (.ireturn, 1) := by decide +kernel
theorem dX12_secondOf_0 : decode cX12_secondOf 0 = .ok (.aload_n 0, 1) := by decide +kernel
theorem dX12_secondOf_1 : decode cX12_secondOf 1 = .ok (.getfield 35, 3) := by decide +kernel
theorem dX12_secondOf_4 : decode cX12_secondOf 4 = .ok (.iconst 2, 1) := by decide +kernel
theorem dX12_secondOf_5 : decode cX12_secondOf 5 = .ok (.iload_n 1, 1) := by decide +kernel
theorem dX12_secondOf_6 : decode cX12_secondOf 6 = .ok (.imul, 1) := by decide +kernel
theorem dX12_secondOf_7 : decode cX12_secondOf 7 = .ok (.iconst 1, 1) := by decide +kernel
theorem dX12_secondOf_8 : decode cX12_secondOf 8 = .ok (.iadd, 1) := by decide +kernel
theorem dX12_secondOf_9 : decode cX12_secondOf 9 = .ok (.iaload, 1) := by decide +kernel
theorem dX12_secondOf_10 : decode cX12_secondOf 10 = .ok (.ireturn, 1) := by decide +kernel
theorem dX12_giver_0 : decode cX12_giver 0 = .ok (.aload_n 0, 1) := by decide +kernel
theorem dX12_giver_1 : decode cX12_giver 1 = .ok (.iload_n 1, 1) := by decide +kernel
theorem dX12_giver_2 : decode cX12_giver 2 = .ok (.invokevirtual 495, 3) := by decide +kernel
theorem dX12_giver_5 : decode cX12_giver 5 = .ok (.aload_n 0, 1) := by decide +kernel
theorem dX12_giver_6 : decode cX12_giver 6 = .ok (.iload_n 1, 1) := by decide +kernel
theorem dX12_giver_7 : decode cX12_giver 7 = .ok (.invokevirtual 498, 3) := by decide +kernel
theorem dX12_giver_10 : decode cX12_giver 10 = .ok (.if_icmp .ge 7, 3) := by decide +kernel
theorem dX12_giver_13 : decode cX12_giver 13 = .ok (.iconst 1, 1) := by decide +kernel
theorem dX12_giver_14 : decode cX12_giver 14 = .ok (.goto 4, 3) := by decide +kernel
theorem dX12_giver_17 : decode cX12_giver 17 = .ok (.iconst 0, 1) := by decide +kernel
theorem dX12_giver_18 : decode cX12_giver 18 = .ok (.istore_n 2, 1) := by decide +kernel
theorem dX12_giver_19 : decode cX12_giver 19 = .ok (.aload_n 0, 1) := by decide +kernel
theorem dX12_giver_20 : decode cX12_giver 20 = .ok (.getfield 151, 3) := by decide +kernel
theorem dX12_giver_23 : decode cX12_giver 23 = .ok (.iload_n 1, 1) := by decide +kernel
theorem dX12_giver_24 : decode cX12_giver 24 = .ok (.iaload, 1) := by decide +kernel
theorem dX12_giver_25 : decode cX12_giver 25 = .ok (.ifCond .ne 7, 3) := by decide +kernel
theorem dX12_giver_28 : decode cX12_giver 28 = .ok (.iconst 1, 1) := by decide +kernel
theorem dX12_giver_29 : decode cX12_giver 29 = .ok (.goto 4, 3) := by decide +kernel
theorem dX12_giver_32 : decode cX12_giver 32 = .ok (.iconst 0, 1) := by decide +kernel
theorem dX12_giver_33 : decode cX12_giver 33 = .ok (.iload_n 2, 1) := by decide +kernel
theorem dX12_giver_34 : decode cX12_giver 34 = .ok (.if_icmp .ne 11, 3) := by decide +kernel
theorem dX12_giver_37 : decode cX12_giver 37 = .ok (.aload_n 0, 1) := by decide +kernel
theorem dX12_giver_38 : decode cX12_giver 38 = .ok (.iload_n 1, 1) := by decide +kernel
theorem dX12_giver_39 : decode cX12_giver 39 = .ok (.invokevirtual 495, 3) := by decide +kernel
theorem dX12_giver_42 : decode cX12_giver 42 = .ok (.goto 8, 3) := by decide +kernel
theorem dX12_giver_45 : decode cX12_giver 45 = .ok (.aload_n 0, 1) := by decide +kernel
theorem dX12_giver_46 : decode cX12_giver 46 = .ok (.iload_n 1, 1) := by decide +kernel
theorem dX12_giver_47 : decode cX12_giver 47 = .ok (.invokevirtual 498, 3) := by decide +kernel
theorem dX12_giver_50 : decode cX12_giver 50 = .ok (.ireturn, 1) := by decide +kernel
theorem dX12_taker_0 : decode cX12_taker 0 = .ok (.aload_n 0, 1) := by decide +kernel
theorem dX12_taker_1 : decode cX12_taker 1 = .ok (.iload_n 1, 1) := by decide +kernel
theorem dX12_taker_2 : decode cX12_taker 2 = .ok (.invokevirtual 501, 3) := by decide +kernel
theorem dX12_taker_5 : decode cX12_taker 5 = .ok (.aload_n 0, 1) := by decide +kernel
theorem dX12_taker_6 : decode cX12_taker 6 = .ok (.iload_n 1, 1) := by decide +kernel
theorem dX12_taker_7 : decode cX12_taker 7 = .ok (.invokevirtual 495, 3) := by decide +kernel
theorem dX12_taker_10 : decode cX12_taker 10 = .ok (.if_icmp .ne 11, 3) := by decide +kernel
theorem dX12_taker_13 : decode cX12_taker 13 = .ok (.aload_n 0, 1) := by decide +kernel
theorem dX12_taker_14 : decode cX12_taker 14 = .ok (.iload_n 1, 1) := by decide +kernel
theorem dX12_taker_15 : decode cX12_taker 15 = .ok (.invokevirtual 498, 3) := by decide +kernel
theorem dX12_taker_18 : decode cX12_taker 18 = .ok (.goto 8, 3) := by decide +kernel
theorem dX12_taker_21 : decode cX12_taker 21 = .ok (.aload_n 0, 1) := by decide +kernel
theorem dX12_taker_22 : decode cX12_taker 22 = .ok (.iload_n 1, 1) := by decide +kernel
theorem dX12_taker_23 : decode cX12_taker 23 = .ok (.invokevirtual 495, 3) := by decide +kernel
theorem dX12_taker_26 : decode cX12_taker 26 = .ok (.ireturn, 1) := by decide +kernel
theorem dX12_opens_0 : decode cX12_opens 0 = .ok (.aload_n 0, 1) := by decide +kernel
theorem dX12_opens_1 : decode cX12_opens 1 = .ok (.getfield 166, 3) := by decide +kernel
theorem dX12_opens_4 : decode cX12_opens 4 = .ok (.iload_n 1, 1) := by decide +kernel
theorem dX12_opens_5 : decode cX12_opens 5 = .ok (.iconst 0, 1) := by decide +kernel
theorem dX12_opens_6 : decode cX12_opens 6 = .ok (.iastore, 1) := by decide +kernel
theorem dX12_opens_7 : decode cX12_opens 7 = .ok (.aload_n 0, 1) := by decide +kernel
theorem dX12_opens_8 : decode cX12_opens 8 = .ok (.getfield 169, 3) := by decide +kernel
theorem dX12_opens_11 : decode cX12_opens 11 = .ok (.iload_n 1, 1) := by decide +kernel
theorem dX12_opens_12 : decode cX12_opens 12 = .ok (.iconst 0, 1) := by decide +kernel
theorem dX12_opens_13 : decode cX12_opens 13 = .ok (.bastore, 1) := by decide +kernel
theorem dX12_opens_14 : decode cX12_opens 14 = .ok (.aload_n 0, 1) := by decide +kernel
theorem dX12_opens_15 : decode cX12_opens 15 = .ok (.getfield 151, 3) := by decide +kernel
theorem dX12_opens_18 : decode cX12_opens 18 = .ok (.iload_n 1, 1) := by decide +kernel
theorem dX12_opens_19 : decode cX12_opens 19 = .ok (.iconst 0, 1) := by decide +kernel
theorem dX12_opens_20 : decode cX12_opens 20 = .ok (.iastore, 1) := by decide +kernel
theorem dX12_opens_21 : decode cX12_opens 21 = .ok (.aload_n 0, 1) := by decide +kernel
theorem dX12_opens_22 : decode cX12_opens 22 = .ok (.getfield 154, 3) := by decide +kernel
theorem dX12_opens_25 : decode cX12_opens 25 = .ok (.iload_n 1, 1) := by decide +kernel
theorem dX12_opens_26 : decode cX12_opens 26 = .ok (.iconst (-1), 1) := by decide +kernel
theorem dX12_opens_27 : decode cX12_opens 27 = .ok (.iastore, 1) := by decide +kernel
theorem dX12_opens_28 : decode cX12_opens 28 = .ok (.iconst 0, 1) := by decide +kernel
theorem dX12_opens_29 : decode cX12_opens 29 = .ok (.istore_n 2, 1) := by decide +kernel
theorem dX12_opens_30 : decode cX12_opens 30 = .ok (.iload_n 2, 1) := by decide +kernel
theorem dX12_opens_31 : decode cX12_opens 31 = .ok (.aload_n 0, 1) := by decide +kernel
theorem dX12_opens_32 : decode cX12_opens 32 = .ok (.getfield 13, 3) := by decide +kernel
theorem dX12_opens_35 : decode cX12_opens 35 = .ok (.if_icmp .ge 20, 3) := by decide +kernel
theorem dX12_opens_38 : decode cX12_opens 38 = .ok (.aload_n 0, 1) := by decide +kernel
theorem dX12_opens_39 : decode cX12_opens 39 = .ok (.getfield 148, 3) := by decide +kernel
theorem dX12_opens_42 : decode cX12_opens 42 = .ok (.iconst 3, 1) := by decide +kernel
theorem dX12_opens_43 : decode cX12_opens 43 = .ok (.iload_n 1, 1) := by decide +kernel
theorem dX12_opens_44 : decode cX12_opens 44 = .ok (.imul, 1) := by decide +kernel
theorem dX12_opens_45 : decode cX12_opens 45 = .ok (.iload_n 2, 1) := by decide +kernel
theorem dX12_opens_46 : decode cX12_opens 46 = .ok (.iadd, 1) := by decide +kernel
theorem dX12_opens_47 : decode cX12_opens 47 = .ok (.iconst 0, 1) := by decide +kernel
theorem dX12_opens_48 : decode cX12_opens 48 = .ok (.iastore, 1) := by decide +kernel
theorem dX12_opens_49 : decode cX12_opens 49 = .ok (.iinc 2 1, 3) := by decide +kernel
theorem dX12_opens_52 : decode cX12_opens 52 = .ok (.goto (-22), 3) := by decide +kernel
theorem dX12_opens_55 : decode cX12_opens 55 = .ok (.return_, 1) := by decide +kernel
theorem dX12_advances_0 : decode cX12_advances 0 = .ok (.aload_n 0, 1) := by decide +kernel
theorem dX12_advances_1 : decode cX12_advances 1 = .ok (.iload_n 1, 1) := by decide +kernel
theorem dX12_advances_2 : decode cX12_advances 2 = .ok (.invokevirtual 504, 3) := by decide +kernel
theorem dX12_advances_5 : decode cX12_advances 5 = .ok (.aload_n 0, 1) := by decide +kernel
theorem dX12_advances_6 : decode cX12_advances 6 = .ok (.getfield 151, 3) := by decide +kernel
theorem dX12_advances_9 : decode cX12_advances 9 = .ok (.iload_n 1, 1) := by decide +kernel
theorem dX12_advances_10 : decode cX12_advances 10 = .ok (.iaload, 1) := by decide +kernel
theorem dX12_advances_11 : decode cX12_advances 11 = .ok (.iconst 2, 1) := by decide +kernel
theorem dX12_advances_12 : decode cX12_advances 12 = .ok (.if_icmp .ge 245, 3) := by decide +kernel
theorem dX12_advances_15 : decode cX12_advances 15 = .ok (.iconst 0, 1) := by decide +kernel
theorem dX12_advances_16 : decode cX12_advances 16 = .ok (.istore_n 2, 1) := by decide +kernel
theorem dX12_advances_17 : decode cX12_advances 17 = .ok (.iload_n 2, 1) := by decide +kernel
theorem dX12_advances_18 : decode cX12_advances 18 = .ok (.aload_n 0, 1) := by decide +kernel
theorem dX12_advances_19 : decode cX12_advances 19 = .ok (.getfield 13, 3) := by decide +kernel
theorem dX12_advances_22 : decode cX12_advances 22 = .ok (.if_icmp .ge 25, 3) := by decide +kernel
theorem dX12_advances_25 : decode cX12_advances 25 = .ok (.aload_n 0, 1) := by decide +kernel
theorem dX12_advances_26 : decode cX12_advances 26 = .ok (.getfield 81, 3) := by decide +kernel
theorem dX12_advances_29 : decode cX12_advances 29 = .ok (.iload_n 2, 1) := by decide +kernel
theorem dX12_advances_30 : decode cX12_advances 30 = .ok (.aload_n 0, 1) := by decide +kernel
theorem dX12_advances_31 : decode cX12_advances 31 = .ok (.getfield 148, 3) := by decide +kernel
theorem dX12_advances_34 : decode cX12_advances 34 = .ok (.iconst 3, 1) := by decide +kernel
theorem dX12_advances_35 : decode cX12_advances 35 = .ok (.iload_n 1, 1) := by decide +kernel
theorem dX12_advances_36 : decode cX12_advances 36 = .ok (.imul, 1) := by decide +kernel
theorem dX12_advances_37 : decode cX12_advances 37 = .ok (.iload_n 2, 1) := by decide +kernel
theorem dX12_advances_38 : decode cX12_advances 38 = .ok (.iadd, 1) := by decide +kernel
theorem dX12_advances_39 : decode cX12_advances 39 = .ok (.iaload, 1) := by decide +kernel
theorem dX12_advances_40 : decode cX12_advances 40 = .ok (.iastore, 1) := by decide +kernel
theorem dX12_advances_41 : decode cX12_advances 41 = .ok (.iinc 2 1, 3) := by decide +kernel
theorem dX12_advances_44 : decode cX12_advances 44 = .ok (.goto (-27), 3) := by decide +kernel
theorem dX12_advances_47 : decode cX12_advances 47 = .ok (.iconst 1, 1) := by decide +kernel
theorem dX12_advances_48 : decode cX12_advances 48 = .ok (.istore_n 2, 1) := by decide +kernel
theorem dX12_advances_49 : decode cX12_advances 49 = .ok (.iload_n 2, 1) := by decide +kernel
theorem dX12_advances_50 : decode cX12_advances 50 = .ok (.ifCond .eq 167, 3) := by decide +kernel
theorem dX12_advances_53 : decode cX12_advances 53 = .ok (.aload_n 0, 1) := by decide +kernel
theorem dX12_advances_54 : decode cX12_advances 54 = .ok (.getfield 154, 3) := by decide +kernel
theorem dX12_advances_57 : decode cX12_advances 57 = .ok (.iload_n 1, 1) := by decide +kernel
theorem dX12_advances_58 : decode cX12_advances 58 = .ok (.iaload, 1) := by decide +kernel
theorem dX12_advances_59 : decode cX12_advances 59 = .ok (.iconst 1, 1) := by decide +kernel
theorem dX12_advances_60 : decode cX12_advances 60 = .ok (.iadd, 1) := by decide +kernel
theorem dX12_advances_61 : decode cX12_advances 61 = .ok (.istore_n 3, 1) := by decide +kernel
theorem dX12_advances_62 : decode cX12_advances 62 = .ok (.iload_n 3, 1) := by decide +kernel
theorem dX12_advances_63 : decode cX12_advances 63 = .ok (.aload_n 0, 1) := by decide +kernel
theorem dX12_advances_64 : decode cX12_advances 64 = .ok (.getfield 7, 3) := by decide +kernel
theorem dX12_advances_67 : decode cX12_advances 67 = .ok (.if_icmp .ge 135, 3) := by decide +kernel
theorem dX12_advances_70 : decode cX12_advances 70 = .ok (.aload_n 0, 1) := by decide +kernel
theorem dX12_advances_71 : decode cX12_advances 71 = .ok (.aload_n 0, 1) := by decide +kernel
theorem dX12_advances_72 : decode cX12_advances 72 = .ok (.getfield 172, 3) := by decide +kernel
theorem dX12_advances_75 : decode cX12_advances 75 = .ok (.aload_n 0, 1) := by decide +kernel
theorem dX12_advances_76 : decode cX12_advances 76 = .ok (.iload_n 1, 1) := by decide +kernel
theorem dX12_advances_77 : decode cX12_advances 77 = .ok (.invokevirtual 501, 3) := by decide +kernel
theorem dX12_advances_80 : decode cX12_advances 80 = .ok (.aload_n 0, 1) := by decide +kernel
theorem dX12_advances_81 : decode cX12_advances 81 = .ok (.iload_n 1, 1) := by decide +kernel
theorem dX12_advances_82 : decode cX12_advances 82 = .ok (.invokevirtual 507, 3) := by decide +kernel
theorem dX12_advances_85 : decode cX12_advances 85 = .ok (.iload_n 3, 1) := by decide +kernel
theorem dX12_advances_86 : decode cX12_advances 86 = .ok (.invokevirtual 385, 3) := by decide +kernel
theorem dX12_advances_89 : decode cX12_advances 89 = .ok (.ifCond .ne 6, 3) := by decide +kernel
theorem dX12_advances_92 : decode cX12_advances 92 = .ok (.goto 104, 3) := by decide +kernel
theorem dX12_advances_95 : decode cX12_advances 95 = .ok (.aload_n 0, 1) := by decide +kernel
theorem dX12_advances_96 : decode cX12_advances 96 = .ok (.getfield 154, 3) := by decide +kernel
theorem dX12_advances_99 : decode cX12_advances 99 = .ok (.iload_n 1, 1) := by decide +kernel
theorem dX12_advances_100 : decode cX12_advances 100 = .ok (.iload_n 3, 1) := by decide +kernel
theorem dX12_advances_101 : decode cX12_advances 101 = .ok (.iastore, 1) := by decide +kernel
theorem dX12_advances_102 : decode cX12_advances 102 = .ok (.iconst 0, 1) := by decide +kernel
theorem dX12_advances_103 : decode cX12_advances 103 = .ok (.istore 4, 2) := by decide +kernel
theorem dX12_advances_105 : decode cX12_advances 105 = .ok (.iload 4, 2) := by decide +kernel
theorem dX12_advances_107 : decode cX12_advances 107 = .ok (.aload_n 0, 1) := by decide +kernel
theorem dX12_advances_108 : decode cX12_advances 108 = .ok (.getfield 13, 3) := by decide +kernel
theorem dX12_advances_111 : decode cX12_advances 111 = .ok (.if_icmp .ge 27, 3) := by decide +kernel
theorem dX12_advances_114 : decode cX12_advances 114 = .ok (.aload_n 0, 1) := by decide +kernel
theorem dX12_advances_115 : decode cX12_advances 115 = .ok (.getfield 148, 3) := by decide +kernel
theorem dX12_advances_118 : decode cX12_advances 118 = .ok (.iconst 3, 1) := by decide +kernel
theorem dX12_advances_119 : decode cX12_advances 119 = .ok (.iload_n 1, 1) := by decide +kernel
theorem dX12_advances_120 : decode cX12_advances 120 = .ok (.imul, 1) := by decide +kernel
theorem dX12_advances_121 : decode cX12_advances 121 = .ok (.iload 4, 2) := by decide +kernel
theorem dX12_advances_123 : decode cX12_advances 123 = .ok (.iadd, 1) := by decide +kernel
theorem dX12_advances_124 : decode cX12_advances 124 = .ok (.aload_n 0, 1) := by decide +kernel
theorem dX12_advances_125 : decode cX12_advances 125 = .ok (.getfield 81, 3) := by decide +kernel
theorem dX12_advances_128 : decode cX12_advances 128 = .ok (.iload 4, 2) := by decide +kernel
theorem dX12_advances_130 : decode cX12_advances 130 = .ok (.iaload, 1) := by decide +kernel
theorem dX12_advances_131 : decode cX12_advances 131 = .ok (.iastore, 1) := by decide +kernel
theorem dX12_advances_132 : decode cX12_advances 132 = .ok (.iinc 4 1, 3) := by decide +kernel
theorem dX12_advances_135 : decode cX12_advances 135 = .ok (.goto (-30), 3) := by decide +kernel
theorem dX12_advances_138 : decode cX12_advances 138 = .ok (.aload_n 0, 1) := by decide +kernel
theorem dX12_advances_139 : decode cX12_advances 139 = .ok (.aload_n 0, 1) := by decide +kernel
theorem dX12_advances_140 : decode cX12_advances 140 = .ok (.getfield 172, 3) := by decide +kernel
theorem dX12_advances_143 : decode cX12_advances 143 = .ok (.aload_n 0, 1) := by decide +kernel
theorem dX12_advances_144 : decode cX12_advances 144 = .ok (.iload_n 1, 1) := by decide +kernel
theorem dX12_advances_145 : decode cX12_advances 145 = .ok (.invokevirtual 501, 3) := by decide +kernel
theorem dX12_advances_148 : decode cX12_advances 148 = .ok (.aload_n 0, 1) := by decide +kernel
theorem dX12_advances_149 : decode cX12_advances 149 = .ok (.iload_n 1, 1) := by decide +kernel
theorem dX12_advances_150 : decode cX12_advances 150 = .ok (.invokevirtual 507, 3) := by decide +kernel
theorem dX12_advances_153 : decode cX12_advances 153 = .ok (.iload_n 3, 1) := by decide +kernel
theorem dX12_advances_154 : decode cX12_advances 154 = .ok (.invokevirtual 389, 3) := by decide +kernel
theorem dX12_advances_157 : decode cX12_advances 157 = .ok (.iconst 0, 1) := by decide +kernel
theorem dX12_advances_158 : decode cX12_advances 158 = .ok (.istore 4, 2) := by decide +kernel
theorem dX12_advances_160 : decode cX12_advances 160 = .ok (.iload 4, 2) := by decide +kernel
theorem dX12_advances_162 : decode cX12_advances 162 = .ok (.bipush 48, 2) := by decide +kernel
theorem dX12_advances_164 : decode cX12_advances 164 = .ok (.if_icmp .ge 30, 3) := by decide +kernel
theorem dX12_advances_167 : decode cX12_advances 167 = .ok (.aload_n 0, 1) := by decide +kernel
theorem dX12_advances_168 : decode cX12_advances 168 = .ok (.getfield 145, 3) := by decide +kernel
theorem dX12_advances_171 : decode cX12_advances 171 = .ok (.bipush 48, 2) := by decide +kernel
theorem dX12_advances_173 : decode cX12_advances 173 = .ok (.iload_n 1, 1) := by decide +kernel
theorem dX12_advances_174 : decode cX12_advances 174 = .ok (.iconst 1, 1) := by decide +kernel
theorem dX12_advances_175 : decode cX12_advances 175 = .ok (.iadd, 1) := by decide +kernel
theorem dX12_advances_176 : decode cX12_advances 176 = .ok (.imul, 1) := by decide +kernel
theorem dX12_advances_177 : decode cX12_advances 177 = .ok (.iload 4, 2) := by decide +kernel
theorem dX12_advances_179 : decode cX12_advances 179 = .ok (.iadd, 1) := by decide +kernel
theorem dX12_advances_180 : decode cX12_advances 180 = .ok (.aload_n 0, 1) := by decide +kernel
theorem dX12_advances_181 : decode cX12_advances 181 = .ok (.getfield 172, 3) := by decide +kernel
theorem dX12_advances_184 : decode cX12_advances 184 = .ok (.iload 4, 2) := by decide +kernel
theorem dX12_advances_186 : decode cX12_advances 186 = .ok (.iaload, 1) := by decide +kernel
theorem dX12_advances_187 : decode cX12_advances 187 = .ok (.iastore, 1) := by decide +kernel
theorem dX12_advances_188 : decode cX12_advances 188 = .ok (.iinc 4 1, 3) := by decide +kernel
theorem dX12_advances_191 : decode cX12_advances 191 = .ok (.goto (-31), 3) := by decide +kernel
theorem dX12_advances_194 : decode cX12_advances 194 = .ok (.iconst 1, 1) := by decide +kernel
theorem dX12_advances_195 : decode cX12_advances 195 = .ok (.ireturn, 1) := by decide +kernel
theorem dX12_advances_196 : decode cX12_advances 196 = .ok (.iinc 3 1, 3) := by decide +kernel
theorem dX12_advances_199 : decode cX12_advances 199 = .ok (.goto (-137), 3) := by decide +kernel
theorem dX12_advances_202 : decode cX12_advances 202 = .ok (.aload_n 0, 1) := by decide +kernel
theorem dX12_advances_203 : decode cX12_advances 203 = .ok (.getfield 154, 3) := by decide +kernel
theorem dX12_advances_206 : decode cX12_advances 206 = .ok (.iload_n 1, 1) := by decide +kernel
theorem dX12_advances_207 : decode cX12_advances 207 = .ok (.iconst (-1), 1) := by decide +kernel
theorem dX12_advances_208 : decode cX12_advances 208 = .ok (.iastore, 1) := by decide +kernel
theorem dX12_advances_209 : decode cX12_advances 209 = .ok (.aload_n 0, 1) := by decide +kernel
theorem dX12_advances_210 : decode cX12_advances 210 = .ok (.invokevirtual 443, 3) := by decide +kernel
theorem dX12_advances_213 : decode cX12_advances 213 = .ok (.istore_n 2, 1) := by decide +kernel
theorem dX12_advances_214 : decode cX12_advances 214 = .ok (.goto (-165), 3) := by decide +kernel
theorem dX12_advances_217 : decode cX12_advances 217 = .ok (.aload_n 0, 1) := by decide +kernel
theorem dX12_advances_218 : decode cX12_advances 218 = .ok (.getfield 151, 3) := by decide +kernel
theorem dX12_advances_221 : decode cX12_advances 221 = .ok (.iload_n 1, 1) := by decide +kernel
theorem dX12_advances_222 : decode cX12_advances 222 = .ok (.dup2, 1) := by decide +kernel
theorem dX12_advances_223 : decode cX12_advances 223 = .ok (.iaload, 1) := by decide +kernel
theorem dX12_advances_224 : decode cX12_advances 224 = .ok (.iconst 1, 1) := by decide +kernel
theorem dX12_advances_225 : decode cX12_advances 225 = .ok (.iadd, 1) := by decide +kernel
theorem dX12_advances_226 : decode cX12_advances 226 = .ok (.iastore, 1) := by decide +kernel
theorem dX12_advances_227 : decode cX12_advances 227 = .ok (.iconst 0, 1) := by decide +kernel
theorem dX12_advances_228 : decode cX12_advances 228 = .ok (.istore_n 3, 1) := by decide +kernel
theorem dX12_advances_229 : decode cX12_advances 229 = .ok (.iload_n 3, 1) := by decide +kernel
theorem dX12_advances_230 : decode cX12_advances 230 = .ok (.aload_n 0, 1) := by decide +kernel
theorem dX12_advances_231 : decode cX12_advances 231 = .ok (.getfield 13, 3) := by decide +kernel
theorem dX12_advances_234 : decode cX12_advances 234 = .ok (.if_icmp .ge 20, 3) := by decide +kernel
theorem dX12_advances_237 : decode cX12_advances 237 = .ok (.aload_n 0, 1) := by decide +kernel
theorem dX12_advances_238 : decode cX12_advances 238 = .ok (.getfield 148, 3) := by decide +kernel
theorem dX12_advances_241 : decode cX12_advances 241 = .ok (.iconst 3, 1) := by decide +kernel
theorem dX12_advances_242 : decode cX12_advances 242 = .ok (.iload_n 1, 1) := by decide +kernel
theorem dX12_advances_243 : decode cX12_advances 243 = .ok (.imul, 1) := by decide +kernel
theorem dX12_advances_244 : decode cX12_advances 244 = .ok (.iload_n 3, 1) := by decide +kernel
theorem dX12_advances_245 : decode cX12_advances 245 = .ok (.iadd, 1) := by decide +kernel
theorem dX12_advances_246 : decode cX12_advances 246 = .ok (.iconst 0, 1) := by decide +kernel
theorem dX12_advances_247 : decode cX12_advances 247 = .ok (.iastore, 1) := by decide +kernel
theorem dX12_advances_248 : decode cX12_advances 248 = .ok (.iinc 3 1, 3) := by decide +kernel
theorem dX12_advances_251 : decode cX12_advances 251 = .ok (.goto (-22), 3) := by decide +kernel
theorem dX12_advances_254 : decode cX12_advances 254 = .ok (.goto (-249), 3) := by decide +kernel
theorem dX12_advances_257 : decode cX12_advances 257 = .ok (.iconst 0, 1) := by decide +kernel
theorem dX12_advances_258 : decode cX12_advances 258 = .ok (.ireturn, 1) := by decide +kernel
theorem dX12_learns_0 : decode cX12_learns 0 = .ok (.aload_n 0, 1) := by decide +kernel
theorem dX12_learns_1 : decode cX12_learns 1 = .ok (.iload_n 1, 1) := by decide +kernel
theorem dX12_learns_2 : decode cX12_learns 2 = .ok (.invokevirtual 495, 3) := by decide +kernel
theorem dX12_learns_5 : decode cX12_learns 5 = .ok (.istore_n 2, 1) := by decide +kernel
theorem dX12_learns_6 : decode cX12_learns 6 = .ok (.aload_n 0, 1) := by decide +kernel
theorem dX12_learns_7 : decode cX12_learns 7 = .ok (.iload_n 1, 1) := by decide +kernel
theorem dX12_learns_8 : decode cX12_learns 8 = .ok (.invokevirtual 498, 3) := by decide +kernel
theorem dX12_learns_11 : decode cX12_learns 11 = .ok (.istore_n 3, 1) := by decide +kernel
theorem dX12_learns_12 : decode cX12_learns 12 = .ok (.aload_n 0, 1) := by decide +kernel
theorem dX12_learns_13 : decode cX12_learns 13 = .ok (.getfield 166, 3) := by decide +kernel
theorem dX12_learns_16 : decode cX12_learns 16 = .ok (.iload_n 1, 1) := by decide +kernel
theorem dX12_learns_17 : decode cX12_learns 17 = .ok (.iaload, 1) := by decide +kernel
theorem dX12_learns_18 : decode cX12_learns 18 = .ok (.iconst 1, 1) := by decide +kernel
theorem dX12_learns_19 : decode cX12_learns 19 = .ok (.if_icmp .ne 43, 3) := by decide +kernel
theorem dX12_learns_22 : decode cX12_learns 22 = .ok (.iconst 0, 1) := by decide +kernel
theorem dX12_learns_23 : decode cX12_learns 23 = .ok (.istore 4, 2) := by decide +kernel
theorem dX12_learns_25 : decode cX12_learns 25 = .ok (.iload 4, 2) := by decide +kernel
theorem dX12_learns_27 : decode cX12_learns 27 = .ok (.aload_n 0, 1) := by decide +kernel
theorem dX12_learns_28 : decode cX12_learns 28 = .ok (.getfield 316, 3) := by decide +kernel
theorem dX12_learns_31 : decode cX12_learns 31 = .ok (.if_icmp .ge 28, 3) := by decide +kernel
theorem dX12_learns_34 : decode cX12_learns 34 = .ok (.aload_n 0, 1) := by decide +kernel
theorem dX12_learns_35 : decode cX12_learns 35 = .ok (.getfield 157, 3) := by decide +kernel
theorem dX12_learns_38 : decode cX12_learns 38 = .ok (.bipush 6, 2) := by decide +kernel
theorem dX12_learns_40 : decode cX12_learns 40 = .ok (.iload_n 1, 1) := by decide +kernel
theorem dX12_learns_41 : decode cX12_learns 41 = .ok (.imul, 1) := by decide +kernel
theorem dX12_learns_42 : decode cX12_learns 42 = .ok (.iload 4, 2) := by decide +kernel
theorem dX12_learns_44 : decode cX12_learns 44 = .ok (.iadd, 1) := by decide +kernel
theorem dX12_learns_45 : decode cX12_learns 45 = .ok (.aload_n 0, 1) := by decide +kernel
theorem dX12_learns_46 : decode cX12_learns 46 = .ok (.getfield 163, 3) := by decide +kernel
theorem dX12_learns_49 : decode cX12_learns 49 = .ok (.iload 4, 2) := by decide +kernel
theorem dX12_learns_51 : decode cX12_learns 51 = .ok (.iaload, 1) := by decide +kernel
theorem dX12_learns_52 : decode cX12_learns 52 = .ok (.iastore, 1) := by decide +kernel
theorem dX12_learns_53 : decode cX12_learns 53 = .ok (.iinc 4 1, 3) := by decide +kernel
theorem dX12_learns_56 : decode cX12_learns 56 = .ok (.goto (-31), 3) := by decide +kernel
theorem dX12_learns_59 : decode cX12_learns 59 = .ok (.goto 116, 3) := by decide +kernel
theorem dX12_learns_62 : decode cX12_learns 62 = .ok (.aload_n 0, 1) := by decide +kernel
theorem dX12_learns_63 : decode cX12_learns 63 = .ok (.getfield 163, 3) := by decide +kernel
theorem dX12_learns_66 : decode cX12_learns 66 = .ok (.iload_n 2, 1) := by decide +kernel
theorem dX12_learns_67 : decode cX12_learns 67 = .ok (.iaload, 1) := by decide +kernel
theorem dX12_learns_68 : decode cX12_learns 68 = .ok (.aload_n 0, 1) := by decide +kernel
theorem dX12_learns_69 : decode cX12_learns 69 = .ok (.getfield 157, 3) := by decide +kernel
theorem dX12_learns_72 : decode cX12_learns 72 = .ok (.bipush 6, 2) := by decide +kernel
theorem dX12_learns_74 : decode cX12_learns 74 = .ok (.iload_n 1, 1) := by decide +kernel
theorem dX12_learns_75 : decode cX12_learns 75 = .ok (.imul, 1) := by decide +kernel
theorem dX12_learns_76 : decode cX12_learns 76 = .ok (.iload_n 2, 1) := by decide +kernel
theorem dX12_learns_77 : decode cX12_learns 77 = .ok (.iadd, 1) := by decide +kernel
theorem dX12_learns_78 : decode cX12_learns 78 = .ok (.iaload, 1) := by decide +kernel
theorem dX12_learns_79 : decode cX12_learns 79 = .ok (.if_icmp .le 96, 3) := by decide +kernel
theorem dX12_learns_82 : decode cX12_learns 82 = .ok (.aload_n 0, 1) := by decide +kernel
theorem dX12_learns_83 : decode cX12_learns 83 = .ok (.getfield 163, 3) := by decide +kernel
theorem dX12_learns_86 : decode cX12_learns 86 = .ok (.iload_n 3, 1) := by decide +kernel
theorem dX12_learns_87 : decode cX12_learns 87 = .ok (.iaload, 1) := by decide +kernel
theorem dX12_learns_88 : decode cX12_learns 88 = .ok (.aload_n 0, 1) := by decide +kernel
theorem dX12_learns_89 : decode cX12_learns 89 = .ok (.getfield 157, 3) := by decide +kernel
theorem dX12_learns_92 : decode cX12_learns 92 = .ok (.bipush 6, 2) := by decide +kernel
theorem dX12_learns_94 : decode cX12_learns 94 = .ok (.iload_n 1, 1) := by decide +kernel
theorem dX12_learns_95 : decode cX12_learns 95 = .ok (.imul, 1) := by decide +kernel
theorem dX12_learns_96 : decode cX12_learns 96 = .ok (.iload_n 3, 1) := by decide +kernel
theorem dX12_learns_97 : decode cX12_learns 97 = .ok (.iadd, 1) := by decide +kernel
theorem dX12_learns_98 : decode cX12_learns 98 = .ok (.iaload, 1) := by decide +kernel
theorem dX12_learns_99 : decode cX12_learns 99 = .ok (.if_icmp .le 76, 3) := by decide +kernel
theorem dX12_learns_102 : decode cX12_learns 102 = .ok (.aload_n 0, 1) := by decide +kernel
theorem dX12_learns_103 : decode cX12_learns 103 = .ok (.getfield 169, 3) := by decide +kernel
theorem dX12_learns_106 : decode cX12_learns 106 = .ok (.iload_n 1, 1) := by decide +kernel
theorem dX12_learns_107 : decode cX12_learns 107 = .ok (.baload, 1) := by decide +kernel
theorem dX12_learns_108 : decode cX12_learns 108 = .ok (.ifCond .eq 23, 3) := by decide +kernel
theorem dX12_learns_111 : decode cX12_learns 111 = .ok (.aload_n 0, 1) := by decide +kernel
theorem dX12_learns_112 : decode cX12_learns 112 = .ok (.getfield 163, 3) := by decide +kernel
theorem dX12_learns_115 : decode cX12_learns 115 = .ok (.iload_n 2, 1) := by decide +kernel
theorem dX12_learns_116 : decode cX12_learns 116 = .ok (.iaload, 1) := by decide +kernel
theorem dX12_learns_117 : decode cX12_learns 117 = .ok (.aload_n 0, 1) := by decide +kernel
theorem dX12_learns_118 : decode cX12_learns 118 = .ok (.getfield 160, 3) := by decide +kernel
theorem dX12_learns_121 : decode cX12_learns 121 = .ok (.bipush 6, 2) := by decide +kernel
theorem dX12_learns_123 : decode cX12_learns 123 = .ok (.iload_n 1, 1) := by decide +kernel
theorem dX12_learns_124 : decode cX12_learns 124 = .ok (.imul, 1) := by decide +kernel
theorem dX12_learns_125 : decode cX12_learns 125 = .ok (.iload_n 2, 1) := by decide +kernel
theorem dX12_learns_126 : decode cX12_learns 126 = .ok (.iadd, 1) := by decide +kernel
theorem dX12_learns_127 : decode cX12_learns 127 = .ok (.iaload, 1) := by decide +kernel
theorem dX12_learns_128 : decode cX12_learns 128 = .ok (.if_icmp .le 47, 3) := by decide +kernel
theorem dX12_learns_131 : decode cX12_learns 131 = .ok (.aload_n 0, 1) := by decide +kernel
theorem dX12_learns_132 : decode cX12_learns 132 = .ok (.getfield 169, 3) := by decide +kernel
theorem dX12_learns_135 : decode cX12_learns 135 = .ok (.iload_n 1, 1) := by decide +kernel
theorem dX12_learns_136 : decode cX12_learns 136 = .ok (.iconst 1, 1) := by decide +kernel
theorem dX12_learns_137 : decode cX12_learns 137 = .ok (.bastore, 1) := by decide +kernel
theorem dX12_learns_138 : decode cX12_learns 138 = .ok (.iconst 0, 1) := by decide +kernel
theorem dX12_learns_139 : decode cX12_learns 139 = .ok (.istore 4, 2) := by decide +kernel
theorem dX12_learns_141 : decode cX12_learns 141 = .ok (.iload 4, 2) := by decide +kernel
theorem dX12_learns_143 : decode cX12_learns 143 = .ok (.aload_n 0, 1) := by decide +kernel
theorem dX12_learns_144 : decode cX12_learns 144 = .ok (.getfield 316, 3) := by decide +kernel
theorem dX12_learns_147 : decode cX12_learns 147 = .ok (.if_icmp .ge 28, 3) := by decide +kernel
theorem dX12_learns_150 : decode cX12_learns 150 = .ok (.aload_n 0, 1) := by decide +kernel
theorem dX12_learns_151 : decode cX12_learns 151 = .ok (.getfield 160, 3) := by decide +kernel
theorem dX12_learns_154 : decode cX12_learns 154 = .ok (.bipush 6, 2) := by decide +kernel
theorem dX12_learns_156 : decode cX12_learns 156 = .ok (.iload_n 1, 1) := by decide +kernel
theorem dX12_learns_157 : decode cX12_learns 157 = .ok (.imul, 1) := by decide +kernel
theorem dX12_learns_158 : decode cX12_learns 158 = .ok (.iload 4, 2) := by decide +kernel
theorem dX12_learns_160 : decode cX12_learns 160 = .ok (.iadd, 1) := by decide +kernel
theorem dX12_learns_161 : decode cX12_learns 161 = .ok (.aload_n 0, 1) := by decide +kernel
theorem dX12_learns_162 : decode cX12_learns 162 = .ok (.getfield 163, 3) := by decide +kernel
theorem dX12_learns_165 : decode cX12_learns 165 = .ok (.iload 4, 2) := by decide +kernel
theorem dX12_learns_167 : decode cX12_learns 167 = .ok (.iaload, 1) := by decide +kernel
theorem dX12_learns_168 : decode cX12_learns 168 = .ok (.iastore, 1) := by decide +kernel
theorem dX12_learns_169 : decode cX12_learns 169 = .ok (.iinc 4 1, 3) := by decide +kernel
theorem dX12_learns_172 : decode cX12_learns 172 = .ok (.goto (-31), 3) := by decide +kernel
theorem dX12_learns_175 : decode cX12_learns 175 = .ok (.return_, 1) := by decide +kernel
theorem dX12_thinks_0 : decode cX12_thinks 0 = .ok (.iconst 0, 1) := by decide +kernel
theorem dX12_thinks_1 : decode cX12_thinks 1 = .ok (.istore_n 1, 1) := by decide +kernel
theorem dX12_thinks_2 : decode cX12_thinks 2 = .ok (.iload_n 1, 1) := by decide +kernel
theorem dX12_thinks_3 : decode cX12_thinks 3 = .ok (.bipush 48, 2) := by decide +kernel
theorem dX12_thinks_5 : decode cX12_thinks 5 = .ok (.if_icmp .ge 21, 3) := by decide +kernel
theorem dX12_thinks_8 : decode cX12_thinks 8 = .ok (.aload_n 0, 1) := by decide +kernel
theorem dX12_thinks_9 : decode cX12_thinks 9 = .ok (.getfield 145, 3) := by decide +kernel
theorem dX12_thinks_12 : decode cX12_thinks 12 = .ok (.iload_n 1, 1) := by decide +kernel
theorem dX12_thinks_13 : decode cX12_thinks 13 = .ok (.aload_n 0, 1) := by decide +kernel
theorem dX12_thinks_14 : decode cX12_thinks 14 = .ok (.getfield 38, 3) := by decide +kernel
theorem dX12_thinks_17 : decode cX12_thinks 17 = .ok (.iload_n 1, 1) := by decide +kernel
theorem dX12_thinks_18 : decode cX12_thinks 18 = .ok (.iaload, 1) := by decide +kernel
theorem dX12_thinks_19 : decode cX12_thinks 19 = .ok (.iastore, 1) := by decide +kernel
theorem dX12_thinks_20 : decode cX12_thinks 20 = .ok (.iinc 1 1, 3) := by decide +kernel
theorem dX12_thinks_23 : decode cX12_thinks 23 = .ok (.goto (-21), 3) := by decide +kernel
theorem dX12_thinks_26 : decode cX12_thinks 26 = .ok (.iconst 0, 1) := by decide +kernel
theorem dX12_thinks_27 : decode cX12_thinks 27 = .ok (.istore_n 1, 1) := by decide +kernel
theorem dX12_thinks_28 : decode cX12_thinks 28 = .ok (.iconst 0, 1) := by decide +kernel
theorem dX12_thinks_29 : decode cX12_thinks 29 = .ok (.istore_n 2, 1) := by decide +kernel
theorem dX12_thinks_30 : decode cX12_thinks 30 = .ok (.iconst 1, 1) := by decide +kernel
theorem dX12_thinks_31 : decode cX12_thinks 31 = .ok (.istore_n 3, 1) := by decide +kernel
theorem dX12_thinks_32 : decode cX12_thinks 32 = .ok (.iload_n 1, 1) := by decide +kernel
theorem dX12_thinks_33 : decode cX12_thinks 33 = .ok (.ifCond .lt 234, 3) := by decide +kernel
theorem dX12_thinks_36 : decode cX12_thinks 36 = .ok (.iload_n 3, 1) := by decide +kernel
theorem dX12_thinks_37 : decode cX12_thinks 37 = .ok (.ifCond .eq 59, 3) := by decide +kernel
theorem dX12_thinks_40 : decode cX12_thinks 40 = .ok (.iload_n 1, 1) := by decide +kernel
theorem dX12_thinks_41 : decode cX12_thinks 41 = .ok (.aload_n 0, 1) := by decide +kernel
theorem dX12_thinks_42 : decode cX12_thinks 42 = .ok (.getfield 322, 3) := by decide +kernel
theorem dX12_thinks_45 : decode cX12_thinks 45 = .ok (.if_icmp .ne 51, 3) := by decide +kernel
theorem dX12_thinks_48 : decode cX12_thinks 48 = .ok (.aload_n 0, 1) := by decide +kernel
theorem dX12_thinks_49 : decode cX12_thinks 49 = .ok (.iload_n 1, 1) := by decide +kernel
theorem dX12_thinks_50 : decode cX12_thinks 50 = .ok (.invokevirtual 504, 3) := by decide +kernel
theorem dX12_thinks_53 : decode cX12_thinks 53 = .ok (.iconst 0, 1) := by decide +kernel
theorem dX12_thinks_54 : decode cX12_thinks 54 = .ok (.istore 4, 2) := by decide +kernel
theorem dX12_thinks_56 : decode cX12_thinks 56 = .ok (.iload 4, 2) := by decide +kernel
theorem dX12_thinks_58 : decode cX12_thinks 58 = .ok (.aload_n 0, 1) := by decide +kernel
theorem dX12_thinks_59 : decode cX12_thinks 59 = .ok (.getfield 316, 3) := by decide +kernel
theorem dX12_thinks_62 : decode cX12_thinks 62 = .ok (.if_icmp .ge 26, 3) := by decide +kernel
theorem dX12_thinks_65 : decode cX12_thinks 65 = .ok (.aload_n 0, 1) := by decide +kernel
theorem dX12_thinks_66 : decode cX12_thinks 66 = .ok (.getfield 163, 3) := by decide +kernel
theorem dX12_thinks_69 : decode cX12_thinks 69 = .ok (.iload 4, 2) := by decide +kernel
theorem dX12_thinks_71 : decode cX12_thinks 71 = .ok (.aload_n 0, 1) := by decide +kernel
theorem dX12_thinks_72 : decode cX12_thinks 72 = .ok (.aload_n 0, 1) := by decide +kernel
theorem dX12_thinks_73 : decode cX12_thinks 73 = .ok (.getfield 172, 3) := by decide +kernel
theorem dX12_thinks_76 : decode cX12_thinks 76 = .ok (.iload 4, 2) := by decide +kernel
theorem dX12_thinks_78 : decode cX12_thinks 78 = .ok (.invokevirtual 351, 3) := by decide +kernel
theorem dX12_thinks_81 : decode cX12_thinks 81 = .ok (.iastore, 1) := by decide +kernel
theorem dX12_thinks_82 : decode cX12_thinks 82 = .ok (.iinc 4 1, 3) := by decide +kernel
theorem dX12_thinks_85 : decode cX12_thinks 85 = .ok (.goto (-29), 3) := by decide +kernel
theorem dX12_thinks_88 : decode cX12_thinks 88 = .ok (.iconst 0, 1) := by decide +kernel
theorem dX12_thinks_89 : decode cX12_thinks 89 = .ok (.istore_n 3, 1) := by decide +kernel
theorem dX12_thinks_90 : decode cX12_thinks 90 = .ok (.iinc 1 (-1), 3) := by decide +kernel
theorem dX12_thinks_93 : decode cX12_thinks 93 = .ok (.goto (-61), 3) := by decide +kernel
theorem dX12_thinks_96 : decode cX12_thinks 96 = .ok (.iload_n 3, 1) := by decide +kernel
theorem dX12_thinks_97 : decode cX12_thinks 97 = .ok (.ifCond .eq 75, 3) := by decide +kernel
theorem dX12_thinks_100 : decode cX12_thinks 100 = .ok (.iinc 2 1, 3) := by decide +kernel
theorem dX12_thinks_103 : decode cX12_thinks 103 = .ok (.iload_n 2, 1) := by decide +kernel
theorem dX12_thinks_104 : decode cX12_thinks 104 = .ok (.sipush 3000, 3) := by decide +kernel
theorem dX12_thinks_107 : decode cX12_thinks 107 = .ok (.if_icmp .le 5, 3) := by decide +kernel
theorem dX12_thinks_110 : decode cX12_thinks 110 = .ok (.iconst 0, 1) := by decide +kernel
theorem dX12_thinks_111 : decode cX12_thinks 111 = .ok (.ireturn, 1) := by decide +kernel
theorem dX12_thinks_112 : decode cX12_thinks 112 = .ok (.aload_n 0, 1) := by decide +kernel
theorem dX12_thinks_113 : decode cX12_thinks 113 = .ok (.iload_n 1, 1) := by decide +kernel
theorem dX12_thinks_114 : decode cX12_thinks 114 = .ok (.invokevirtual 510, 3) := by decide +kernel
theorem dX12_thinks_117 : decode cX12_thinks 117 = .ok (.iconst 0, 1) := by decide +kernel
theorem dX12_thinks_118 : decode cX12_thinks 118 = .ok (.istore 4, 2) := by decide +kernel
theorem dX12_thinks_120 : decode cX12_thinks 120 = .ok (.iload 4, 2) := by decide +kernel
theorem dX12_thinks_122 : decode cX12_thinks 122 = .ok (.bipush 48, 2) := by decide +kernel
theorem dX12_thinks_124 : decode cX12_thinks 124 = .ok (.if_icmp .ge 35, 3) := by decide +kernel
theorem dX12_thinks_127 : decode cX12_thinks 127 = .ok (.aload_n 0, 1) := by decide +kernel
theorem dX12_thinks_128 : decode cX12_thinks 128 = .ok (.getfield 145, 3) := by decide +kernel
theorem dX12_thinks_131 : decode cX12_thinks 131 = .ok (.bipush 48, 2) := by decide +kernel
theorem dX12_thinks_133 : decode cX12_thinks 133 = .ok (.iload_n 1, 1) := by decide +kernel
theorem dX12_thinks_134 : decode cX12_thinks 134 = .ok (.iconst 1, 1) := by decide +kernel
theorem dX12_thinks_135 : decode cX12_thinks 135 = .ok (.iadd, 1) := by decide +kernel
theorem dX12_thinks_136 : decode cX12_thinks 136 = .ok (.imul, 1) := by decide +kernel
theorem dX12_thinks_137 : decode cX12_thinks 137 = .ok (.iload 4, 2) := by decide +kernel
theorem dX12_thinks_139 : decode cX12_thinks 139 = .ok (.iadd, 1) := by decide +kernel
theorem dX12_thinks_140 : decode cX12_thinks 140 = .ok (.aload_n 0, 1) := by decide +kernel
theorem dX12_thinks_141 : decode cX12_thinks 141 = .ok (.getfield 145, 3) := by decide +kernel
theorem dX12_thinks_144 : decode cX12_thinks 144 = .ok (.bipush 48, 2) := by decide +kernel
theorem dX12_thinks_146 : decode cX12_thinks 146 = .ok (.iload_n 1, 1) := by decide +kernel
theorem dX12_thinks_147 : decode cX12_thinks 147 = .ok (.imul, 1) := by decide +kernel
theorem dX12_thinks_148 : decode cX12_thinks 148 = .ok (.iload 4, 2) := by decide +kernel
theorem dX12_thinks_150 : decode cX12_thinks 150 = .ok (.iadd, 1) := by decide +kernel
theorem dX12_thinks_151 : decode cX12_thinks 151 = .ok (.iaload, 1) := by decide +kernel
theorem dX12_thinks_152 : decode cX12_thinks 152 = .ok (.iastore, 1) := by decide +kernel
theorem dX12_thinks_153 : decode cX12_thinks 153 = .ok (.iinc 4 1, 3) := by decide +kernel
theorem dX12_thinks_156 : decode cX12_thinks 156 = .ok (.goto (-36), 3) := by decide +kernel
theorem dX12_thinks_159 : decode cX12_thinks 159 = .ok (.aload_n 0, 1) := by decide +kernel
theorem dX12_thinks_160 : decode cX12_thinks 160 = .ok (.getfield 166, 3) := by decide +kernel
theorem dX12_thinks_163 : decode cX12_thinks 163 = .ok (.iload_n 1, 1) := by decide +kernel
theorem dX12_thinks_164 : decode cX12_thinks 164 = .ok (.iconst 1, 1) := by decide +kernel
theorem dX12_thinks_165 : decode cX12_thinks 165 = .ok (.iastore, 1) := by decide +kernel
theorem dX12_thinks_166 : decode cX12_thinks 166 = .ok (.iinc 1 1, 3) := by decide +kernel
theorem dX12_thinks_169 : decode cX12_thinks 169 = .ok (.goto (-137), 3) := by decide +kernel
theorem dX12_thinks_172 : decode cX12_thinks 172 = .ok (.aload_n 0, 1) := by decide +kernel
theorem dX12_thinks_173 : decode cX12_thinks 173 = .ok (.iload_n 1, 1) := by decide +kernel
theorem dX12_thinks_174 : decode cX12_thinks 174 = .ok (.invokevirtual 513, 3) := by decide +kernel
theorem dX12_thinks_177 : decode cX12_thinks 177 = .ok (.aload_n 0, 1) := by decide +kernel
theorem dX12_thinks_178 : decode cX12_thinks 178 = .ok (.getfield 166, 3) := by decide +kernel
theorem dX12_thinks_181 : decode cX12_thinks 181 = .ok (.iload_n 1, 1) := by decide +kernel
theorem dX12_thinks_182 : decode cX12_thinks 182 = .ok (.iconst 2, 1) := by decide +kernel
theorem dX12_thinks_183 : decode cX12_thinks 183 = .ok (.iastore, 1) := by decide +kernel
theorem dX12_thinks_184 : decode cX12_thinks 184 = .ok (.aload_n 0, 1) := by decide +kernel
theorem dX12_thinks_185 : decode cX12_thinks 185 = .ok (.iload_n 1, 1) := by decide +kernel
theorem dX12_thinks_186 : decode cX12_thinks 186 = .ok (.invokevirtual 516, 3) := by decide +kernel
theorem dX12_thinks_189 : decode cX12_thinks 189 = .ok (.ifCond .eq 11, 3) := by decide +kernel
theorem dX12_thinks_192 : decode cX12_thinks 192 = .ok (.iconst 1, 1) := by decide +kernel
theorem dX12_thinks_193 : decode cX12_thinks 193 = .ok (.istore_n 3, 1) := by decide +kernel
theorem dX12_thinks_194 : decode cX12_thinks 194 = .ok (.iinc 1 1, 3) := by decide +kernel
theorem dX12_thinks_197 : decode cX12_thinks 197 = .ok (.goto (-165), 3) := by decide +kernel
theorem dX12_thinks_200 : decode cX12_thinks 200 = .ok (.iconst 0, 1) := by decide +kernel
theorem dX12_thinks_201 : decode cX12_thinks 201 = .ok (.istore 4, 2) := by decide +kernel
theorem dX12_thinks_203 : decode cX12_thinks 203 = .ok (.iload 4, 2) := by decide +kernel
theorem dX12_thinks_205 : decode cX12_thinks 205 = .ok (.aload_n 0, 1) := by decide +kernel
theorem dX12_thinks_206 : decode cX12_thinks 206 = .ok (.getfield 316, 3) := by decide +kernel
theorem dX12_thinks_209 : decode cX12_thinks 209 = .ok (.if_icmp .ge 52, 3) := by decide +kernel
theorem dX12_thinks_212 : decode cX12_thinks 212 = .ok (.aload_n 0, 1) := by decide +kernel
theorem dX12_thinks_213 : decode cX12_thinks 213 = .ok (.getfield 163, 3) := by decide +kernel
theorem dX12_thinks_216 : decode cX12_thinks 216 = .ok (.iload 4, 2) := by decide +kernel
theorem dX12_thinks_218 : decode cX12_thinks 218 = .ok (.aload_n 0, 1) := by decide +kernel
theorem dX12_thinks_219 : decode cX12_thinks 219 = .ok (.getfield 169, 3) := by decide +kernel
theorem dX12_thinks_222 : decode cX12_thinks 222 = .ok (.iload_n 1, 1) := by decide +kernel
theorem dX12_thinks_223 : decode cX12_thinks 223 = .ok (.baload, 1) := by decide +kernel
theorem dX12_thinks_224 : decode cX12_thinks 224 = .ok (.ifCond .eq 18, 3) := by decide +kernel
theorem dX12_thinks_227 : decode cX12_thinks 227 = .ok (.aload_n 0, 1) := by decide +kernel
theorem dX12_thinks_228 : decode cX12_thinks 228 = .ok (.getfield 160, 3) := by decide +kernel
theorem dX12_thinks_231 : decode cX12_thinks 231 = .ok (.bipush 6, 2) := by decide +kernel
theorem dX12_thinks_233 : decode cX12_thinks 233 = .ok (.iload_n 1, 1) := by decide +kernel
theorem dX12_thinks_234 : decode cX12_thinks 234 = .ok (.imul, 1) := by decide +kernel
theorem dX12_thinks_235 : decode cX12_thinks 235 = .ok (.iload 4, 2) := by decide +kernel
theorem dX12_thinks_237 : decode cX12_thinks 237 = .ok (.iadd, 1) := by decide +kernel
theorem dX12_thinks_238 : decode cX12_thinks 238 = .ok (.iaload, 1) := by decide +kernel
theorem dX12_thinks_239 : decode cX12_thinks 239 = .ok (.goto 15, 3) := by decide +kernel
theorem dX12_thinks_242 : decode cX12_thinks 242 = .ok (.aload_n 0, 1) := by decide +kernel
theorem dX12_thinks_243 : decode cX12_thinks 243 = .ok (.getfield 157, 3) := by decide +kernel
theorem dX12_thinks_246 : decode cX12_thinks 246 = .ok (.bipush 6, 2) := by decide +kernel
theorem dX12_thinks_248 : decode cX12_thinks 248 = .ok (.iload_n 1, 1) := by decide +kernel
theorem dX12_thinks_249 : decode cX12_thinks 249 = .ok (.imul, 1) := by decide +kernel
theorem dX12_thinks_250 : decode cX12_thinks 250 = .ok (.iload 4, 2) := by decide +kernel
theorem dX12_thinks_252 : decode cX12_thinks 252 = .ok (.iadd, 1) := by decide +kernel
theorem dX12_thinks_253 : decode cX12_thinks 253 = .ok (.iaload, 1) := by decide +kernel
theorem dX12_thinks_254 : decode cX12_thinks 254 = .ok (.iastore, 1) := by decide +kernel
theorem dX12_thinks_255 : decode cX12_thinks 255 = .ok (.iinc 4 1, 3) := by decide +kernel
theorem dX12_thinks_258 : decode cX12_thinks 258 = .ok (.goto (-55), 3) := by decide +kernel
theorem dX12_thinks_261 : decode cX12_thinks 261 = .ok (.iinc 1 (-1), 3) := by decide +kernel
theorem dX12_thinks_264 : decode cX12_thinks 264 = .ok (.goto (-232), 3) := by decide +kernel
theorem dX12_thinks_267 : decode cX12_thinks 267 = .ok (.iconst 1, 1) := by decide +kernel
theorem dX12_thinks_268 : decode cX12_thinks 268 = .ok (.ireturn, 1) := by decide +kernel
theorem dX12_ahead_0 : decode cX12_ahead 0 = .ok (.aload_n 0, 1) := by decide +kernel
theorem dX12_ahead_1 : decode cX12_ahead 1 = .ok (.iconst 0, 1) := by decide +kernel
theorem dX12_ahead_2 : decode cX12_ahead 2 = .ok (.putfield 184, 3) := by decide +kernel
theorem dX12_ahead_5 : decode cX12_ahead 5 = .ok (.aload_n 0, 1) := by decide +kernel
theorem dX12_ahead_6 : decode cX12_ahead 6 = .ok (.iload_n 1, 1) := by decide +kernel
theorem dX12_ahead_7 : decode cX12_ahead 7 = .ok (.invokevirtual 362, 3) := by decide +kernel
theorem dX12_ahead_10 : decode cX12_ahead 10 = .ok (.ifCond .ne 5, 3) := by decide +kernel
theorem dX12_ahead_13 : decode cX12_ahead 13 = .ok (.iconst 0, 1) := by decide +kernel
theorem dX12_ahead_14 : decode cX12_ahead 14 = .ok (.ireturn, 1) := by decide +kernel
theorem dX12_ahead_15 : decode cX12_ahead 15 = .ok (.aload_n 0, 1) := by decide +kernel
theorem dX12_ahead_16 : decode cX12_ahead 16 = .ok (.invokevirtual 519, 3) := by decide +kernel
theorem dX12_ahead_19 : decode cX12_ahead 19 = .ok (.ifCond .eq 12, 3) := by decide +kernel
theorem dX12_ahead_22 : decode cX12_ahead 22 = .ok (.aload_n 0, 1) := by decide +kernel
theorem dX12_ahead_23 : decode cX12_ahead 23 = .ok (.getfield 163, 3) := by decide +kernel
theorem dX12_ahead_26 : decode cX12_ahead 26 = .ok (.iload_n 1, 1) := by decide +kernel
theorem dX12_ahead_27 : decode cX12_ahead 27 = .ok (.iaload, 1) := by decide +kernel
theorem dX12_ahead_28 : decode cX12_ahead 28 = .ok (.goto 5, 3) := by decide +kernel
theorem dX12_ahead_31 : decode cX12_ahead 31 = .ok (.bipush (-2), 2) := by decide +kernel
theorem dX12_ahead_33 : decode cX12_ahead 33 = .ok (.ireturn, 1) := by decide +kernel
theorem dX12_still_0 : decode cX12_still 0 = .ok (.aload_n 0, 1) := by decide +kernel
theorem dX12_still_1 : decode cX12_still 1 = .ok (.iconst 0, 1) := by decide +kernel
theorem dX12_still_2 : decode cX12_still 2 = .ok (.putfield 184, 3) := by decide +kernel
theorem dX12_still_5 : decode cX12_still 5 = .ok (.aload_n 0, 1) := by decide +kernel
theorem dX12_still_6 : decode cX12_still 6 = .ok (.iload_n 1, 1) := by decide +kernel
theorem dX12_still_7 : decode cX12_still 7 = .ok (.invokevirtual 362, 3) := by decide +kernel
theorem dX12_still_10 : decode cX12_still 10 = .ok (.ifCond .eq 40, 3) := by decide +kernel
theorem dX12_still_13 : decode cX12_still 13 = .ok (.aload_n 0, 1) := by decide +kernel
theorem dX12_still_14 : decode cX12_still 14 = .ok (.iload_n 3, 1) := by decide +kernel
theorem dX12_still_15 : decode cX12_still 15 = .ok (.ifCond .eq 8, 3) := by decide +kernel
theorem dX12_still_18 : decode cX12_still 18 = .ok (.iload_n 3, 1) := by decide +kernel
theorem dX12_still_19 : decode cX12_still 19 = .ok (.iconst 1, 1) := by decide +kernel
theorem dX12_still_20 : decode cX12_still 20 = .ok (.if_icmp .ne 7, 3) := by decide +kernel
theorem dX12_still_23 : decode cX12_still 23 = .ok (.iconst 1, 1) := by decide +kernel
theorem dX12_still_24 : decode cX12_still 24 = .ok (.goto 4, 3) := by decide +kernel
theorem dX12_still_27 : decode cX12_still 27 = .ok (.iconst 0, 1) := by decide +kernel
theorem dX12_still_28 : decode cX12_still 28 = .ok (.iconst 1, 1) := by decide +kernel
theorem dX12_still_29 : decode cX12_still 29 = .ok (.invokevirtual 309, 3) := by decide +kernel
theorem dX12_still_32 : decode cX12_still 32 = .ok (.ifCond .eq 18, 3) := by decide +kernel
theorem dX12_still_35 : decode cX12_still 35 = .ok (.aload_n 0, 1) := by decide +kernel
theorem dX12_still_36 : decode cX12_still 36 = .ok (.iload_n 2, 1) := by decide +kernel
theorem dX12_still_37 : decode cX12_still 37 = .ok (.iconst 1, 1) := by decide +kernel
theorem dX12_still_38 : decode cX12_still 38 = .ok (.bipush 10, 2) := by decide +kernel
theorem dX12_still_40 : decode cX12_still 40 = .ok (.invokestatic 354, 3) := by decide +kernel
theorem dX12_still_43 : decode cX12_still 43 = .ok (.iconst 2, 1) := by decide +kernel
theorem dX12_still_44 : decode cX12_still 44 = .ok (.invokevirtual 309, 3) := by decide +kernel
theorem dX12_still_47 : decode cX12_still 47 = .ok (.ifCond .ne 5, 3) := by decide +kernel
theorem dX12_still_50 : decode cX12_still 50 = .ok (.iconst 0, 1) := by decide +kernel
theorem dX12_still_51 : decode cX12_still 51 = .ok (.ireturn, 1) := by decide +kernel
theorem dX12_still_52 : decode cX12_still 52 = .ok (.iconst (-1), 1) := by decide +kernel
theorem dX12_still_53 : decode cX12_still 53 = .ok (.istore 4, 2) := by decide +kernel
theorem dX12_still_55 : decode cX12_still 55 = .ok (.iconst (-1), 1) := by decide +kernel
theorem dX12_still_56 : decode cX12_still 56 = .ok (.istore 5, 2) := by decide +kernel
theorem dX12_still_58 : decode cX12_still 58 = .ok (.iconst 0, 1) := by decide +kernel
theorem dX12_still_59 : decode cX12_still 59 = .ok (.istore 6, 2) := by decide +kernel
theorem dX12_still_61 : decode cX12_still 61 = .ok (.iload 6, 2) := by decide +kernel
theorem dX12_still_63 : decode cX12_still 63 = .ok (.bipush 10, 2) := by decide +kernel
theorem dX12_still_65 : decode cX12_still 65 = .ok (.if_icmp .gt 115, 3) := by decide +kernel
theorem dX12_still_68 : decode cX12_still 68 = .ok (.aload_n 0, 1) := by decide +kernel
theorem dX12_still_69 : decode cX12_still 69 = .ok (.aload_n 0, 1) := by decide +kernel
theorem dX12_still_70 : decode cX12_still 70 = .ok (.getfield 38, 3) := by decide +kernel
theorem dX12_still_73 : decode cX12_still 73 = .ok (.aload_n 0, 1) := by decide +kernel
theorem dX12_still_74 : decode cX12_still 74 = .ok (.getfield 136, 3) := by decide +kernel
theorem dX12_still_77 : decode cX12_still 77 = .ok (.invokevirtual 328, 3) := by decide +kernel
theorem dX12_still_80 : decode cX12_still 80 = .ok (.iconst 0, 1) := by decide +kernel
theorem dX12_still_81 : decode cX12_still 81 = .ok (.istore 7, 2) := by decide +kernel
theorem dX12_still_83 : decode cX12_still 83 = .ok (.iload 7, 2) := by decide +kernel
theorem dX12_still_85 : decode cX12_still 85 = .ok (.iload 6, 2) := by decide +kernel
theorem dX12_still_87 : decode cX12_still 87 = .ok (.if_icmp .ge 19, 3) := by decide +kernel
theorem dX12_still_90 : decode cX12_still 90 = .ok (.aload_n 0, 1) := by decide +kernel
theorem dX12_still_91 : decode cX12_still 91 = .ok (.aload_n 0, 1) := by decide +kernel
theorem dX12_still_92 : decode cX12_still 92 = .ok (.getfield 136, 3) := by decide +kernel
theorem dX12_still_95 : decode cX12_still 95 = .ok (.iload_n 1, 1) := by decide +kernel
theorem dX12_still_96 : decode cX12_still 96 = .ok (.invokevirtual 482, 3) := by decide +kernel
theorem dX12_still_99 : decode cX12_still 99 = .ok (.pop, 1) := by decide +kernel
theorem dX12_still_100 : decode cX12_still 100 = .ok (.iinc 7 1, 3) := by decide +kernel
theorem dX12_still_103 : decode cX12_still 103 = .ok (.goto (-20), 3) := by decide +kernel
theorem dX12_still_106 : decode cX12_still 106 = .ok (.iconst 0, 1) := by decide +kernel
theorem dX12_still_107 : decode cX12_still 107 = .ok (.istore 7, 2) := by decide +kernel
theorem dX12_still_109 : decode cX12_still 109 = .ok (.iload 7, 2) := by decide +kernel
theorem dX12_still_111 : decode cX12_still 111 = .ok (.iload_n 2, 1) := by decide +kernel
theorem dX12_still_112 : decode cX12_still 112 = .ok (.if_icmp .ge 19, 3) := by decide +kernel
theorem dX12_still_115 : decode cX12_still 115 = .ok (.aload_n 0, 1) := by decide +kernel
theorem dX12_still_116 : decode cX12_still 116 = .ok (.aload_n 0, 1) := by decide +kernel
theorem dX12_still_117 : decode cX12_still 117 = .ok (.getfield 136, 3) := by decide +kernel
theorem dX12_still_120 : decode cX12_still 120 = .ok (.iconst (-1), 1) := by decide +kernel
theorem dX12_still_121 : decode cX12_still 121 = .ok (.invokevirtual 482, 3) := by decide +kernel
theorem dX12_still_124 : decode cX12_still 124 = .ok (.pop, 1) := by decide +kernel
theorem dX12_still_125 : decode cX12_still 125 = .ok (.iinc 7 1, 3) := by decide +kernel
theorem dX12_still_128 : decode cX12_still 128 = .ok (.goto (-19), 3) := by decide +kernel
theorem dX12_still_131 : decode cX12_still 131 = .ok (.aload_n 0, 1) := by decide +kernel
theorem dX12_still_132 : decode cX12_still 132 = .ok (.aload_n 0, 1) := by decide +kernel
theorem dX12_still_133 : decode cX12_still 133 = .ok (.getfield 136, 3) := by decide +kernel
theorem dX12_still_136 : decode cX12_still 136 = .ok (.iload_n 1, 1) := by decide +kernel
theorem dX12_still_137 : decode cX12_still 137 = .ok (.invokevirtual 351, 3) := by decide +kernel
theorem dX12_still_140 : decode cX12_still 140 = .ok (.istore 7, 2) := by decide +kernel
theorem dX12_still_142 : decode cX12_still 142 = .ok (.iload 7, 2) := by decide +kernel
theorem dX12_still_144 : decode cX12_still 144 = .ok (.iload 5, 2) := by decide +kernel
theorem dX12_still_146 : decode cX12_still 146 = .ok (.if_icmp .le 8, 3) := by decide +kernel
theorem dX12_still_149 : decode cX12_still 149 = .ok (.iload 6, 2) := by decide +kernel
theorem dX12_still_151 : decode cX12_still 151 = .ok (.goto 5, 3) := by decide +kernel
theorem dX12_still_154 : decode cX12_still 154 = .ok (.iload 4, 2) := by decide +kernel
theorem dX12_still_156 : decode cX12_still 156 = .ok (.istore 4, 2) := by decide +kernel
theorem dX12_still_158 : decode cX12_still 158 = .ok (.iload 7, 2) := by decide +kernel
theorem dX12_still_160 : decode cX12_still 160 = .ok (.iload 5, 2) := by decide +kernel
theorem dX12_still_162 : decode cX12_still 162 = .ok (.if_icmp .le 8, 3) := by decide +kernel
theorem dX12_still_165 : decode cX12_still 165 = .ok (.iload 7, 2) := by decide +kernel
theorem dX12_still_167 : decode cX12_still 167 = .ok (.goto 5, 3) := by decide +kernel
theorem dX12_still_170 : decode cX12_still 170 = .ok (.iload 5, 2) := by decide +kernel
theorem dX12_still_172 : decode cX12_still 172 = .ok (.istore 5, 2) := by decide +kernel
theorem dX12_still_174 : decode cX12_still 174 = .ok (.iinc 6 1, 3) := by decide +kernel
theorem dX12_still_177 : decode cX12_still 177 = .ok (.goto (-116), 3) := by decide +kernel
theorem dX12_still_180 : decode cX12_still 180 = .ok (.iload_n 3, 1) := by decide +kernel
theorem dX12_still_181 : decode cX12_still 181 = .ok (.ifCond .ne 8, 3) := by decide +kernel
theorem dX12_still_184 : decode cX12_still 184 = .ok (.iload 4, 2) := by decide +kernel
theorem dX12_still_186 : decode cX12_still 186 = .ok (.goto 5, 3) := by decide +kernel
theorem dX12_still_189 : decode cX12_still 189 = .ok (.iload 5, 2) := by decide +kernel
theorem dX12_still_191 : decode cX12_still 191 = .ok (.ireturn, 1) := by decide +kernel
theorem dX12_restFrom_0 : decode cX12_restFrom 0 = .ok (.aload_n 0, 1) := by decide +kernel
theorem dX12_restFrom_1 : decode cX12_restFrom 1 = .ok (.aload_n 0, 1) := by decide +kernel
theorem dX12_restFrom_2 : decode cX12_restFrom 2 = .ok (.getfield 38, 3) := by decide +kernel
theorem dX12_restFrom_5 : decode cX12_restFrom 5 = .ok (.iload_n 2, 1) := by decide +kernel
theorem dX12_restFrom_6 : decode cX12_restFrom 6 = .ok (.invokevirtual 347, 3) := by decide +kernel
theorem dX12_restFrom_9 : decode cX12_restFrom 9 = .ok (.istore_n 3, 1) := by decide +kernel
theorem dX12_restFrom_10 : decode cX12_restFrom 10 = .ok (.iconst 0, 1) := by decide +kernel
theorem dX12_restFrom_11 : decode cX12_restFrom 11 = .ok (.istore 4, 2) := by decide +kernel
theorem dX12_restFrom_13 : decode cX12_restFrom 13 = .ok (.iload 4, 2) := by decide +kernel
theorem dX12_restFrom_15 : decode cX12_restFrom 15 = .ok (.iload_n 1, 1) := by decide +kernel
theorem dX12_restFrom_16 : decode cX12_restFrom 16 = .ok (.if_icmp .ge 24, 3) := by decide +kernel
theorem dX12_restFrom_19 : decode cX12_restFrom 19 = .ok (.iload_n 3, 1) := by decide +kernel
theorem dX12_restFrom_20 : decode cX12_restFrom 20 = .ok (.aload_n 0, 1) := by decide +kernel
theorem dX12_restFrom_21 : decode cX12_restFrom 21 = .ok (.getfield 178, 3) := by decide +kernel
theorem dX12_restFrom_24 : decode cX12_restFrom 24 = .ok (.bipush 8, 2) := by decide +kernel
theorem dX12_restFrom_26 : decode cX12_restFrom 26 = .ok (.iload 4, 2) := by decide +kernel
theorem dX12_restFrom_28 : decode cX12_restFrom 28 = .ok (.imul, 1) := by decide +kernel
theorem dX12_restFrom_29 : decode cX12_restFrom 29 = .ok (.iload_n 2, 1) := by decide +kernel
theorem dX12_restFrom_30 : decode cX12_restFrom 30 = .ok (.iadd, 1) := by decide +kernel
theorem dX12_restFrom_31 : decode cX12_restFrom 31 = .ok (.iaload, 1) := by decide +kernel
theorem dX12_restFrom_32 : decode cX12_restFrom 32 = .ok (.isub, 1) := by decide +kernel
theorem dX12_restFrom_33 : decode cX12_restFrom 33 = .ok (.istore_n 3, 1) := by decide +kernel
theorem dX12_restFrom_34 : decode cX12_restFrom 34 = .ok (.iinc 4 1, 3) := by decide +kernel
theorem dX12_restFrom_37 : decode cX12_restFrom 37 = .ok (.goto (-24), 3) := by decide +kernel
theorem dX12_restFrom_40 : decode cX12_restFrom 40 = .ok (.iload_n 3, 1) := by decide +kernel
theorem dX12_restFrom_41 : decode cX12_restFrom 41 = .ok (.ireturn, 1) := by decide +kernel
theorem dX12_deals_0 : decode cX12_deals 0 = .ok (.iload_n 2, 1) := by decide +kernel
theorem dX12_deals_1 : decode cX12_deals 1 = .ok (.istore_n 3, 1) := by decide +kernel
theorem dX12_deals_2 : decode cX12_deals 2 = .ok (.iload_n 3, 1) := by decide +kernel
theorem dX12_deals_3 : decode cX12_deals 3 = .ok (.aload_n 0, 1) := by decide +kernel
theorem dX12_deals_4 : decode cX12_deals 4 = .ok (.getfield 7, 3) := by decide +kernel
theorem dX12_deals_7 : decode cX12_deals 7 = .ok (.if_icmp .ge 26, 3) := by decide +kernel
theorem dX12_deals_10 : decode cX12_deals 10 = .ok (.aload_n 0, 1) := by decide +kernel
theorem dX12_deals_11 : decode cX12_deals 11 = .ok (.getfield 178, 3) := by decide +kernel
theorem dX12_deals_14 : decode cX12_deals 14 = .ok (.bipush 8, 2) := by decide +kernel
theorem dX12_deals_16 : decode cX12_deals 16 = .ok (.iload_n 1, 1) := by decide +kernel
theorem dX12_deals_17 : decode cX12_deals 17 = .ok (.imul, 1) := by decide +kernel
theorem dX12_deals_18 : decode cX12_deals 18 = .ok (.iload_n 3, 1) := by decide +kernel
theorem dX12_deals_19 : decode cX12_deals 19 = .ok (.iadd, 1) := by decide +kernel
theorem dX12_deals_20 : decode cX12_deals 20 = .ok (.aload_n 0, 1) := by decide +kernel
theorem dX12_deals_21 : decode cX12_deals 21 = .ok (.iload_n 1, 1) := by decide +kernel
theorem dX12_deals_22 : decode cX12_deals 22 = .ok (.iload_n 3, 1) := by decide +kernel
theorem dX12_deals_23 : decode cX12_deals 23 = .ok (.invokevirtual 522, 3) := by decide +kernel
theorem dX12_deals_26 : decode cX12_deals 26 = .ok (.iastore, 1) := by decide +kernel
theorem dX12_deals_27 : decode cX12_deals 27 = .ok (.iinc 3 1, 3) := by decide +kernel
theorem dX12_deals_30 : decode cX12_deals 30 = .ok (.goto (-28), 3) := by decide +kernel
theorem dX12_deals_33 : decode cX12_deals 33 = .ok (.iload_n 1, 1) := by decide +kernel
theorem dX12_deals_34 : decode cX12_deals 34 = .ok (.iconst 1, 1) := by decide +kernel
theorem dX12_deals_35 : decode cX12_deals 35 = .ok (.iadd, 1) := by decide +kernel
theorem dX12_deals_36 : decode cX12_deals 36 = .ok (.istore_n 3, 1) := by decide +kernel
theorem dX12_deals_37 : decode cX12_deals 37 = .ok (.iload_n 3, 1) := by decide +kernel
theorem dX12_deals_38 : decode cX12_deals 38 = .ok (.aload_n 0, 1) := by decide +kernel
theorem dX12_deals_39 : decode cX12_deals 39 = .ok (.getfield 316, 3) := by decide +kernel
theorem dX12_deals_42 : decode cX12_deals 42 = .ok (.if_icmp .ge 46, 3) := by decide +kernel
theorem dX12_deals_45 : decode cX12_deals 45 = .ok (.iconst 0, 1) := by decide +kernel
theorem dX12_deals_46 : decode cX12_deals 46 = .ok (.istore 4, 2) := by decide +kernel
theorem dX12_deals_48 : decode cX12_deals 48 = .ok (.iload 4, 2) := by decide +kernel
theorem dX12_deals_50 : decode cX12_deals 50 = .ok (.aload_n 0, 1) := by decide +kernel
theorem dX12_deals_51 : decode cX12_deals 51 = .ok (.getfield 7, 3) := by decide +kernel
theorem dX12_deals_54 : decode cX12_deals 54 = .ok (.if_icmp .ge 28, 3) := by decide +kernel
theorem dX12_deals_57 : decode cX12_deals 57 = .ok (.aload_n 0, 1) := by decide +kernel
theorem dX12_deals_58 : decode cX12_deals 58 = .ok (.getfield 178, 3) := by decide +kernel
theorem dX12_deals_61 : decode cX12_deals 61 = .ok (.bipush 8, 2) := by decide +kernel
theorem dX12_deals_63 : decode cX12_deals 63 = .ok (.iload_n 3, 1) := by decide +kernel
theorem dX12_deals_64 : decode cX12_deals 64 = .ok (.imul, 1) := by decide +kernel
theorem dX12_deals_65 : decode cX12_deals 65 = .ok (.iload 4, 2) := by decide +kernel
theorem dX12_deals_67 : decode cX12_deals 67 = .ok (.iadd, 1) := by decide +kernel
theorem dX12_deals_68 : decode cX12_deals 68 = .ok (.aload_n 0, 1) := by decide +kernel
theorem dX12_deals_69 : decode cX12_deals 69 = .ok (.iload_n 3, 1) := by decide +kernel
theorem dX12_deals_70 : decode cX12_deals 70 = .ok (.iload 4, 2) := by decide +kernel
theorem dX12_deals_72 : decode cX12_deals 72 = .ok (.invokevirtual 522, 3) := by decide +kernel
theorem dX12_deals_75 : decode cX12_deals 75 = .ok (.iastore, 1) := by decide +kernel
theorem dX12_deals_76 : decode cX12_deals 76 = .ok (.iinc 4 1, 3) := by decide +kernel
theorem dX12_deals_79 : decode cX12_deals 79 = .ok (.goto (-31), 3) := by decide +kernel
theorem dX12_deals_82 : decode cX12_deals 82 = .ok (.iinc 3 1, 3) := by decide +kernel
theorem dX12_deals_85 : decode cX12_deals 85 = .ok (.goto (-48), 3) := by decide +kernel
theorem dX12_deals_88 : decode cX12_deals 88 = .ok (.return_, 1) := by decide +kernel
theorem dX12_sharesOn_0 : decode cX12_sharesOn 0 = .ok (.aload_n 0, 1) := by decide +kernel
theorem dX12_sharesOn_1 : decode cX12_sharesOn 1 = .ok (.getfield 316, 3) := by decide +kernel
theorem dX12_sharesOn_4 : decode cX12_sharesOn 4 = .ok (.iconst 2, 1) := by decide +kernel
theorem dX12_sharesOn_5 : decode cX12_sharesOn 5 = .ok (.isub, 1) := by decide +kernel
theorem dX12_sharesOn_6 : decode cX12_sharesOn 6 = .ok (.istore_n 1, 1) := by decide +kernel
theorem dX12_sharesOn_7 : decode cX12_sharesOn 7 = .ok (.iload_n 1, 1) := by decide +kernel
theorem dX12_sharesOn_8 : decode cX12_sharesOn 8 = .ok (.ifCond .lt 99, 3) := by decide +kernel
theorem dX12_sharesOn_11 : decode cX12_sharesOn 11 = .ok (.aload_n 0, 1) := by decide +kernel
theorem dX12_sharesOn_12 : decode cX12_sharesOn 12 = .ok (.getfield 7, 3) := by decide +kernel
theorem dX12_sharesOn_15 : decode cX12_sharesOn 15 = .ok (.iconst 1, 1) := by decide +kernel
theorem dX12_sharesOn_16 : decode cX12_sharesOn 16 = .ok (.isub, 1) := by decide +kernel
theorem dX12_sharesOn_17 : decode cX12_sharesOn 17 = .ok (.istore_n 2, 1) := by decide +kernel
theorem dX12_sharesOn_18 : decode cX12_sharesOn 18 = .ok (.iload_n 2, 1) := by decide +kernel
theorem dX12_sharesOn_19 : decode cX12_sharesOn 19 = .ok (.ifCond .lt 82, 3) := by decide +kernel
theorem dX12_sharesOn_22 : decode cX12_sharesOn 22 = .ok (.aload_n 0, 1) := by decide +kernel
theorem dX12_sharesOn_23 : decode cX12_sharesOn 23 = .ok (.getfield 178, 3) := by decide +kernel
theorem dX12_sharesOn_26 : decode cX12_sharesOn 26 = .ok (.bipush 8, 2) := by decide +kernel
theorem dX12_sharesOn_28 : decode cX12_sharesOn 28 = .ok (.iload_n 1, 1) := by decide +kernel
theorem dX12_sharesOn_29 : decode cX12_sharesOn 29 = .ok (.imul, 1) := by decide +kernel
theorem dX12_sharesOn_30 : decode cX12_sharesOn 30 = .ok (.iload_n 2, 1) := by decide +kernel
theorem dX12_sharesOn_31 : decode cX12_sharesOn 31 = .ok (.iadd, 1) := by decide +kernel
theorem dX12_sharesOn_32 : decode cX12_sharesOn 32 = .ok (.iaload, 1) := by decide +kernel
theorem dX12_sharesOn_33 : decode cX12_sharesOn 33 = .ok (.ifCond .ne 6, 3) := by decide +kernel
theorem dX12_sharesOn_36 : decode cX12_sharesOn 36 = .ok (.goto 59, 3) := by decide +kernel
theorem dX12_sharesOn_39 : decode cX12_sharesOn 39 = .ok (.aload_n 0, 1) := by decide +kernel
theorem dX12_sharesOn_40 : decode cX12_sharesOn 40 = .ok (.getfield 178, 3) := by decide +kernel
theorem dX12_sharesOn_43 : decode cX12_sharesOn 43 = .ok (.bipush 8, 2) := by decide +kernel
theorem dX12_sharesOn_45 : decode cX12_sharesOn 45 = .ok (.iload_n 1, 1) := by decide +kernel
theorem dX12_sharesOn_46 : decode cX12_sharesOn 46 = .ok (.imul, 1) := by decide +kernel
theorem dX12_sharesOn_47 : decode cX12_sharesOn 47 = .ok (.iload_n 2, 1) := by decide +kernel
theorem dX12_sharesOn_48 : decode cX12_sharesOn 48 = .ok (.iadd, 1) := by decide +kernel
theorem dX12_sharesOn_49 : decode cX12_sharesOn 49 = .ok (.dup2, 1) := by decide +kernel
theorem dX12_sharesOn_50 : decode cX12_sharesOn 50 = .ok (.iaload, 1) := by decide +kernel
theorem dX12_sharesOn_51 : decode cX12_sharesOn 51 = .ok (.iconst 1, 1) := by decide +kernel
theorem dX12_sharesOn_52 : decode cX12_sharesOn 52 = .ok (.isub, 1) := by decide +kernel
theorem dX12_sharesOn_53 : decode cX12_sharesOn 53 = .ok (.iastore, 1) := by decide +kernel
theorem dX12_sharesOn_54 : decode cX12_sharesOn 54 = .ok (.iload_n 2, 1) := by decide +kernel
theorem dX12_sharesOn_55 : decode cX12_sharesOn 55 = .ok (.iconst 1, 1) := by decide +kernel
theorem dX12_sharesOn_56 : decode cX12_sharesOn 56 = .ok (.iadd, 1) := by decide +kernel
theorem dX12_sharesOn_57 : decode cX12_sharesOn 57 = .ok (.aload_n 0, 1) := by decide +kernel
theorem dX12_sharesOn_58 : decode cX12_sharesOn 58 = .ok (.getfield 7, 3) := by decide +kernel
theorem dX12_sharesOn_61 : decode cX12_sharesOn 61 = .ok (.if_icmp .ge 14, 3) := by decide +kernel
theorem dX12_sharesOn_64 : decode cX12_sharesOn 64 = .ok (.aload_n 0, 1) := by decide +kernel
theorem dX12_sharesOn_65 : decode cX12_sharesOn 65 = .ok (.iload_n 1, 1) := by decide +kernel
theorem dX12_sharesOn_66 : decode cX12_sharesOn 66 = .ok (.iload_n 2, 1) := by decide +kernel
theorem dX12_sharesOn_67 : decode cX12_sharesOn 67 = .ok (.iconst 1, 1) := by decide +kernel
theorem dX12_sharesOn_68 : decode cX12_sharesOn 68 = .ok (.iadd, 1) := by decide +kernel
theorem dX12_sharesOn_69 : decode cX12_sharesOn 69 = .ok (.invokevirtual 525, 3) := by decide +kernel
theorem dX12_sharesOn_72 : decode cX12_sharesOn 72 = .ok (.goto 21, 3) := by decide +kernel
theorem dX12_sharesOn_75 : decode cX12_sharesOn 75 = .ok (.iload_n 1, 1) := by decide +kernel
theorem dX12_sharesOn_76 : decode cX12_sharesOn 76 = .ok (.iconst 1, 1) := by decide +kernel
theorem dX12_sharesOn_77 : decode cX12_sharesOn 77 = .ok (.iadd, 1) := by decide +kernel
theorem dX12_sharesOn_78 : decode cX12_sharesOn 78 = .ok (.aload_n 0, 1) := by decide +kernel
theorem dX12_sharesOn_79 : decode cX12_sharesOn 79 = .ok (.getfield 316, 3) := by decide +kernel
theorem dX12_sharesOn_82 : decode cX12_sharesOn 82 = .ok (.if_icmp .ge 11, 3) := by decide +kernel
theorem dX12_sharesOn_85 : decode cX12_sharesOn 85 = .ok (.aload_n 0, 1) := by decide +kernel
theorem dX12_sharesOn_86 : decode cX12_sharesOn 86 = .ok (.iload_n 1, 1) := by decide +kernel
theorem dX12_sharesOn_87 : decode cX12_sharesOn 87 = .ok (.iconst 1, 1) := by decide +kernel
theorem dX12_sharesOn_88 : decode cX12_sharesOn 88 = .ok (.iadd, 1) := by decide +kernel
theorem dX12_sharesOn_89 : decode cX12_sharesOn 89 = .ok (.iconst 0, 1) := by decide +kernel
theorem dX12_sharesOn_90 : decode cX12_sharesOn 90 = .ok (.invokevirtual 525, 3) := by decide +kernel
theorem dX12_sharesOn_93 : decode cX12_sharesOn 93 = .ok (.iconst 1, 1) := by decide +kernel
theorem dX12_sharesOn_94 : decode cX12_sharesOn 94 = .ok (.ireturn, 1) := by decide +kernel
theorem dX12_sharesOn_95 : decode cX12_sharesOn 95 = .ok (.iinc 2 (-1), 3) := by decide +kernel
theorem dX12_sharesOn_98 : decode cX12_sharesOn 98 = .ok (.goto (-80), 3) := by decide +kernel
theorem dX12_sharesOn_101 : decode cX12_sharesOn 101 = .ok (.iinc 1 (-1), 3) := by decide +kernel
theorem dX12_sharesOn_104 : decode cX12_sharesOn 104 = .ok (.goto (-97), 3) := by decide +kernel
theorem dX12_sharesOn_107 : decode cX12_sharesOn 107 = .ok (.iconst 0, 1) := by decide +kernel
theorem dX12_sharesOn_108 : decode cX12_sharesOn 108 = .ok (.ireturn, 1) := by decide +kernel
theorem dX12_waysToShare_0 : decode cX12_waysToShare 0 = .ok (.lconst 1, 1) := by decide +kernel
theorem dX12_waysToShare_1 : decode cX12_waysToShare 1 = .ok (.lstore_n 1, 1) := by decide +kernel
theorem dX12_waysToShare_2 : decode cX12_waysToShare 2 = .ok (.iconst 0, 1) := by decide +kernel
theorem dX12_waysToShare_3 : decode cX12_waysToShare 3 = .ok (.istore_n 3, 1) := by decide +kernel
theorem dX12_waysToShare_4 : decode cX12_waysToShare 4 = .ok (.iload_n 3, 1) := by decide +kernel
theorem dX12_waysToShare_5 : decode cX12_waysToShare 5 = .ok (.aload_n 0, 1) := by decide +kernel
theorem dX12_waysToShare_6 : decode cX12_waysToShare 6 = .ok (.getfield 7, 3) := by decide +kernel
theorem dX12_waysToShare_9 : decode cX12_waysToShare 9 = .ok (.if_icmp .ge 78, 3) := by decide +kernel
theorem dX12_waysToShare_12 : decode cX12_waysToShare 12 = .ok (.lload_n 1, 1) := by decide +kernel
theorem dX12_waysToShare_13 : decode cX12_waysToShare 13 = .ok (.ldc2_w 528, 3) := by decide +kernel
theorem dX12_waysToShare_16 : decode cX12_waysToShare 16 = .ok (.lcmp, 1) := by decide +kernel
theorem dX12_waysToShare_17 : decode cX12_waysToShare 17 = .ok (.ifCond .gt 70, 3) := by decide +kernel
theorem dX12_waysToShare_20 : decode cX12_waysToShare 20 = .ok (.lconst 1, 1) := by decide +kernel
theorem dX12_waysToShare_21 : decode cX12_waysToShare 21 = .ok (.lstore 4, 2) := by decide +kernel
theorem dX12_waysToShare_23 : decode cX12_waysToShare 23 = .ok (.aload_n 0, 1) := by decide +kernel
theorem dX12_waysToShare_24 : decode cX12_waysToShare 24 = .ok (.aload_n 0, 1) := by decide +kernel
theorem dX12_waysToShare_25 : decode cX12_waysToShare 25 = .ok (.getfield 38, 3) := by decide +kernel
theorem dX12_waysToShare_28 : decode cX12_waysToShare 28 = .ok (.iload_n 3, 1) := by decide +kernel
theorem dX12_waysToShare_29 : decode cX12_waysToShare 29 = .ok (.invokevirtual 347, 3) := by decide +kernel
theorem dX12_waysToShare_32 : decode cX12_waysToShare 32 = .ok (.istore 6, 2) := by decide +kernel
theorem dX12_waysToShare_34 : decode cX12_waysToShare 34 = .ok (.iconst 1, 1) := by decide +kernel
theorem dX12_waysToShare_35 : decode cX12_waysToShare 35 = .ok (.istore 7, 2) := by decide +kernel
theorem dX12_waysToShare_37 : decode cX12_waysToShare 37 = .ok (.iload 7, 2) := by decide +kernel
theorem dX12_waysToShare_39 : decode cX12_waysToShare 39 = .ok (.aload_n 0, 1) := by decide +kernel
theorem dX12_waysToShare_40 : decode cX12_waysToShare 40 = .ok (.getfield 316, 3) := by decide +kernel
theorem dX12_waysToShare_43 : decode cX12_waysToShare 43 = .ok (.if_icmp .ge 33, 3) := by decide +kernel
theorem dX12_waysToShare_46 : decode cX12_waysToShare 46 = .ok (.lload 4, 2) := by decide +kernel
theorem dX12_waysToShare_48 : decode cX12_waysToShare 48 = .ok (.ldc2_w 528, 3) := by decide +kernel
theorem dX12_waysToShare_51 : decode cX12_waysToShare 51 = .ok (.lcmp, 1) := by decide +kernel
theorem dX12_waysToShare_52 : decode cX12_waysToShare 52 = .ok (.ifCond .gt 24, 3) := by decide +kernel
theorem dX12_waysToShare_55 : decode cX12_waysToShare 55 = .ok (.lload 4, 2) := by decide +kernel
theorem dX12_waysToShare_57 : decode cX12_waysToShare 57 = .ok (.iload 6, 2) := by decide +kernel
theorem dX12_waysToShare_59 : decode cX12_waysToShare 59 = .ok (.iload 7, 2) := by decide +kernel
theorem dX12_waysToShare_61 : decode cX12_waysToShare 61 = .ok (.iadd, 1) := by decide +kernel
theorem dX12_waysToShare_62 : decode cX12_waysToShare 62 = .ok (.i2l, 1) := by decide +kernel
theorem dX12_waysToShare_63 : decode cX12_waysToShare 63 = .ok (.lmul, 1) := by decide +kernel
theorem dX12_waysToShare_64 : decode cX12_waysToShare 64 = .ok (.iload 7, 2) := by decide +kernel
theorem dX12_waysToShare_66 : decode cX12_waysToShare 66 = .ok (.i2l, 1) := by decide +kernel
theorem dX12_waysToShare_67 : decode cX12_waysToShare 67 = .ok (.ldiv, 1) := by decide +kernel
theorem dX12_waysToShare_68 : decode cX12_waysToShare 68 = .ok (.lstore 4, 2) := by decide +kernel
theorem dX12_waysToShare_70 : decode cX12_waysToShare 70 = .ok (.iinc 7 1, 3) := by decide +kernel
theorem dX12_waysToShare_73 : decode cX12_waysToShare 73 = .ok (.goto (-36), 3) := by decide +kernel
theorem dX12_waysToShare_76 : decode cX12_waysToShare 76 = .ok (.lload_n 1, 1) := by decide +kernel
theorem dX12_waysToShare_77 : decode cX12_waysToShare 77 = .ok (.lload 4, 2) := by decide +kernel
theorem dX12_waysToShare_79 : decode cX12_waysToShare 79 = .ok (.lmul, 1) := by decide +kernel
theorem dX12_waysToShare_80 : decode cX12_waysToShare 80 = .ok (.lstore_n 1, 1) := by decide +kernel
theorem dX12_waysToShare_81 : decode cX12_waysToShare 81 = .ok (.iinc 3 1, 3) := by decide +kernel
theorem dX12_waysToShare_84 : decode cX12_waysToShare 84 = .ok (.goto (-80), 3) := by decide +kernel
theorem dX12_waysToShare_87 : decode cX12_waysToShare 87 = .ok (.lload_n 1, 1) := by decide +kernel
theorem dX12_waysToShare_88 : decode cX12_waysToShare 88 = .ok (.lreturn, 1) := by decide +kernel
theorem dX12_share_0 : decode cX12_share 0 = .ok (.aload_n 0, 1) := by decide +kernel
theorem dX12_share_1 : decode cX12_share 1 = .ok (.iconst 0, 1) := by decide +kernel
theorem dX12_share_2 : decode cX12_share 2 = .ok (.putfield 184, 3) := by decide +kernel
theorem dX12_share_5 : decode cX12_share 5 = .ok (.aload_n 0, 1) := by decide +kernel
theorem dX12_share_6 : decode cX12_share 6 = .ok (.iload_n 1, 1) := by decide +kernel
theorem dX12_share_7 : decode cX12_share 7 = .ok (.ifCond .eq 8, 3) := by decide +kernel
theorem dX12_share_10 : decode cX12_share 10 = .ok (.iload_n 1, 1) := by decide +kernel
theorem dX12_share_11 : decode cX12_share 11 = .ok (.iconst 1, 1) := by decide +kernel
theorem dX12_share_12 : decode cX12_share 12 = .ok (.if_icmp .ne 7, 3) := by decide +kernel
theorem dX12_share_15 : decode cX12_share 15 = .ok (.iconst 1, 1) := by decide +kernel
theorem dX12_share_16 : decode cX12_share 16 = .ok (.goto 4, 3) := by decide +kernel
theorem dX12_share_19 : decode cX12_share 19 = .ok (.iconst 0, 1) := by decide +kernel
theorem dX12_share_20 : decode cX12_share 20 = .ok (.iconst 1, 1) := by decide +kernel
theorem dX12_share_21 : decode cX12_share 21 = .ok (.invokevirtual 309, 3) := by decide +kernel
theorem dX12_share_24 : decode cX12_share 24 = .ok (.ifCond .ne 5, 3) := by decide +kernel
theorem dX12_share_27 : decode cX12_share 27 = .ok (.iconst 0, 1) := by decide +kernel
theorem dX12_share_28 : decode cX12_share 28 = .ok (.ireturn, 1) := by decide +kernel
theorem dX12_share_29 : decode cX12_share 29 = .ok (.aload_n 0, 1) := by decide +kernel
theorem dX12_share_30 : decode cX12_share 30 = .ok (.getfield 316, 3) := by decide +kernel
theorem dX12_share_33 : decode cX12_share 33 = .ok (.ifCond .ne 5, 3) := by decide +kernel
theorem dX12_share_36 : decode cX12_share 36 = .ok (.iconst (-1), 1) := by decide +kernel
theorem dX12_share_37 : decode cX12_share 37 = .ok (.ireturn, 1) := by decide +kernel
theorem dX12_share_38 : decode cX12_share 38 = .ok (.aload_n 0, 1) := by decide +kernel
theorem dX12_share_39 : decode cX12_share 39 = .ok (.invokevirtual 530, 3) := by decide +kernel
theorem dX12_share_42 : decode cX12_share 42 = .ok (.ldc2_w 528, 3) := by decide +kernel
theorem dX12_share_45 : decode cX12_share 45 = .ok (.lcmp, 1) := by decide +kernel
theorem dX12_share_46 : decode cX12_share 46 = .ok (.ifCond .le 6, 3) := by decide +kernel
theorem dX12_share_49 : decode cX12_share 49 = .ok (.bipush (-2), 2) := by decide +kernel
theorem dX12_share_51 : decode cX12_share 51 = .ok (.ireturn, 1) := by decide +kernel
theorem dX12_share_52 : decode cX12_share 52 = .ok (.iconst 0, 1) := by decide +kernel
theorem dX12_share_53 : decode cX12_share 53 = .ok (.istore_n 2, 1) := by decide +kernel
theorem dX12_share_54 : decode cX12_share 54 = .ok (.iload_n 2, 1) := by decide +kernel
theorem dX12_share_55 : decode cX12_share 55 = .ok (.bipush 48, 2) := by decide +kernel
theorem dX12_share_57 : decode cX12_share 57 = .ok (.if_icmp .ge 16, 3) := by decide +kernel
theorem dX12_share_60 : decode cX12_share 60 = .ok (.aload_n 0, 1) := by decide +kernel
theorem dX12_share_61 : decode cX12_share 61 = .ok (.getfield 178, 3) := by decide +kernel
theorem dX12_share_64 : decode cX12_share 64 = .ok (.iload_n 2, 1) := by decide +kernel
theorem dX12_share_65 : decode cX12_share 65 = .ok (.iconst 0, 1) := by decide +kernel
theorem dX12_share_66 : decode cX12_share 66 = .ok (.iastore, 1) := by decide +kernel
theorem dX12_share_67 : decode cX12_share 67 = .ok (.iinc 2 1, 3) := by decide +kernel
theorem dX12_share_70 : decode cX12_share 70 = .ok (.goto (-16), 3) := by decide +kernel
theorem dX12_share_73 : decode cX12_share 73 = .ok (.aload_n 0, 1) := by decide +kernel
theorem dX12_share_74 : decode cX12_share 74 = .ok (.iconst 0, 1) := by decide +kernel
theorem dX12_share_75 : decode cX12_share 75 = .ok (.iconst 0, 1) := by decide +kernel
theorem dX12_share_76 : decode cX12_share 76 = .ok (.invokevirtual 525, 3) := by decide +kernel
theorem dX12_share_79 : decode cX12_share 79 = .ok (.iconst (-1), 1) := by decide +kernel
theorem dX12_share_80 : decode cX12_share 80 = .ok (.istore_n 2, 1) := by decide +kernel
theorem dX12_share_81 : decode cX12_share 81 = .ok (.iconst 0, 1) := by decide +kernel
theorem dX12_share_82 : decode cX12_share 82 = .ok (.istore_n 3, 1) := by decide +kernel
theorem dX12_share_83 : decode cX12_share 83 = .ok (.iconst 1, 1) := by decide +kernel
theorem dX12_share_84 : decode cX12_share 84 = .ok (.istore 4, 2) := by decide +kernel
theorem dX12_share_86 : decode cX12_share 86 = .ok (.iload 4, 2) := by decide +kernel
theorem dX12_share_88 : decode cX12_share 88 = .ok (.ifCond .eq 141, 3) := by decide +kernel
theorem dX12_share_91 : decode cX12_share 91 = .ok (.aload_n 0, 1) := by decide +kernel
theorem dX12_share_92 : decode cX12_share 92 = .ok (.aload_n 0, 1) := by decide +kernel
theorem dX12_share_93 : decode cX12_share 93 = .ok (.getfield 178, 3) := by decide +kernel
theorem dX12_share_96 : decode cX12_share 96 = .ok (.aload_n 0, 1) := by decide +kernel
theorem dX12_share_97 : decode cX12_share 97 = .ok (.getfield 136, 3) := by decide +kernel
theorem dX12_share_100 : decode cX12_share 100 = .ok (.invokevirtual 328, 3) := by decide +kernel
theorem dX12_share_103 : decode cX12_share 103 = .ok (.aload_n 0, 1) := by decide +kernel
theorem dX12_share_104 : decode cX12_share 104 = .ok (.aload_n 0, 1) := by decide +kernel
theorem dX12_share_105 : decode cX12_share 105 = .ok (.getfield 136, 3) := by decide +kernel
theorem dX12_share_108 : decode cX12_share 108 = .ok (.iconst (-1), 1) := by decide +kernel
theorem dX12_share_109 : decode cX12_share 109 = .ok (.invokevirtual 482, 3) := by decide +kernel
theorem dX12_share_112 : decode cX12_share 112 = .ok (.pop, 1) := by decide +kernel
theorem dX12_share_113 : decode cX12_share 113 = .ok (.aload_n 0, 1) := by decide +kernel
theorem dX12_share_114 : decode cX12_share 114 = .ok (.aload_n 0, 1) := by decide +kernel
theorem dX12_share_115 : decode cX12_share 115 = .ok (.getfield 136, 3) := by decide +kernel
theorem dX12_share_118 : decode cX12_share 118 = .ok (.iconst 0, 1) := by decide +kernel
theorem dX12_share_119 : decode cX12_share 119 = .ok (.invokevirtual 351, 3) := by decide +kernel
theorem dX12_share_122 : decode cX12_share 122 = .ok (.istore 5, 2) := by decide +kernel
theorem dX12_share_124 : decode cX12_share 124 = .ok (.iconst 1, 1) := by decide +kernel
theorem dX12_share_125 : decode cX12_share 125 = .ok (.istore 6, 2) := by decide +kernel
theorem dX12_share_127 : decode cX12_share 127 = .ok (.iload 6, 2) := by decide +kernel
theorem dX12_share_129 : decode cX12_share 129 = .ok (.aload_n 0, 1) := by decide +kernel
theorem dX12_share_130 : decode cX12_share 130 = .ok (.getfield 316, 3) := by decide +kernel
theorem dX12_share_133 : decode cX12_share 133 = .ok (.if_icmp .ge 41, 3) := by decide +kernel
theorem dX12_share_136 : decode cX12_share 136 = .ok (.aload_n 0, 1) := by decide +kernel
theorem dX12_share_137 : decode cX12_share 137 = .ok (.aload_n 0, 1) := by decide +kernel
theorem dX12_share_138 : decode cX12_share 138 = .ok (.getfield 136, 3) := by decide +kernel
theorem dX12_share_141 : decode cX12_share 141 = .ok (.iload 6, 2) := by decide +kernel
theorem dX12_share_143 : decode cX12_share 143 = .ok (.invokevirtual 351, 3) := by decide +kernel
theorem dX12_share_146 : decode cX12_share 146 = .ok (.iload 5, 2) := by decide +kernel
theorem dX12_share_148 : decode cX12_share 148 = .ok (.if_icmp .ge 16, 3) := by decide +kernel
theorem dX12_share_151 : decode cX12_share 151 = .ok (.aload_n 0, 1) := by decide +kernel
theorem dX12_share_152 : decode cX12_share 152 = .ok (.aload_n 0, 1) := by decide +kernel
theorem dX12_share_153 : decode cX12_share 153 = .ok (.getfield 136, 3) := by decide +kernel
theorem dX12_share_156 : decode cX12_share 156 = .ok (.iload 6, 2) := by decide +kernel
theorem dX12_share_158 : decode cX12_share 158 = .ok (.invokevirtual 351, 3) := by decide +kernel
theorem dX12_share_161 : decode cX12_share 161 = .ok (.goto 5, 3) := by decide +kernel
theorem dX12_share_164 : decode cX12_share 164 = .ok (.iload 5, 2) := by decide +kernel
theorem dX12_share_166 : decode cX12_share 166 = .ok (.istore 5, 2) := by decide +kernel
theorem dX12_share_168 : decode cX12_share 168 = .ok (.iinc 6 1, 3) := by decide +kernel
theorem dX12_share_171 : decode cX12_share 171 = .ok (.goto (-44), 3) := by decide +kernel
theorem dX12_share_174 : decode cX12_share 174 = .ok (.aload_n 0, 1) := by decide +kernel
theorem dX12_share_175 : decode cX12_share 175 = .ok (.aload_n 0, 1) := by decide +kernel
theorem dX12_share_176 : decode cX12_share 176 = .ok (.getfield 136, 3) := by decide +kernel
theorem dX12_share_179 : decode cX12_share 179 = .ok (.invokevirtual 368, 3) := by decide +kernel
theorem dX12_share_182 : decode cX12_share 182 = .ok (.istore 6, 2) := by decide +kernel
theorem dX12_share_184 : decode cX12_share 184 = .ok (.iload 5, 2) := by decide +kernel
theorem dX12_share_186 : decode cX12_share 186 = .ok (.iload_n 2, 1) := by decide +kernel
theorem dX12_share_187 : decode cX12_share 187 = .ok (.if_icmp .gt 15, 3) := by decide +kernel
theorem dX12_share_190 : decode cX12_share 190 = .ok (.iload 5, 2) := by decide +kernel
theorem dX12_share_192 : decode cX12_share 192 = .ok (.iload_n 2, 1) := by decide +kernel
theorem dX12_share_193 : decode cX12_share 193 = .ok (.if_icmp .ne 27, 3) := by decide +kernel
theorem dX12_share_196 : decode cX12_share 196 = .ok (.iload 6, 2) := by decide +kernel
theorem dX12_share_198 : decode cX12_share 198 = .ok (.iload_n 3, 1) := by decide +kernel
theorem dX12_share_199 : decode cX12_share 199 = .ok (.if_icmp .le 21, 3) := by decide +kernel
theorem dX12_share_202 : decode cX12_share 202 = .ok (.iload 5, 2) := by decide +kernel
theorem dX12_share_204 : decode cX12_share 204 = .ok (.istore_n 2, 1) := by decide +kernel
theorem dX12_share_205 : decode cX12_share 205 = .ok (.iload 6, 2) := by decide +kernel
theorem dX12_share_207 : decode cX12_share 207 = .ok (.istore_n 3, 1) := by decide +kernel
theorem dX12_share_208 : decode cX12_share 208 = .ok (.aload_n 0, 1) := by decide +kernel
theorem dX12_share_209 : decode cX12_share 209 = .ok (.aload_n 0, 1) := by decide +kernel
theorem dX12_share_210 : decode cX12_share 210 = .ok (.getfield 178, 3) := by decide +kernel
theorem dX12_share_213 : decode cX12_share 213 = .ok (.aload_n 0, 1) := by decide +kernel
theorem dX12_share_214 : decode cX12_share 214 = .ok (.getfield 175, 3) := by decide +kernel
theorem dX12_share_217 : decode cX12_share 217 = .ok (.invokevirtual 328, 3) := by decide +kernel
theorem dX12_share_220 : decode cX12_share 220 = .ok (.aload_n 0, 1) := by decide +kernel
theorem dX12_share_221 : decode cX12_share 221 = .ok (.invokevirtual 534, 3) := by decide +kernel
theorem dX12_share_224 : decode cX12_share 224 = .ok (.istore 4, 2) := by decide +kernel
theorem dX12_share_226 : decode cX12_share 226 = .ok (.goto (-140), 3) := by decide +kernel
theorem dX12_share_229 : decode cX12_share 229 = .ok (.aload_n 0, 1) := by decide +kernel
theorem dX12_share_230 : decode cX12_share 230 = .ok (.iconst 1, 1) := by decide +kernel
theorem dX12_share_231 : decode cX12_share 231 = .ok (.putfield 341, 3) := by decide +kernel
theorem dX12_share_234 : decode cX12_share 234 = .ok (.iload_n 1, 1) := by decide +kernel
theorem dX12_share_235 : decode cX12_share 235 = .ok (.ifCond .ne 7, 3) := by decide +kernel
theorem dX12_share_238 : decode cX12_share 238 = .ok (.iload_n 2, 1) := by decide +kernel
theorem dX12_share_239 : decode cX12_share 239 = .ok (.goto 4, 3) := by decide +kernel
theorem dX12_share_242 : decode cX12_share 242 = .ok (.iload_n 3, 1) := by decide +kernel
theorem dX12_share_243 : decode cX12_share 243 = .ok (.ireturn, 1) := by decide +kernel
theorem dX12_shared_0 : decode cX12_shared 0 = .ok (.aload_n 0, 1) := by decide +kernel
theorem dX12_shared_1 : decode cX12_shared 1 = .ok (.iconst 0, 1) := by decide +kernel
theorem dX12_shared_2 : decode cX12_shared 2 = .ok (.putfield 184, 3) := by decide +kernel
theorem dX12_shared_5 : decode cX12_shared 5 = .ok (.aload_n 0, 1) := by decide +kernel
theorem dX12_shared_6 : decode cX12_shared 6 = .ok (.iload_n 1, 1) := by decide +kernel
theorem dX12_shared_7 : decode cX12_shared 7 = .ok (.invokevirtual 362, 3) := by decide +kernel
theorem dX12_shared_10 : decode cX12_shared 10 = .ok (.ifCond .eq 37, 3) := by decide +kernel
theorem dX12_shared_13 : decode cX12_shared 13 = .ok (.aload_n 0, 1) := by decide +kernel
theorem dX12_shared_14 : decode cX12_shared 14 = .ok (.iload_n 2, 1) := by decide +kernel
theorem dX12_shared_15 : decode cX12_shared 15 = .ok (.invokevirtual 365, 3) := by decide +kernel
theorem dX12_shared_18 : decode cX12_shared 18 = .ok (.ifCond .eq 29, 3) := by decide +kernel
theorem dX12_shared_21 : decode cX12_shared 21 = .ok (.aload_n 0, 1) := by decide +kernel
theorem dX12_shared_22 : decode cX12_shared 22 = .ok (.aload_n 0, 1) := by decide +kernel
theorem dX12_shared_23 : decode cX12_shared 23 = .ok (.getfield 341, 3) := by decide +kernel
theorem dX12_shared_26 : decode cX12_shared 26 = .ok (.iconst 1, 1) := by decide +kernel
theorem dX12_shared_27 : decode cX12_shared 27 = .ok (.invokevirtual 309, 3) := by decide +kernel
theorem dX12_shared_30 : decode cX12_shared 30 = .ok (.ifCond .eq 17, 3) := by decide +kernel
theorem dX12_shared_33 : decode cX12_shared 33 = .ok (.aload_n 0, 1) := by decide +kernel
theorem dX12_shared_34 : decode cX12_shared 34 = .ok (.getfield 175, 3) := by decide +kernel
theorem dX12_shared_37 : decode cX12_shared 37 = .ok (.bipush 8, 2) := by decide +kernel
theorem dX12_shared_39 : decode cX12_shared 39 = .ok (.iload_n 1, 1) := by decide +kernel
theorem dX12_shared_40 : decode cX12_shared 40 = .ok (.imul, 1) := by decide +kernel
theorem dX12_shared_41 : decode cX12_shared 41 = .ok (.iload_n 2, 1) := by decide +kernel
theorem dX12_shared_42 : decode cX12_shared 42 = .ok (.iadd, 1) := by decide +kernel
theorem dX12_shared_43 : decode cX12_shared 43 = .ok (.iaload, 1) := by decide +kernel
theorem dX12_shared_44 : decode cX12_shared 44 = .ok (.goto 4, 3) := by decide +kernel
theorem dX12_shared_47 : decode cX12_shared 47 = .ok (.iconst 0, 1) := by decide +kernel
theorem dX12_shared_48 : decode cX12_shared 48 = .ok (.ireturn, 1) := by decide +kernel
theorem dX12_byLaw_0 : decode cX12_byLaw 0 = .ok (.aload_n 0, 1) := by decide +kernel
theorem dX12_byLaw_1 : decode cX12_byLaw 1 = .ok (.getfield 13, 3) := by decide +kernel
theorem dX12_byLaw_4 : decode cX12_byLaw 4 = .ok (.istore_n 3, 1) := by decide +kernel
theorem dX12_byLaw_5 : decode cX12_byLaw 5 = .ok (.aload_n 0, 1) := by decide +kernel
theorem dX12_byLaw_6 : decode cX12_byLaw 6 = .ok (.getfield 325, 3) := by decide +kernel
theorem dX12_byLaw_9 : decode cX12_byLaw 9 = .ok (.istore 4, 2) := by decide +kernel
theorem dX12_byLaw_11 : decode cX12_byLaw 11 = .ok (.aload_n 0, 1) := by decide +kernel
theorem dX12_byLaw_12 : decode cX12_byLaw 12 = .ok (.iload_n 1, 1) := by decide +kernel
theorem dX12_byLaw_13 : decode cX12_byLaw 13 = .ok (.iconst 2, 1) := by decide +kernel
theorem dX12_byLaw_14 : decode cX12_byLaw 14 = .ok (.idiv, 1) := by decide +kernel
theorem dX12_byLaw_15 : decode cX12_byLaw 15 = .ok (.iconst 1, 1) := by decide +kernel
theorem dX12_byLaw_16 : decode cX12_byLaw 16 = .ok (.iadd, 1) := by decide +kernel
theorem dX12_byLaw_17 : decode cX12_byLaw 17 = .ok (.putfield 13, 3) := by decide +kernel
theorem dX12_byLaw_20 : decode cX12_byLaw 20 = .ok (.aload_n 0, 1) := by decide +kernel
theorem dX12_byLaw_21 : decode cX12_byLaw 21 = .ok (.iload_n 1, 1) := by decide +kernel
theorem dX12_byLaw_22 : decode cX12_byLaw 22 = .ok (.iconst 2, 1) := by decide +kernel
theorem dX12_byLaw_23 : decode cX12_byLaw 23 = .ok (.irem, 1) := by decide +kernel
theorem dX12_byLaw_24 : decode cX12_byLaw 24 = .ok (.iconst 1, 1) := by decide +kernel
theorem dX12_byLaw_25 : decode cX12_byLaw 25 = .ok (.if_icmp .ne 7, 3) := by decide +kernel
theorem dX12_byLaw_28 : decode cX12_byLaw 28 = .ok (.iconst 1, 1) := by decide +kernel
theorem dX12_byLaw_29 : decode cX12_byLaw 29 = .ok (.goto 4, 3) := by decide +kernel
theorem dX12_byLaw_32 : decode cX12_byLaw 32 = .ok (.iconst 0, 1) := by decide +kernel
theorem dX12_byLaw_33 : decode cX12_byLaw 33 = .ok (.putfield 325, 3) := by decide +kernel
theorem dX12_byLaw_36 : decode cX12_byLaw 36 = .ok (.aload_n 0, 1) := by decide +kernel
theorem dX12_byLaw_37 : decode cX12_byLaw 37 = .ok (.aload_n 0, 1) := by decide +kernel
theorem dX12_byLaw_38 : decode cX12_byLaw 38 = .ok (.getfield 38, 3) := by decide +kernel
theorem dX12_byLaw_41 : decode cX12_byLaw 41 = .ok (.aload_n 0, 1) := by decide +kernel
theorem dX12_byLaw_42 : decode cX12_byLaw 42 = .ok (.getfield 136, 3) := by decide +kernel
theorem dX12_byLaw_45 : decode cX12_byLaw 45 = .ok (.invokevirtual 328, 3) := by decide +kernel
theorem dX12_byLaw_48 : decode cX12_byLaw 48 = .ok (.aload_n 0, 1) := by decide +kernel
theorem dX12_byLaw_49 : decode cX12_byLaw 49 = .ok (.invokevirtual 485, 3) := by decide +kernel
theorem dX12_byLaw_52 : decode cX12_byLaw 52 = .ok (.pop, 1) := by decide +kernel
theorem dX12_byLaw_53 : decode cX12_byLaw 53 = .ok (.iload_n 2, 1) := by decide +kernel
theorem dX12_byLaw_54 : decode cX12_byLaw 54 = .ok (.ifCond .ne 14, 3) := by decide +kernel
theorem dX12_byLaw_57 : decode cX12_byLaw 57 = .ok (.aload_n 0, 1) := by decide +kernel
theorem dX12_byLaw_58 : decode cX12_byLaw 58 = .ok (.aload_n 0, 1) := by decide +kernel
theorem dX12_byLaw_59 : decode cX12_byLaw 59 = .ok (.getfield 136, 3) := by decide +kernel
theorem dX12_byLaw_62 : decode cX12_byLaw 62 = .ok (.invokevirtual 358, 3) := by decide +kernel
theorem dX12_byLaw_65 : decode cX12_byLaw 65 = .ok (.goto 11, 3) := by decide +kernel
theorem dX12_byLaw_68 : decode cX12_byLaw 68 = .ok (.aload_n 0, 1) := by decide +kernel
theorem dX12_byLaw_69 : decode cX12_byLaw 69 = .ok (.aload_n 0, 1) := by decide +kernel
theorem dX12_byLaw_70 : decode cX12_byLaw 70 = .ok (.getfield 136, 3) := by decide +kernel
theorem dX12_byLaw_73 : decode cX12_byLaw 73 = .ok (.invokevirtual 368, 3) := by decide +kernel
theorem dX12_byLaw_76 : decode cX12_byLaw 76 = .ok (.istore 5, 2) := by decide +kernel
theorem dX12_byLaw_78 : decode cX12_byLaw 78 = .ok (.aload_n 0, 1) := by decide +kernel
theorem dX12_byLaw_79 : decode cX12_byLaw 79 = .ok (.iload_n 3, 1) := by decide +kernel
theorem dX12_byLaw_80 : decode cX12_byLaw 80 = .ok (.putfield 13, 3) := by decide +kernel
theorem dX12_byLaw_83 : decode cX12_byLaw 83 = .ok (.aload_n 0, 1) := by decide +kernel
theorem dX12_byLaw_84 : decode cX12_byLaw 84 = .ok (.iload 4, 2) := by decide +kernel
theorem dX12_byLaw_86 : decode cX12_byLaw 86 = .ok (.putfield 325, 3) := by decide +kernel
theorem dX12_byLaw_89 : decode cX12_byLaw 89 = .ok (.iload 5, 2) := by decide +kernel
theorem dX12_byLaw_91 : decode cX12_byLaw 91 = .ok (.ireturn, 1) := by decide +kernel
theorem dX12_law_0 : decode cX12_law 0 = .ok (.aload_n 0, 1) := by decide +kernel
theorem dX12_law_1 : decode cX12_law 1 = .ok (.iconst 0, 1) := by decide +kernel
theorem dX12_law_2 : decode cX12_law 2 = .ok (.putfield 184, 3) := by decide +kernel
theorem dX12_law_5 : decode cX12_law 5 = .ok (.aload_n 0, 1) := by decide +kernel
theorem dX12_law_6 : decode cX12_law 6 = .ok (.iload_n 1, 1) := by decide +kernel
theorem dX12_law_7 : decode cX12_law 7 = .ok (.iconst 0, 1) := by decide +kernel
theorem dX12_law_8 : decode cX12_law 8 = .ok (.iconst 5, 1) := by decide +kernel
theorem dX12_law_9 : decode cX12_law 9 = .ok (.invokestatic 354, 3) := by decide +kernel
theorem dX12_law_12 : decode cX12_law 12 = .ok (.ifCond .eq 16, 3) := by decide +kernel
theorem dX12_law_15 : decode cX12_law 15 = .ok (.iload_n 2, 1) := by decide +kernel
theorem dX12_law_16 : decode cX12_law 16 = .ok (.ifCond .eq 8, 3) := by decide +kernel
theorem dX12_law_19 : decode cX12_law 19 = .ok (.iload_n 2, 1) := by decide +kernel
theorem dX12_law_20 : decode cX12_law 20 = .ok (.iconst 1, 1) := by decide +kernel
theorem dX12_law_21 : decode cX12_law 21 = .ok (.if_icmp .ne 7, 3) := by decide +kernel
theorem dX12_law_24 : decode cX12_law 24 = .ok (.iconst 1, 1) := by decide +kernel
theorem dX12_law_25 : decode cX12_law 25 = .ok (.goto 4, 3) := by decide +kernel
theorem dX12_law_28 : decode cX12_law 28 = .ok (.iconst 0, 1) := by decide +kernel
theorem dX12_law_29 : decode cX12_law 29 = .ok (.iconst 1, 1) := by decide +kernel
theorem dX12_law_30 : decode cX12_law 30 = .ok (.invokevirtual 309, 3) := by decide +kernel
theorem dX12_law_33 : decode cX12_law 33 = .ok (.ifCond .eq 12, 3) := by decide +kernel
theorem dX12_law_36 : decode cX12_law 36 = .ok (.aload_n 0, 1) := by decide +kernel
theorem dX12_law_37 : decode cX12_law 37 = .ok (.iload_n 1, 1) := by decide +kernel
theorem dX12_law_38 : decode cX12_law 38 = .ok (.iload_n 2, 1) := by decide +kernel
theorem dX12_law_39 : decode cX12_law 39 = .ok (.invokevirtual 537, 3) := by decide +kernel
theorem dX12_law_42 : decode cX12_law 42 = .ok (.goto 4, 3) := by decide +kernel
theorem dX12_law_45 : decode cX12_law 45 = .ok (.iconst 0, 1) := by decide +kernel
theorem dX12_law_46 : decode cX12_law 46 = .ok (.ireturn, 1) := by decide +kernel
theorem dX12_best_0 : decode cX12_best 0 = .ok (.aload_n 0, 1) := by decide +kernel
theorem dX12_best_1 : decode cX12_best 1 = .ok (.iconst 0, 1) := by decide +kernel
theorem dX12_best_2 : decode cX12_best 2 = .ok (.putfield 184, 3) := by decide +kernel
theorem dX12_best_5 : decode cX12_best 5 = .ok (.iconst 0, 1) := by decide +kernel
theorem dX12_best_6 : decode cX12_best 6 = .ok (.istore_n 1, 1) := by decide +kernel
theorem dX12_best_7 : decode cX12_best 7 = .ok (.iconst (-1), 1) := by decide +kernel
theorem dX12_best_8 : decode cX12_best 8 = .ok (.istore_n 2, 1) := by decide +kernel
theorem dX12_best_9 : decode cX12_best 9 = .ok (.iconst 0, 1) := by decide +kernel
theorem dX12_best_10 : decode cX12_best 10 = .ok (.istore_n 3, 1) := by decide +kernel
theorem dX12_best_11 : decode cX12_best 11 = .ok (.iload_n 3, 1) := by decide +kernel
theorem dX12_best_12 : decode cX12_best 12 = .ok (.bipush 6, 2) := by decide +kernel
theorem dX12_best_14 : decode cX12_best 14 = .ok (.if_icmp .ge 42, 3) := by decide +kernel
theorem dX12_best_17 : decode cX12_best 17 = .ok (.aload_n 0, 1) := by decide +kernel
theorem dX12_best_18 : decode cX12_best 18 = .ok (.iload_n 3, 1) := by decide +kernel
theorem dX12_best_19 : decode cX12_best 19 = .ok (.iconst 1, 1) := by decide +kernel
theorem dX12_best_20 : decode cX12_best 20 = .ok (.invokevirtual 537, 3) := by decide +kernel
theorem dX12_best_23 : decode cX12_best 23 = .ok (.istore 4, 2) := by decide +kernel
theorem dX12_best_25 : decode cX12_best 25 = .ok (.iload 4, 2) := by decide +kernel
theorem dX12_best_27 : decode cX12_best 27 = .ok (.iload_n 2, 1) := by decide +kernel
theorem dX12_best_28 : decode cX12_best 28 = .ok (.if_icmp .le 7, 3) := by decide +kernel
theorem dX12_best_31 : decode cX12_best 31 = .ok (.iload_n 3, 1) := by decide +kernel
theorem dX12_best_32 : decode cX12_best 32 = .ok (.goto 4, 3) := by decide +kernel
theorem dX12_best_35 : decode cX12_best 35 = .ok (.iload_n 1, 1) := by decide +kernel
theorem dX12_best_36 : decode cX12_best 36 = .ok (.istore_n 1, 1) := by decide +kernel
theorem dX12_best_37 : decode cX12_best 37 = .ok (.iload 4, 2) := by decide +kernel
theorem dX12_best_39 : decode cX12_best 39 = .ok (.iload_n 2, 1) := by decide +kernel
theorem dX12_best_40 : decode cX12_best 40 = .ok (.if_icmp .le 8, 3) := by decide +kernel
theorem dX12_best_43 : decode cX12_best 43 = .ok (.iload 4, 2) := by decide +kernel
theorem dX12_best_45 : decode cX12_best 45 = .ok (.goto 4, 3) := by decide +kernel
theorem dX12_best_48 : decode cX12_best 48 = .ok (.iload_n 2, 1) := by decide +kernel
theorem dX12_best_49 : decode cX12_best 49 = .ok (.istore_n 2, 1) := by decide +kernel
theorem dX12_best_50 : decode cX12_best 50 = .ok (.iinc 3 1, 3) := by decide +kernel
theorem dX12_best_53 : decode cX12_best 53 = .ok (.goto (-42), 3) := by decide +kernel
theorem dX12_best_56 : decode cX12_best 56 = .ok (.iload_n 1, 1) := by decide +kernel
theorem dX12_best_57 : decode cX12_best 57 = .ok (.ireturn, 1) := by decide +kernel
theorem dX12_run_0 : decode cX12_run 0 = .ok (.aload_n 0, 1) := by decide +kernel
theorem dX12_run_1 : decode cX12_run 1 = .ok (.iconst 0, 1) := by decide +kernel
theorem dX12_run_2 : decode cX12_run 2 = .ok (.putfield 184, 3) := by decide +kernel
theorem dX12_run_5 : decode cX12_run 5 = .ok (.aload_n 0, 1) := by decide +kernel
theorem dX12_run_6 : decode cX12_run 6 = .ok (.iload_n 1, 1) := by decide +kernel
theorem dX12_run_7 : decode cX12_run 7 = .ok (.iconst 0, 1) := by decide +kernel
theorem dX12_run_8 : decode cX12_run 8 = .ok (.sipush 400, 3) := by decide +kernel
theorem dX12_run_11 : decode cX12_run 11 = .ok (.invokestatic 354, 3) := by decide +kernel
theorem dX12_run_14 : decode cX12_run 14 = .ok (.ifCond .eq 15, 3) := by decide +kernel
theorem dX12_run_17 : decode cX12_run 17 = .ok (.aload_n 0, 1) := by decide +kernel
theorem dX12_run_18 : decode cX12_run 18 = .ok (.getfield 316, 3) := by decide +kernel
theorem dX12_run_21 : decode cX12_run 21 = .ok (.iconst 2, 1) := by decide +kernel
theorem dX12_run_22 : decode cX12_run 22 = .ok (.if_icmp .lt 7, 3) := by decide +kernel
theorem dX12_run_25 : decode cX12_run 25 = .ok (.iconst 1, 1) := by decide +kernel
theorem dX12_run_26 : decode cX12_run 26 = .ok (.goto 4, 3) := by decide +kernel
theorem dX12_run_29 : decode cX12_run 29 = .ok (.iconst 0, 1) := by decide +kernel
theorem dX12_run_30 : decode cX12_run 30 = .ok (.iconst 1, 1) := by decide +kernel
theorem dX12_run_31 : decode cX12_run 31 = .ok (.invokevirtual 309, 3) := by decide +kernel
theorem dX12_run_34 : decode cX12_run 34 = .ok (.ifCond .ne 5, 3) := by decide +kernel
theorem dX12_run_37 : decode cX12_run 37 = .ok (.iconst 0, 1) := by decide +kernel
theorem dX12_run_38 : decode cX12_run 38 = .ok (.ireturn, 1) := by decide +kernel
theorem dX12_run_39 : decode cX12_run 39 = .ok (.iload_n 2, 1) := by decide +kernel
theorem dX12_run_40 : decode cX12_run 40 = .ok (.istore_n 3, 1) := by decide +kernel
theorem dX12_run_41 : decode cX12_run 41 = .ok (.iconst 0, 1) := by decide +kernel
theorem dX12_run_42 : decode cX12_run 42 = .ok (.istore 4, 2) := by decide +kernel
theorem dX12_run_44 : decode cX12_run 44 = .ok (.iconst 0, 1) := by decide +kernel
theorem dX12_run_45 : decode cX12_run 45 = .ok (.istore 5, 2) := by decide +kernel
theorem dX12_run_47 : decode cX12_run 47 = .ok (.iload 5, 2) := by decide +kernel
theorem dX12_run_49 : decode cX12_run 49 = .ok (.iload_n 1, 1) := by decide +kernel
theorem dX12_run_50 : decode cX12_run 50 = .ok (.if_icmp .ge 103, 3) := by decide +kernel
theorem dX12_run_53 : decode cX12_run 53 = .ok (.iload_n 3, 1) := by decide +kernel
theorem dX12_run_54 : decode cX12_run 54 = .ok (.ldc_w 540, 3) := by decide +kernel
theorem dX12_run_57 : decode cX12_run 57 = .ok (.imul, 1) := by decide +kernel
theorem dX12_run_58 : decode cX12_run 58 = .ok (.sipush 12345, 3) := by decide +kernel
theorem dX12_run_61 : decode cX12_run 61 = .ok (.iadd, 1) := by decide +kernel
theorem dX12_run_62 : decode cX12_run 62 = .ok (.istore_n 3, 1) := by decide +kernel
theorem dX12_run_63 : decode cX12_run 63 = .ok (.iload_n 3, 1) := by decide +kernel
theorem dX12_run_64 : decode cX12_run 64 = .ok (.bipush 16, 2) := by decide +kernel
theorem dX12_run_66 : decode cX12_run 66 = .ok (.ishr, 1) := by decide +kernel
theorem dX12_run_67 : decode cX12_run 67 = .ok (.sipush 32767, 3) := by decide +kernel
theorem dX12_run_70 : decode cX12_run 70 = .ok (.iand, 1) := by decide +kernel
theorem dX12_run_71 : decode cX12_run 71 = .ok (.aload_n 0, 1) := by decide +kernel
theorem dX12_run_72 : decode cX12_run 72 = .ok (.getfield 316, 3) := by decide +kernel
theorem dX12_run_75 : decode cX12_run 75 = .ok (.irem, 1) := by decide +kernel
theorem dX12_run_76 : decode cX12_run 76 = .ok (.istore 6, 2) := by decide +kernel
theorem dX12_run_78 : decode cX12_run 78 = .ok (.iload_n 3, 1) := by decide +kernel
theorem dX12_run_79 : decode cX12_run 79 = .ok (.ldc_w 540, 3) := by decide +kernel
theorem dX12_run_82 : decode cX12_run 82 = .ok (.imul, 1) := by decide +kernel
theorem dX12_run_83 : decode cX12_run 83 = .ok (.sipush 12345, 3) := by decide +kernel
theorem dX12_run_86 : decode cX12_run 86 = .ok (.iadd, 1) := by decide +kernel
theorem dX12_run_87 : decode cX12_run 87 = .ok (.istore_n 3, 1) := by decide +kernel
theorem dX12_run_88 : decode cX12_run 88 = .ok (.iload_n 3, 1) := by decide +kernel
theorem dX12_run_89 : decode cX12_run 89 = .ok (.bipush 16, 2) := by decide +kernel
theorem dX12_run_91 : decode cX12_run 91 = .ok (.ishr, 1) := by decide +kernel
theorem dX12_run_92 : decode cX12_run 92 = .ok (.sipush 32767, 3) := by decide +kernel
theorem dX12_run_95 : decode cX12_run 95 = .ok (.iand, 1) := by decide +kernel
theorem dX12_run_96 : decode cX12_run 96 = .ok (.aload_n 0, 1) := by decide +kernel
theorem dX12_run_97 : decode cX12_run 97 = .ok (.getfield 316, 3) := by decide +kernel
theorem dX12_run_100 : decode cX12_run 100 = .ok (.iconst 1, 1) := by decide +kernel
theorem dX12_run_101 : decode cX12_run 101 = .ok (.isub, 1) := by decide +kernel
theorem dX12_run_102 : decode cX12_run 102 = .ok (.irem, 1) := by decide +kernel
theorem dX12_run_103 : decode cX12_run 103 = .ok (.istore 7, 2) := by decide +kernel
theorem dX12_run_105 : decode cX12_run 105 = .ok (.iload 7, 2) := by decide +kernel
theorem dX12_run_107 : decode cX12_run 107 = .ok (.iload 7, 2) := by decide +kernel
theorem dX12_run_109 : decode cX12_run 109 = .ok (.iload 6, 2) := by decide +kernel
theorem dX12_run_111 : decode cX12_run 111 = .ok (.if_icmp .lt 7, 3) := by decide +kernel
theorem dX12_run_114 : decode cX12_run 114 = .ok (.iconst 1, 1) := by decide +kernel
theorem dX12_run_115 : decode cX12_run 115 = .ok (.goto 4, 3) := by decide +kernel
theorem dX12_run_118 : decode cX12_run 118 = .ok (.iconst 0, 1) := by decide +kernel
theorem dX12_run_119 : decode cX12_run 119 = .ok (.iadd, 1) := by decide +kernel
theorem dX12_run_120 : decode cX12_run 120 = .ok (.istore 7, 2) := by decide +kernel
theorem dX12_run_122 : decode cX12_run 122 = .ok (.iload 4, 2) := by decide +kernel
theorem dX12_run_124 : decode cX12_run 124 = .ok (.aload_n 0, 1) := by decide +kernel
theorem dX12_run_125 : decode cX12_run 125 = .ok (.aload_n 0, 1) := by decide +kernel
theorem dX12_run_126 : decode cX12_run 126 = .ok (.getfield 38, 3) := by decide +kernel
theorem dX12_run_129 : decode cX12_run 129 = .ok (.iload 6, 2) := by decide +kernel
theorem dX12_run_131 : decode cX12_run 131 = .ok (.iload 7, 2) := by decide +kernel
theorem dX12_run_133 : decode cX12_run 133 = .ok (.invokevirtual 478, 3) := by decide +kernel
theorem dX12_run_136 : decode cX12_run 136 = .ok (.ifCond .le 7, 3) := by decide +kernel
theorem dX12_run_139 : decode cX12_run 139 = .ok (.iconst 1, 1) := by decide +kernel
theorem dX12_run_140 : decode cX12_run 140 = .ok (.goto 4, 3) := by decide +kernel
theorem dX12_run_143 : decode cX12_run 143 = .ok (.iconst 0, 1) := by decide +kernel
theorem dX12_run_144 : decode cX12_run 144 = .ok (.iadd, 1) := by decide +kernel
theorem dX12_run_145 : decode cX12_run 145 = .ok (.istore 4, 2) := by decide +kernel
theorem dX12_run_147 : decode cX12_run 147 = .ok (.iinc 5 1, 3) := by decide +kernel
theorem dX12_run_150 : decode cX12_run 150 = .ok (.goto (-103), 3) := by decide +kernel
theorem dX12_run_153 : decode cX12_run 153 = .ok (.iload 4, 2) := by decide +kernel
theorem dX12_run_155 : decode cX12_run 155 = .ok (.ireturn, 1) := by decide +kernel
theorem dX12_image_0 : decode cX12_image 0 = .ok (.aload_n 0, 1) := by decide +kernel
theorem dX12_image_1 : decode cX12_image 1 = .ok (.iconst 0, 1) := by decide +kernel
theorem dX12_image_2 : decode cX12_image 2 = .ok (.putfield 184, 3) := by decide +kernel
theorem dX12_image_5 : decode cX12_image 5 = .ok (.aload_n 0, 1) := by decide +kernel
theorem dX12_image_6 : decode cX12_image 6 = .ok (.iconst 1, 1) := by decide +kernel
theorem dX12_image_7 : decode cX12_image 7 = .ok (.putfield 344, 3) := by decide +kernel
theorem dX12_image_10 : decode cX12_image 10 = .ok (.aload_n 0, 1) := by decide +kernel
theorem dX12_image_11 : decode cX12_image 11 = .ok (.aload_n 0, 1) := by decide +kernel
theorem dX12_image_12 : decode cX12_image 12 = .ok (.getfield 38, 3) := by decide +kernel
theorem dX12_image_15 : decode cX12_image 15 = .ok (.aload_n 0, 1) := by decide +kernel
theorem dX12_image_16 : decode cX12_image 16 = .ok (.getfield 181, 3) := by decide +kernel
theorem dX12_image_19 : decode cX12_image 19 = .ok (.invokevirtual 328, 3) := by decide +kernel
theorem dX12_image_22 : decode cX12_image 22 = .ok (.return_, 1) := by decide +kernel
theorem dX12_restore_0 : decode cX12_restore 0 = .ok (.aload_n 0, 1) := by decide +kernel
theorem dX12_restore_1 : decode cX12_restore 1 = .ok (.iconst 0, 1) := by decide +kernel
theorem dX12_restore_2 : decode cX12_restore 2 = .ok (.putfield 184, 3) := by decide +kernel
theorem dX12_restore_5 : decode cX12_restore 5 = .ok (.aload_n 0, 1) := by decide +kernel
theorem dX12_restore_6 : decode cX12_restore 6 = .ok (.getfield 344, 3) := by decide +kernel
theorem dX12_restore_9 : decode cX12_restore 9 = .ok (.ifCond .ne 5, 3) := by decide +kernel
theorem dX12_restore_12 : decode cX12_restore 12 = .ok (.iconst 0, 1) := by decide +kernel
theorem dX12_restore_13 : decode cX12_restore 13 = .ok (.ireturn, 1) := by decide +kernel
theorem dX12_restore_14 : decode cX12_restore 14 = .ok (.aload_n 0, 1) := by decide +kernel
theorem dX12_restore_15 : decode cX12_restore 15 = .ok (.aload_n 0, 1) := by decide +kernel
theorem dX12_restore_16 : decode cX12_restore 16 = .ok (.getfield 181, 3) := by decide +kernel
theorem dX12_restore_19 : decode cX12_restore 19 = .ok (.aload_n 0, 1) := by decide +kernel
theorem dX12_restore_20 : decode cX12_restore 20 = .ok (.getfield 38, 3) := by decide +kernel
theorem dX12_restore_23 : decode cX12_restore 23 = .ok (.invokevirtual 328, 3) := by decide +kernel
theorem dX12_restore_26 : decode cX12_restore 26 = .ok (.iconst 1, 1) := by decide +kernel
theorem dX12_restore_27 : decode cX12_restore 27 = .ok (.ireturn, 1) := by decide +kernel
