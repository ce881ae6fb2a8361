theorem dX12_init_0 : decode cX12_init 0 = .ok (.aload_n 0, 1) := by decide +kernel
theorem dX12_init_1 : decode cX12_init 1 = .ok (.invokespecial 1, 3) := by decide +kernel
theorem dX12_init_4 : decode cX12_init 4 = .ok (.aload_n 0, 1) := by decide +kernel
theorem dX12_init_5 : decode cX12_init 5 = .ok (.sipush 400, 3) := by decide +kernel
theorem dX12_init_8 : decode cX12_init 8 = .ok (.newarray .int, 2) := by decide +kernel
theorem dX12_init_10 : decode cX12_init 10 = .ok (.putfield 7, 3) := by decide +kernel
theorem dX12_init_13 : decode cX12_init 13 = .ok (.aload_n 0, 1) := by decide +kernel
theorem dX12_init_14 : decode cX12_init 14 = .ok (.iconst 2, 1) := by decide +kernel
theorem dX12_init_15 : decode cX12_init 15 = .ok (.newarray .int, 2) := by decide +kernel
theorem dX12_init_17 : decode cX12_init 17 = .ok (.putfield 13, 3) := by decide +kernel
theorem dX12_init_20 : decode cX12_init 20 = .ok (.aload_n 0, 1) := by decide +kernel
theorem dX12_init_21 : decode cX12_init 21 = .ok (.sipush 1400, 3) := by decide +kernel
theorem dX12_init_24 : decode cX12_init 24 = .ok (.newarray .int, 2) := by decide +kernel
theorem dX12_init_26 : decode cX12_init 26 = .ok (.putfield 16, 3) := by decide +kernel
theorem dX12_init_29 : decode cX12_init 29 = .ok (.aload_n 0, 1) := by decide +kernel
theorem dX12_init_30 : decode cX12_init 30 = .ok (.sipush 133, 3) := by decide +kernel
theorem dX12_init_33 : decode cX12_init 33 = .ok (.newarray .int, 2) := by decide +kernel
theorem dX12_init_35 : decode cX12_init 35 = .ok (.putfield 19, 3) := by decide +kernel
theorem dX12_init_38 : decode cX12_init 38 = .ok (.aload_n 0, 1) := by decide +kernel
theorem dX12_init_39 : decode cX12_init 39 = .ok (.sipush 133, 3) := by decide +kernel
theorem dX12_init_42 : decode cX12_init 42 = .ok (.newarray .int, 2) := by decide +kernel
theorem dX12_init_44 : decode cX12_init 44 = .ok (.putfield 22, 3) := by decide +kernel
theorem dX12_init_47 : decode cX12_init 47 = .ok (.aload_n 0, 1) := by decide +kernel
theorem dX12_init_48 : decode cX12_init 48 = .ok (.bipush 7, 2) := by decide +kernel
theorem dX12_init_50 : decode cX12_init 50 = .ok (.newarray .int, 2) := by decide +kernel
theorem dX12_init_52 : decode cX12_init 52 = .ok (.putfield 25, 3) := by decide +kernel
theorem dX12_init_55 : decode cX12_init 55 = .ok (.aload_n 0, 1) := by decide +kernel
theorem dX12_init_56 : decode cX12_init 56 = .ok (.bipush 63, 2) := by decide +kernel
theorem dX12_init_58 : decode cX12_init 58 = .ok (.newarray .int, 2) := by decide +kernel
theorem dX12_init_60 : decode cX12_init 60 = .ok (.putfield 28, 3) := by decide +kernel
theorem dX12_init_63 : decode cX12_init 63 = .ok (.aload_n 0, 1) := by decide +kernel
theorem dX12_init_64 : decode cX12_init 64 = .ok (.bipush 7, 2) := by decide +kernel
theorem dX12_init_66 : decode cX12_init 66 = .ok (.newarray .int, 2) := by decide +kernel
theorem dX12_init_68 : decode cX12_init 68 = .ok (.putfield 31, 3) := by decide +kernel
theorem dX12_init_71 : decode cX12_init 71 = .ok (.aload_n 0, 1) := by decide +kernel
theorem dX12_init_72 : decode cX12_init 72 = .ok (.bipush 12, 2) := by decide +kernel
theorem dX12_init_74 : decode cX12_init 74 = .ok (.newarray .int, 2) := by decide +kernel
theorem dX12_init_76 : decode cX12_init 76 = .ok (.putfield 34, 3) := by decide +kernel
theorem dX12_init_79 : decode cX12_init 79 = .ok (.aload_n 0, 1) := by decide +kernel
theorem dX12_init_80 : decode cX12_init 80 = .ok (.iconst 3, 1) := by decide +kernel
theorem dX12_init_81 : decode cX12_init 81 = .ok (.newarray .int, 2) := by decide +kernel
theorem dX12_init_83 : decode cX12_init 83 = .ok (.putfield 37, 3) := by decide +kernel
theorem dX12_init_86 : decode cX12_init 86 = .ok (.aload_n 0, 1) := by decide +kernel
theorem dX12_init_87 : decode cX12_init 87 = .ok (.iconst 3, 1) := by decide +kernel
theorem dX12_init_88 : decode cX12_init 88 = .ok (.newarray .int, 2) := by decide +kernel
theorem dX12_init_90 : decode cX12_init 90 = .ok (.putfield 40, 3) := by decide +kernel
theorem dX12_init_93 : decode cX12_init 93 = .ok (.aload_n 0, 1) := by decide +kernel
theorem dX12_init_94 : decode cX12_init 94 = .ok (.bipush 7, 2) := by decide +kernel
theorem dX12_init_96 : decode cX12_init 96 = .ok (.newarray .int, 2) := by decide +kernel
theorem dX12_init_98 : decode cX12_init 98 = .ok (.putfield 43, 3) := by decide +kernel
theorem dX12_init_101 : decode cX12_init 101 = .ok (.aload_n 0, 1) := by decide +kernel
theorem dX12_init_102 : decode cX12_init 102 = .ok (.bipush 7, 2) := by decide +kernel
theorem dX12_init_104 : decode cX12_init 104 = .ok (.newarray .int, 2) := by decide +kernel
theorem dX12_init_106 : decode cX12_init 106 = .ok (.putfield 46, 3) := by decide +kernel
theorem dX12_init_109 : decode cX12_init 109 = .ok (.aload_n 0, 1) := by decide +kernel
theorem dX12_init_110 : decode cX12_init 110 = .ok (.iconst 5, 1) := by decide +kernel
theorem dX12_init_111 : decode cX12_init 111 = .ok (.newarray .int, 2) := by decide +kernel
theorem dX12_init_113 : decode cX12_init 113 = .ok (.putfield 49, 3) := by decide +kernel
theorem dX12_init_116 : decode cX12_init 116 = .ok (.aload_n 0, 1) := by decide +kernel
theorem dX12_init_117 : decode cX12_init 117 = .ok (.bipush 19, 2) := by decide +kernel
theorem dX12_init_119 : decode cX12_init 119 = .ok (.newarray .int, 2) := by decide +kernel
theorem dX12_init_121 : decode cX12_init 121 = .ok (.putfield 52, 3) := by decide +kernel
theorem dX12_init_124 : decode cX12_init 124 = .ok (.aload_n 0, 1) := by decide +kernel
theorem dX12_init_125 : decode cX12_init 125 = .ok (.bipush 10, 2) := by decide +kernel
theorem dX12_init_127 : decode cX12_init 127 = .ok (.newarray .int, 2) := by decide +kernel
theorem dX12_init_129 : decode cX12_init 129 = .ok (.putfield 55, 3) := by decide +kernel
theorem dX12_init_132 : decode cX12_init 132 = .ok (.aload_n 0, 1) := by decide +kernel
theorem dX12_init_133 : decode cX12_init 133 = .ok (.bipush (-4), 2) := by decide +kernel
theorem dX12_init_135 : decode cX12_init 135 = .ok (.putfield 58, 3) := by decide +kernel
theorem dX12_init_138 : decode cX12_init 138 = .ok (.aload_n 0, 1) := by decide +kernel
theorem dX12_init_139 : decode cX12_init 139 = .ok (.bipush 19, 2) := by decide +kernel
theorem dX12_init_141 : decode cX12_init 141 = .ok (.newarray .int, 2) := by decide +kernel
theorem dX12_init_143 : decode cX12_init 143 = .ok (.putfield 62, 3) := by decide +kernel
theorem dX12_init_146 : decode cX12_init 146 = .ok (.aload_n 0, 1) := by decide +kernel
theorem dX12_init_147 : decode cX12_init 147 = .ok (.bipush 10, 2) := by decide +kernel
theorem dX12_init_149 : decode cX12_init 149 = .ok (.newarray .int, 2) := by decide +kernel
theorem dX12_init_151 : decode cX12_init 151 = .ok (.putfield 65, 3) := by decide +kernel
theorem dX12_init_154 : decode cX12_init 154 = .ok (.aload_n 0, 1) := by decide +kernel
theorem dX12_init_155 : decode cX12_init 155 = .ok (.bipush 10, 2) := by decide +kernel
theorem dX12_init_157 : decode cX12_init 157 = .ok (.newarray .int, 2) := by decide +kernel
theorem dX12_init_159 : decode cX12_init 159 = .ok (.putfield 68, 3) := by decide +kernel
theorem dX12_init_162 : decode cX12_init 162 = .ok (.aload_n 0, 1) := by decide +kernel
theorem dX12_init_163 : decode cX12_init 163 = .ok (.bipush 19, 2) := by decide +kernel
theorem dX12_init_165 : decode cX12_init 165 = .ok (.newarray .int, 2) := by decide +kernel
theorem dX12_init_167 : decode cX12_init 167 = .ok (.putfield 71, 3) := by decide +kernel
theorem dX12_init_170 : decode cX12_init 170 = .ok (.aload_n 0, 1) := by decide +kernel
theorem dX12_init_171 : decode cX12_init 171 = .ok (.bipush 19, 2) := by decide +kernel
theorem dX12_init_173 : decode cX12_init 173 = .ok (.newarray .int, 2) := by decide +kernel
theorem dX12_init_175 : decode cX12_init 175 = .ok (.putfield 74, 3) := by decide +kernel
theorem dX12_init_178 : decode cX12_init 178 = .ok (.aload_n 0, 1) := by decide +kernel
theorem dX12_init_179 : decode cX12_init 179 = .ok (.bipush 10, 2) := by decide +kernel
theorem dX12_init_181 : decode cX12_init 181 = .ok (.newarray .int, 2) := by decide +kernel
theorem dX12_init_183 : decode cX12_init 183 = .ok (.putfield 77, 3) := by decide +kernel
theorem dX12_init_186 : decode cX12_init 186 = .ok (.aload_n 0, 1) := by decide +kernel
theorem dX12_init_187 : decode cX12_init 187 = .ok (.bipush 10, 2) := by decide +kernel
theorem dX12_init_189 : decode cX12_init 189 = .ok (.newarray .int, 2) := by decide +kernel
theorem dX12_init_191 : decode cX12_init 191 = .ok (.putfield 80, 3) := by decide +kernel
theorem dX12_init_194 : decode cX12_init 194 = .ok (.aload_n 0, 1) := by decide +kernel
theorem dX12_init_195 : decode cX12_init 195 = .ok (.bipush 7, 2) := by decide +kernel
theorem dX12_init_197 : decode cX12_init 197 = .ok (.newarray .int, 2) := by decide +kernel
theorem dX12_init_199 : decode cX12_init 199 = .ok (.putfield 83, 3) := by decide +kernel
theorem dX12_init_202 : decode cX12_init 202 = .ok (.aload_n 0, 1) := by decide +kernel
theorem dX12_init_203 : decode cX12_init 203 = .ok (.bipush 8, 2) := by decide +kernel
theorem dX12_init_205 : decode cX12_init 205 = .ok (.newarray .int, 2) := by decide +kernel
theorem dX12_init_207 : decode cX12_init 207 = .ok (.putfield 86, 3) := by decide +kernel
theorem dX12_init_210 : decode cX12_init 210 = .ok (.aload_n 0, 1) := by decide +kernel
theorem dX12_init_211 : decode cX12_init 211 = .ok (.bipush 7, 2) := by decide +kernel
theorem dX12_init_213 : decode cX12_init 213 = .ok (.newarray .int, 2) := by decide +kernel
theorem dX12_init_215 : decode cX12_init 215 = .ok (.putfield 89, 3) := by decide +kernel
theorem dX12_init_218 : decode cX12_init 218 = .ok (.aload_n 0, 1) := by decide +kernel
theorem dX12_init_219 : decode cX12_init 219 = .ok (.bipush 7, 2) := by decide +kernel
theorem dX12_init_221 : decode cX12_init 221 = .ok (.newarray .int, 2) := by decide +kernel
theorem dX12_init_223 : decode cX12_init 223 = .ok (.putfield 92, 3) := by decide +kernel
theorem dX12_init_226 : decode cX12_init 226 = .ok (.aload_n 0, 1) := by decide +kernel
theorem dX12_init_227 : decode cX12_init 227 = .ok (.bipush 10, 2) := by decide +kernel
theorem dX12_init_229 : decode cX12_init 229 = .ok (.newarray .int, 2) := by decide +kernel
theorem dX12_init_231 : decode cX12_init 231 = .ok (.putfield 95, 3) := by decide +kernel
theorem dX12_init_234 : decode cX12_init 234 = .ok (.aload_n 0, 1) := by decide +kernel
theorem dX12_init_235 : decode cX12_init 235 = .ok (.bipush 10, 2) := by decide +kernel
theorem dX12_init_237 : decode cX12_init 237 = .ok (.newarray .int, 2) := by decide +kernel
theorem dX12_init_239 : decode cX12_init 239 = .ok (.putfield 98, 3) := by decide +kernel
theorem dX12_init_242 : decode cX12_init 242 = .ok (.aload_n 0, 1) := by decide +kernel
theorem dX12_init_243 : decode cX12_init 243 = .ok (.bipush 10, 2) := by decide +kernel
theorem dX12_init_245 : decode cX12_init 245 = .ok (.newarray .long, 2) := by decide +kernel
theorem dX12_init_247 : decode cX12_init 247 = .ok (.putfield 101, 3) := by decide +kernel
theorem dX12_init_250 : decode cX12_init 250 = .ok (.aload_n 0, 1) := by decide +kernel
theorem dX12_init_251 : decode cX12_init 251 = .ok (.bipush 39, 2) := by decide +kernel
theorem dX12_init_253 : decode cX12_init 253 = .ok (.newarray .int, 2) := by decide +kernel
theorem dX12_init_255 : decode cX12_init 255 = .ok (.putfield 105, 3) := by decide +kernel
theorem dX12_init_258 : decode cX12_init 258 = .ok (.aload_n 0, 1) := by decide +kernel
theorem dX12_init_259 : decode cX12_init 259 = .ok (.bipush 39, 2) := by decide +kernel
theorem dX12_init_261 : decode cX12_init 261 = .ok (.newarray .int, 2) := by decide +kernel
theorem dX12_init_263 : decode cX12_init 263 = .ok (.putfield 108, 3) := by decide +kernel
theorem dX12_init_266 : decode cX12_init 266 = .ok (.iconst 0, 1) := by decide +kernel
theorem dX12_init_267 : decode cX12_init 267 = .ok (.istore_n 1, 1) := by decide +kernel
theorem dX12_init_268 : decode cX12_init 268 = .ok (.iload_n 1, 1) := by decide +kernel
theorem dX12_init_269 : decode cX12_init 269 = .ok (.sipush 133, 3) := by decide +kernel
theorem dX12_init_272 : decode cX12_init 272 = .ok (.if_icmp .ge 17, 3) := by decide +kernel
theorem dX12_init_275 : decode cX12_init 275 = .ok (.aload_n 0, 1) := by decide +kernel
theorem dX12_init_276 : decode cX12_init 276 = .ok (.getfield 22, 3) := by decide +kernel
theorem dX12_init_279 : decode cX12_init 279 = .ok (.iload_n 1, 1) := by decide +kernel
theorem dX12_init_280 : decode cX12_init 280 = .ok (.bipush (-4), 2) := by decide +kernel
theorem dX12_init_282 : decode cX12_init 282 = .ok (.iastore, 1) := by decide +kernel
theorem dX12_init_283 : decode cX12_init 283 = .ok (.iinc 1 1, 3) := by decide +kernel
theorem dX12_init_286 : decode cX12_init 286 = .ok (.goto (-18), 3) := by decide +kernel
theorem dX12_init_289 : decode cX12_init 289 = .ok (.iconst 0, 1) := by decide +kernel
theorem dX12_init_290 : decode cX12_init 290 = .ok (.istore_n 1, 1) := by decide +kernel
theorem dX12_init_291 : decode cX12_init 291 = .ok (.iload_n 1, 1) := by decide +kernel
theorem dX12_init_292 : decode cX12_init 292 = .ok (.iconst 4, 1) := by decide +kernel
theorem dX12_init_293 : decode cX12_init 293 = .ok (.if_icmp .ge 16, 3) := by decide +kernel
theorem dX12_init_296 : decode cX12_init 296 = .ok (.aload_n 0, 1) := by decide +kernel
theorem dX12_init_297 : decode cX12_init 297 = .ok (.getfield 34, 3) := by decide +kernel
theorem dX12_init_300 : decode cX12_init 300 = .ok (.iload_n 1, 1) := by decide +kernel
theorem dX12_init_301 : decode cX12_init 301 = .ok (.iconst 2, 1) := by decide +kernel
theorem dX12_init_302 : decode cX12_init 302 = .ok (.iastore, 1) := by decide +kernel
theorem dX12_init_303 : decode cX12_init 303 = .ok (.iinc 1 1, 3) := by decide +kernel
theorem dX12_init_306 : decode cX12_init 306 = .ok (.goto (-15), 3) := by decide +kernel
theorem dX12_init_309 : decode cX12_init 309 = .ok (.aload_n 0, 1) := by decide +kernel
theorem dX12_init_310 : decode cX12_init 310 = .ok (.getfield 40, 3) := by decide +kernel
theorem dX12_init_313 : decode cX12_init 313 = .ok (.iconst 0, 1) := by decide +kernel
theorem dX12_init_314 : decode cX12_init 314 = .ok (.ldc 111, 2) := by decide +kernel
theorem dX12_init_316 : decode cX12_init 316 = .ok (.iastore, 1) := by decide +kernel
theorem dX12_init_317 : decode cX12_init 317 = .ok (.aload_n 0, 1) := by decide +kernel
theorem dX12_init_318 : decode cX12_init 318 = .ok (.getfield 43, 3) := by decide +kernel
theorem dX12_init_321 : decode cX12_init 321 = .ok (.iconst 0, 1) := by decide +kernel
theorem dX12_init_322 : decode cX12_init 322 = .ok (.iconst 1, 1) := by decide +kernel
theorem dX12_init_323 : decode cX12_init 323 = .ok (.iastore, 1) := by decide +kernel
theorem dX12_init_324 : decode cX12_init 324 = .ok (.aload_n 0, 1) := by decide +kernel
theorem dX12_init_325 : decode cX12_init 325 = .ok (.getfield 43, 3) := by decide +kernel
theorem dX12_init_328 : decode cX12_init 328 = .ok (.iconst 1, 1) := by decide +kernel
theorem dX12_init_329 : decode cX12_init 329 = .ok (.iconst 3, 1) := by decide +kernel
theorem dX12_init_330 : decode cX12_init 330 = .ok (.iastore, 1) := by decide +kernel
theorem dX12_init_331 : decode cX12_init 331 = .ok (.aload_n 0, 1) := by decide +kernel
theorem dX12_init_332 : decode cX12_init 332 = .ok (.getfield 43, 3) := by decide +kernel
theorem dX12_init_335 : decode cX12_init 335 = .ok (.iconst 2, 1) := by decide +kernel
theorem dX12_init_336 : decode cX12_init 336 = .ok (.iconst 3, 1) := by decide +kernel
theorem dX12_init_337 : decode cX12_init 337 = .ok (.iastore, 1) := by decide +kernel
theorem dX12_init_338 : decode cX12_init 338 = .ok (.aload_n 0, 1) := by decide +kernel
theorem dX12_init_339 : decode cX12_init 339 = .ok (.getfield 43, 3) := by decide +kernel
theorem dX12_init_342 : decode cX12_init 342 = .ok (.iconst 3, 1) := by decide +kernel
theorem dX12_init_343 : decode cX12_init 343 = .ok (.iconst 2, 1) := by decide +kernel
theorem dX12_init_344 : decode cX12_init 344 = .ok (.iastore, 1) := by decide +kernel
theorem dX12_init_345 : decode cX12_init 345 = .ok (.aload_n 0, 1) := by decide +kernel
theorem dX12_init_346 : decode cX12_init 346 = .ok (.getfield 43, 3) := by decide +kernel
theorem dX12_init_349 : decode cX12_init 349 = .ok (.iconst 4, 1) := by decide +kernel
theorem dX12_init_350 : decode cX12_init 350 = .ok (.iconst 2, 1) := by decide +kernel
theorem dX12_init_351 : decode cX12_init 351 = .ok (.iastore, 1) := by decide +kernel
theorem dX12_init_352 : decode cX12_init 352 = .ok (.aload_n 0, 1) := by decide +kernel
theorem dX12_init_353 : decode cX12_init 353 = .ok (.getfield 43, 3) := by decide +kernel
theorem dX12_init_356 : decode cX12_init 356 = .ok (.iconst 5, 1) := by decide +kernel
theorem dX12_init_357 : decode cX12_init 357 = .ok (.iconst 5, 1) := by decide +kernel
theorem dX12_init_358 : decode cX12_init 358 = .ok (.iastore, 1) := by decide +kernel
theorem dX12_init_359 : decode cX12_init 359 = .ok (.aload_n 0, 1) := by decide +kernel
theorem dX12_init_360 : decode cX12_init 360 = .ok (.getfield 43, 3) := by decide +kernel
theorem dX12_init_363 : decode cX12_init 363 = .ok (.bipush 6, 2) := by decide +kernel
theorem dX12_init_365 : decode cX12_init 365 = .ok (.bipush 6, 2) := by decide +kernel
theorem dX12_init_367 : decode cX12_init 367 = .ok (.iastore, 1) := by decide +kernel
theorem dX12_init_368 : decode cX12_init 368 = .ok (.aload_n 0, 1) := by decide +kernel
theorem dX12_init_369 : decode cX12_init 369 = .ok (.getfield 46, 3) := by decide +kernel
theorem dX12_init_372 : decode cX12_init 372 = .ok (.iconst 0, 1) := by decide +kernel
theorem dX12_init_373 : decode cX12_init 373 = .ok (.iconst 1, 1) := by decide +kernel
theorem dX12_init_374 : decode cX12_init 374 = .ok (.iastore, 1) := by decide +kernel
theorem dX12_init_375 : decode cX12_init 375 = .ok (.aload_n 0, 1) := by decide +kernel
theorem dX12_init_376 : decode cX12_init 376 = .ok (.getfield 46, 3) := by decide +kernel
theorem dX12_init_379 : decode cX12_init 379 = .ok (.iconst 1, 1) := by decide +kernel
theorem dX12_init_380 : decode cX12_init 380 = .ok (.iconst 2, 1) := by decide +kernel
theorem dX12_init_381 : decode cX12_init 381 = .ok (.iastore, 1) := by decide +kernel
theorem dX12_init_382 : decode cX12_init 382 = .ok (.aload_n 0, 1) := by decide +kernel
theorem dX12_init_383 : decode cX12_init 383 = .ok (.getfield 46, 3) := by decide +kernel
theorem dX12_init_386 : decode cX12_init 386 = .ok (.iconst 2, 1) := by decide +kernel
theorem dX12_init_387 : decode cX12_init 387 = .ok (.iconst 2, 1) := by decide +kernel
theorem dX12_init_388 : decode cX12_init 388 = .ok (.iastore, 1) := by decide +kernel
theorem dX12_init_389 : decode cX12_init 389 = .ok (.aload_n 0, 1) := by decide +kernel
theorem dX12_init_390 : decode cX12_init 390 = .ok (.getfield 46, 3) := by decide +kernel
theorem dX12_init_393 : decode cX12_init 393 = .ok (.iconst 3, 1) := by decide +kernel
theorem dX12_init_394 : decode cX12_init 394 = .ok (.iconst 1, 1) := by decide +kernel
theorem dX12_init_395 : decode cX12_init 395 = .ok (.iastore, 1) := by decide +kernel
theorem dX12_init_396 : decode cX12_init 396 = .ok (.aload_n 0, 1) := by decide +kernel
theorem dX12_init_397 : decode cX12_init 397 = .ok (.getfield 46, 3) := by decide +kernel
theorem dX12_init_400 : decode cX12_init 400 = .ok (.iconst 4, 1) := by decide +kernel
theorem dX12_init_401 : decode cX12_init 401 = .ok (.iconst 1, 1) := by decide +kernel
theorem dX12_init_402 : decode cX12_init 402 = .ok (.iastore, 1) := by decide +kernel
theorem dX12_init_403 : decode cX12_init 403 = .ok (.aload_n 0, 1) := by decide +kernel
theorem dX12_init_404 : decode cX12_init 404 = .ok (.getfield 46, 3) := by decide +kernel
theorem dX12_init_407 : decode cX12_init 407 = .ok (.iconst 5, 1) := by decide +kernel
theorem dX12_init_408 : decode cX12_init 408 = .ok (.iconst 3, 1) := by decide +kernel
theorem dX12_init_409 : decode cX12_init 409 = .ok (.iastore, 1) := by decide +kernel
theorem dX12_init_410 : decode cX12_init 410 = .ok (.aload_n 0, 1) := by decide +kernel
theorem dX12_init_411 : decode cX12_init 411 = .ok (.getfield 46, 3) := by decide +kernel
theorem dX12_init_414 : decode cX12_init 414 = .ok (.bipush 6, 2) := by decide +kernel
theorem dX12_init_416 : decode cX12_init 416 = .ok (.iconst 3, 1) := by decide +kernel
theorem dX12_init_417 : decode cX12_init 417 = .ok (.iastore, 1) := by decide +kernel
theorem dX12_init_418 : decode cX12_init 418 = .ok (.aload_n 0, 1) := by decide +kernel
theorem dX12_init_419 : decode cX12_init 419 = .ok (.getfield 49, 3) := by decide +kernel
theorem dX12_init_422 : decode cX12_init 422 = .ok (.iconst 0, 1) := by decide +kernel
theorem dX12_init_423 : decode cX12_init 423 = .ok (.bipush 100, 2) := by decide +kernel
theorem dX12_init_425 : decode cX12_init 425 = .ok (.iastore, 1) := by decide +kernel
theorem dX12_init_426 : decode cX12_init 426 = .ok (.aload_n 0, 1) := by decide +kernel
theorem dX12_init_427 : decode cX12_init 427 = .ok (.getfield 49, 3) := by decide +kernel
theorem dX12_init_430 : decode cX12_init 430 = .ok (.iconst 1, 1) := by decide +kernel
theorem dX12_init_431 : decode cX12_init 431 = .ok (.bipush 80, 2) := by decide +kernel
theorem dX12_init_433 : decode cX12_init 433 = .ok (.iastore, 1) := by decide +kernel
theorem dX12_init_434 : decode cX12_init 434 = .ok (.aload_n 0, 1) := by decide +kernel
theorem dX12_init_435 : decode cX12_init 435 = .ok (.getfield 49, 3) := by decide +kernel
theorem dX12_init_438 : decode cX12_init 438 = .ok (.iconst 2, 1) := by decide +kernel
theorem dX12_init_439 : decode cX12_init 439 = .ok (.sipush 130, 3) := by decide +kernel
theorem dX12_init_442 : decode cX12_init 442 = .ok (.iastore, 1) := by decide +kernel
theorem dX12_init_443 : decode cX12_init 443 = .ok (.aload_n 0, 1) := by decide +kernel
theorem dX12_init_444 : decode cX12_init 444 = .ok (.getfield 49, 3) := by decide +kernel
theorem dX12_init_447 : decode cX12_init 447 = .ok (.iconst 3, 1) := by decide +kernel
theorem dX12_init_448 : decode cX12_init 448 = .ok (.iconst 1, 1) := by decide +kernel
theorem dX12_init_449 : decode cX12_init 449 = .ok (.iastore, 1) := by decide +kernel
theorem dX12_init_450 : decode cX12_init 450 = .ok (.aload_n 0, 1) := by decide +kernel
theorem dX12_init_451 : decode cX12_init 451 = .ok (.getfield 49, 3) := by decide +kernel
theorem dX12_init_454 : decode cX12_init 454 = .ok (.iconst 4, 1) := by decide +kernel
theorem dX12_init_455 : decode cX12_init 455 = .ok (.bipush 20, 2) := by decide +kernel
theorem dX12_init_457 : decode cX12_init 457 = .ok (.iastore, 1) := by decide +kernel
theorem dX12_init_458 : decode cX12_init 458 = .ok (.return_, 1) := by decide +kernel
def kX12_init_0 : List (Nat × zT) := [(0, a_aload 0 1), (1, a_obj 4), (4, a_aload 0 5), (5, a_i 400 8), (8, a_newI 10), (10, a_putR 12 0 13), (13, a_aload 0 14), (14, a_i 2 15), (15, a_newI 17), (17, a_putR 12 1 20), (20, a_aload 0 21), (21, a_i 1400 24), (24, a_newI 26), (26, a_putR 12 2 29), (29, a_aload 0 30), (30, a_i 133 33), (33, a_newI 35), (35, a_putR 12 3 38), (38, a_aload 0 39), (39, a_i 133 42), (42, a_newI 44), (44, a_putR 12 4 47), (47, a_aload 0 48), (48, a_i 7 50)]
theorem oX12_init_0 : ∀ q ∈ kX12_init_0, zSnd zty true RX12 cX12_init 2 none true q := List.forall_mem_cons.mpr ⟨ok_aload_n dX12_init_0 rfl, List.forall_mem_cons.mpr ⟨ok_obj dX12_init_1 w955 w25 w26, List.forall_mem_cons.mpr ⟨ok_aload_n dX12_init_4 rfl, List.forall_mem_cons.mpr ⟨ok_sipush dX12_init_5 (by decide), List.forall_mem_cons.mpr ⟨ok_newI dX12_init_8 rfl w44, List.forall_mem_cons.mpr ⟨ok_putR dX12_init_10 rfl rfl in12 tyX12 tyX12_ok nmX12 (by decide) rfl w957 rfl rfl (fun _ => ⟨rfl, rfl⟩), List.forall_mem_cons.mpr ⟨ok_aload_n dX12_init_13 rfl, List.forall_mem_cons.mpr ⟨ok_iconst dX12_init_14 (by decide), List.forall_mem_cons.mpr ⟨ok_newI dX12_init_15 rfl w44, List.forall_mem_cons.mpr ⟨ok_putR dX12_init_17 rfl rfl in12 tyX12 tyX12_ok nmX12 (by decide) rfl w958 rfl rfl (fun _ => ⟨rfl, rfl⟩), List.forall_mem_cons.mpr ⟨ok_aload_n dX12_init_20 rfl, List.forall_mem_cons.mpr ⟨ok_sipush dX12_init_21 (by decide), List.forall_mem_cons.mpr ⟨ok_newI dX12_init_24 rfl w44, List.forall_mem_cons.mpr ⟨ok_putR dX12_init_26 rfl rfl in12 tyX12 tyX12_ok nmX12 (by decide) rfl w959 rfl rfl (fun _ => ⟨rfl, rfl⟩), List.forall_mem_cons.mpr ⟨ok_aload_n dX12_init_29 rfl, List.forall_mem_cons.mpr ⟨ok_sipush dX12_init_30 (by decide), List.forall_mem_cons.mpr ⟨ok_newI dX12_init_33 rfl w44, List.forall_mem_cons.mpr ⟨ok_putR dX12_init_35 rfl rfl in12 tyX12 tyX12_ok nmX12 (by decide) rfl w960 rfl rfl (fun _ => ⟨rfl, rfl⟩), List.forall_mem_cons.mpr ⟨ok_aload_n dX12_init_38 rfl, List.forall_mem_cons.mpr ⟨ok_sipush dX12_init_39 (by decide), List.forall_mem_cons.mpr ⟨ok_newI dX12_init_42 rfl w44, List.forall_mem_cons.mpr ⟨ok_putR dX12_init_44 rfl rfl in12 tyX12 tyX12_ok nmX12 (by decide) rfl w961 rfl rfl (fun _ => ⟨rfl, rfl⟩), List.forall_mem_cons.mpr ⟨ok_aload_n dX12_init_47 rfl, List.forall_mem_cons.mpr ⟨ok_bipush dX12_init_48 (by decide), fun _ h => absurd h List.not_mem_nil⟩⟩⟩⟩⟩⟩⟩⟩⟩⟩⟩⟩⟩⟩⟩⟩⟩⟩⟩⟩⟩⟩⟩⟩
def kX12_init_1 : List (Nat × zT) := [(50, a_newI 52), (52, a_putR 12 5 55), (55, a_aload 0 56), (56, a_i 63 58), (58, a_newI 60), (60, a_putR 12 6 63), (63, a_aload 0 64), (64, a_i 7 66), (66, a_newI 68), (68, a_putR 12 7 71), (71, a_aload 0 72), (72, a_i 12 74), (74, a_newI 76), (76, a_putR 12 8 79), (79, a_aload 0 80), (80, a_i 3 81), (81, a_newI 83), (83, a_putR 12 9 86), (86, a_aload 0 87), (87, a_i 3 88), (88, a_newI 90), (90, a_putR 12 10 93), (93, a_aload 0 94), (94, a_i 7 96)]
theorem oX12_init_1 : ∀ q ∈ kX12_init_1, zSnd zty true RX12 cX12_init 2 none true q := List.forall_mem_cons.mpr ⟨ok_newI dX12_init_50 rfl w44, List.forall_mem_cons.mpr ⟨ok_putR dX12_init_52 rfl rfl in12 tyX12 tyX12_ok nmX12 (by decide) rfl w962 rfl rfl (fun _ => ⟨rfl, rfl⟩), List.forall_mem_cons.mpr ⟨ok_aload_n dX12_init_55 rfl, List.forall_mem_cons.mpr ⟨ok_bipush dX12_init_56 (by decide), List.forall_mem_cons.mpr ⟨ok_newI dX12_init_58 rfl w44, List.forall_mem_cons.mpr ⟨ok_putR dX12_init_60 rfl rfl in12 tyX12 tyX12_ok nmX12 (by decide) rfl w963 rfl rfl (fun _ => ⟨rfl, rfl⟩), List.forall_mem_cons.mpr ⟨ok_aload_n dX12_init_63 rfl, List.forall_mem_cons.mpr ⟨ok_bipush dX12_init_64 (by decide), List.forall_mem_cons.mpr ⟨ok_newI dX12_init_66 rfl w44, List.forall_mem_cons.mpr ⟨ok_putR dX12_init_68 rfl rfl in12 tyX12 tyX12_ok nmX12 (by decide) rfl w964 rfl rfl (fun _ => ⟨rfl, rfl⟩), List.forall_mem_cons.mpr ⟨ok_aload_n dX12_init_71 rfl, List.forall_mem_cons.mpr ⟨ok_bipush dX12_init_72 (by decide), List.forall_mem_cons.mpr ⟨ok_newI dX12_init_74 rfl w44, List.forall_mem_cons.mpr ⟨ok_putR dX12_init_76 rfl rfl in12 tyX12 tyX12_ok nmX12 (by decide) rfl w965 rfl rfl (fun _ => ⟨rfl, rfl⟩), List.forall_mem_cons.mpr ⟨ok_aload_n dX12_init_79 rfl, List.forall_mem_cons.mpr ⟨ok_iconst dX12_init_80 (by decide), List.forall_mem_cons.mpr ⟨ok_newI dX12_init_81 rfl w44, List.forall_mem_cons.mpr ⟨ok_putR dX12_init_83 rfl rfl in12 tyX12 tyX12_ok nmX12 (by decide) rfl w966 rfl rfl (fun _ => ⟨rfl, rfl⟩), List.forall_mem_cons.mpr ⟨ok_aload_n dX12_init_86 rfl, List.forall_mem_cons.mpr ⟨ok_iconst dX12_init_87 (by decide), List.forall_mem_cons.mpr ⟨ok_newI dX12_init_88 rfl w44, List.forall_mem_cons.mpr ⟨ok_putR dX12_init_90 rfl rfl in12 tyX12 tyX12_ok nmX12 (by decide) rfl w967 rfl rfl (fun _ => ⟨rfl, rfl⟩), List.forall_mem_cons.mpr ⟨ok_aload_n dX12_init_93 rfl, List.forall_mem_cons.mpr ⟨ok_bipush dX12_init_94 (by decide), fun _ h => absurd h List.not_mem_nil⟩⟩⟩⟩⟩⟩⟩⟩⟩⟩⟩⟩⟩⟩⟩⟩⟩⟩⟩⟩⟩⟩⟩⟩
def kX12_init_2 : List (Nat × zT) := [(96, a_newI 98), (98, a_putR 12 13 101), (101, a_aload 0 102), (102, a_i 7 104), (104, a_newI 106), (106, a_putR 12 14 109), (109, a_aload 0 110), (110, a_i 5 111), (111, a_newI 113), (113, a_putR 12 15 116), (116, a_aload 0 117), (117, a_i 19 119), (119, a_newI 121), (121, a_putR 12 16 124), (124, a_aload 0 125), (125, a_i 10 127), (127, a_newI 129), (129, a_putR 12 17 132), (132, a_aload 0 133), (133, a_i (-4) 135), (135, a_putI 12 18 138 false), (138, a_aload 0 139), (139, a_i 19 141), (141, a_newI 143)]
theorem oX12_init_2 : ∀ q ∈ kX12_init_2, zSnd zty true RX12 cX12_init 2 none true q := List.forall_mem_cons.mpr ⟨ok_newI dX12_init_96 rfl w44, List.forall_mem_cons.mpr ⟨ok_putR dX12_init_98 rfl rfl in12 tyX12 tyX12_ok nmX12 (by decide) rfl w970 rfl rfl (fun _ => ⟨rfl, rfl⟩), List.forall_mem_cons.mpr ⟨ok_aload_n dX12_init_101 rfl, List.forall_mem_cons.mpr ⟨ok_bipush dX12_init_102 (by decide), List.forall_mem_cons.mpr ⟨ok_newI dX12_init_104 rfl w44, List.forall_mem_cons.mpr ⟨ok_putR dX12_init_106 rfl rfl in12 tyX12 tyX12_ok nmX12 (by decide) rfl w971 rfl rfl (fun _ => ⟨rfl, rfl⟩), List.forall_mem_cons.mpr ⟨ok_aload_n dX12_init_109 rfl, List.forall_mem_cons.mpr ⟨ok_iconst dX12_init_110 (by decide), List.forall_mem_cons.mpr ⟨ok_newI dX12_init_111 rfl w44, List.forall_mem_cons.mpr ⟨ok_putR dX12_init_113 rfl rfl in12 tyX12 tyX12_ok nmX12 (by decide) rfl w972 rfl rfl (fun _ => ⟨rfl, rfl⟩), List.forall_mem_cons.mpr ⟨ok_aload_n dX12_init_116 rfl, List.forall_mem_cons.mpr ⟨ok_bipush dX12_init_117 (by decide), List.forall_mem_cons.mpr ⟨ok_newI dX12_init_119 rfl w44, List.forall_mem_cons.mpr ⟨ok_putR dX12_init_121 rfl rfl in12 tyX12 tyX12_ok nmX12 (by decide) rfl w973 rfl rfl (fun _ => ⟨rfl, rfl⟩), List.forall_mem_cons.mpr ⟨ok_aload_n dX12_init_124 rfl, List.forall_mem_cons.mpr ⟨ok_bipush dX12_init_125 (by decide), List.forall_mem_cons.mpr ⟨ok_newI dX12_init_127 rfl w44, List.forall_mem_cons.mpr ⟨ok_putR dX12_init_129 rfl rfl in12 tyX12 tyX12_ok nmX12 (by decide) rfl w974 rfl rfl (fun _ => ⟨rfl, rfl⟩), List.forall_mem_cons.mpr ⟨ok_aload_n dX12_init_132 rfl, List.forall_mem_cons.mpr ⟨ok_bipush dX12_init_133 (by decide), List.forall_mem_cons.mpr ⟨ok_putI (bz := false) dX12_init_135 rfl in12 tyX12 tyX12_ok nmX12 (by decide) rfl w975 rfl rfl, List.forall_mem_cons.mpr ⟨ok_aload_n dX12_init_138 rfl, List.forall_mem_cons.mpr ⟨ok_bipush dX12_init_139 (by decide), List.forall_mem_cons.mpr ⟨ok_newI dX12_init_141 rfl w44, fun _ h => absurd h List.not_mem_nil⟩⟩⟩⟩⟩⟩⟩⟩⟩⟩⟩⟩⟩⟩⟩⟩⟩⟩⟩⟩⟩⟩⟩⟩
def kX12_init_3 : List (Nat × zT) := [(143, a_putR 12 20 146), (146, a_aload 0 147), (147, a_i 10 149), (149, a_newI 151), (151, a_putR 12 21 154), (154, a_aload 0 155), (155, a_i 10 157), (157, a_newI 159), (159, a_putR 12 22 162), (162, a_aload 0 163), (163, a_i 19 165), (165, a_newI 167), (167, a_putR 12 23 170), (170, a_aload 0 171), (171, a_i 19 173), (173, a_newI 175), (175, a_putR 12 24 178), (178, a_aload 0 179), (179, a_i 10 181), (181, a_newI 183), (183, a_putR 12 25 186), (186, a_aload 0 187), (187, a_i 10 189), (189, a_newI 191)]
theorem oX12_init_3 : ∀ q ∈ kX12_init_3, zSnd zty true RX12 cX12_init 2 none true q := List.forall_mem_cons.mpr ⟨ok_putR dX12_init_143 rfl rfl in12 tyX12 tyX12_ok nmX12 (by decide) rfl w977 rfl rfl (fun _ => ⟨rfl, rfl⟩), List.forall_mem_cons.mpr ⟨ok_aload_n dX12_init_146 rfl, List.forall_mem_cons.mpr ⟨ok_bipush dX12_init_147 (by decide), List.forall_mem_cons.mpr ⟨ok_newI dX12_init_149 rfl w44, List.forall_mem_cons.mpr ⟨ok_putR dX12_init_151 rfl rfl in12 tyX12 tyX12_ok nmX12 (by decide) rfl w978 rfl rfl (fun _ => ⟨rfl, rfl⟩), List.forall_mem_cons.mpr ⟨ok_aload_n dX12_init_154 rfl, List.forall_mem_cons.mpr ⟨ok_bipush dX12_init_155 (by decide), List.forall_mem_cons.mpr ⟨ok_newI dX12_init_157 rfl w44, List.forall_mem_cons.mpr ⟨ok_putR dX12_init_159 rfl rfl in12 tyX12 tyX12_ok nmX12 (by decide) rfl w979 rfl rfl (fun _ => ⟨rfl, rfl⟩), List.forall_mem_cons.mpr ⟨ok_aload_n dX12_init_162 rfl, List.forall_mem_cons.mpr ⟨ok_bipush dX12_init_163 (by decide), List.forall_mem_cons.mpr ⟨ok_newI dX12_init_165 rfl w44, List.forall_mem_cons.mpr ⟨ok_putR dX12_init_167 rfl rfl in12 tyX12 tyX12_ok nmX12 (by decide) rfl w980 rfl rfl (fun _ => ⟨rfl, rfl⟩), List.forall_mem_cons.mpr ⟨ok_aload_n dX12_init_170 rfl, List.forall_mem_cons.mpr ⟨ok_bipush dX12_init_171 (by decide), List.forall_mem_cons.mpr ⟨ok_newI dX12_init_173 rfl w44, List.forall_mem_cons.mpr ⟨ok_putR dX12_init_175 rfl rfl in12 tyX12 tyX12_ok nmX12 (by decide) rfl w981 rfl rfl (fun _ => ⟨rfl, rfl⟩), List.forall_mem_cons.mpr ⟨ok_aload_n dX12_init_178 rfl, List.forall_mem_cons.mpr ⟨ok_bipush dX12_init_179 (by decide), List.forall_mem_cons.mpr ⟨ok_newI dX12_init_181 rfl w44, List.forall_mem_cons.mpr ⟨ok_putR dX12_init_183 rfl rfl in12 tyX12 tyX12_ok nmX12 (by decide) rfl w982 rfl rfl (fun _ => ⟨rfl, rfl⟩), List.forall_mem_cons.mpr ⟨ok_aload_n dX12_init_186 rfl, List.forall_mem_cons.mpr ⟨ok_bipush dX12_init_187 (by decide), List.forall_mem_cons.mpr ⟨ok_newI dX12_init_189 rfl w44, fun _ h => absurd h List.not_mem_nil⟩⟩⟩⟩⟩⟩⟩⟩⟩⟩⟩⟩⟩⟩⟩⟩⟩⟩⟩⟩⟩⟩⟩⟩
def kX12_init_4 : List (Nat × zT) := [(191, a_putR 12 26 194), (194, a_aload 0 195), (195, a_i 7 197), (197, a_newI 199), (199, a_putR 12 28 202), (202, a_aload 0 203), (203, a_i 8 205), (205, a_newI 207), (207, a_putR 12 30 210), (210, a_aload 0 211), (211, a_i 7 213), (213, a_newI 215), (215, a_putR 12 31 218), (218, a_aload 0 219), (219, a_i 7 221), (221, a_newI 223), (223, a_putR 12 32 226), (226, a_aload 0 227), (227, a_i 10 229), (229, a_newI 231), (231, a_putR 12 34 234), (234, a_aload 0 235), (235, a_i 10 237), (237, a_newI 239)]
theorem oX12_init_4 : ∀ q ∈ kX12_init_4, zSnd zty true RX12 cX12_init 2 none true q := List.forall_mem_cons.mpr ⟨ok_putR dX12_init_191 rfl rfl in12 tyX12 tyX12_ok nmX12 (by decide) rfl w983 rfl rfl (fun _ => ⟨rfl, rfl⟩), List.forall_mem_cons.mpr ⟨ok_aload_n dX12_init_194 rfl, List.forall_mem_cons.mpr ⟨ok_bipush dX12_init_195 (by decide), List.forall_mem_cons.mpr ⟨ok_newI dX12_init_197 rfl w44, List.forall_mem_cons.mpr ⟨ok_putR dX12_init_199 rfl rfl in12 tyX12 tyX12_ok nmX12 (by decide) rfl w985 rfl rfl (fun _ => ⟨rfl, rfl⟩), List.forall_mem_cons.mpr ⟨ok_aload_n dX12_init_202 rfl, List.forall_mem_cons.mpr ⟨ok_bipush dX12_init_203 (by decide), List.forall_mem_cons.mpr ⟨ok_newI dX12_init_205 rfl w44, List.forall_mem_cons.mpr ⟨ok_putR dX12_init_207 rfl rfl in12 tyX12 tyX12_ok nmX12 (by decide) rfl w987 rfl rfl (fun _ => ⟨rfl, rfl⟩), List.forall_mem_cons.mpr ⟨ok_aload_n dX12_init_210 rfl, List.forall_mem_cons.mpr ⟨ok_bipush dX12_init_211 (by decide), List.forall_mem_cons.mpr ⟨ok_newI dX12_init_213 rfl w44, List.forall_mem_cons.mpr ⟨ok_putR dX12_init_215 rfl rfl in12 tyX12 tyX12_ok nmX12 (by decide) rfl w988 rfl rfl (fun _ => ⟨rfl, rfl⟩), List.forall_mem_cons.mpr ⟨ok_aload_n dX12_init_218 rfl, List.forall_mem_cons.mpr ⟨ok_bipush dX12_init_219 (by decide), List.forall_mem_cons.mpr ⟨ok_newI dX12_init_221 rfl w44, List.forall_mem_cons.mpr ⟨ok_putR dX12_init_223 rfl rfl in12 tyX12 tyX12_ok nmX12 (by decide) rfl w989 rfl rfl (fun _ => ⟨rfl, rfl⟩), List.forall_mem_cons.mpr ⟨ok_aload_n dX12_init_226 rfl, List.forall_mem_cons.mpr ⟨ok_bipush dX12_init_227 (by decide), List.forall_mem_cons.mpr ⟨ok_newI dX12_init_229 rfl w44, List.forall_mem_cons.mpr ⟨ok_putR dX12_init_231 rfl rfl in12 tyX12 tyX12_ok nmX12 (by decide) rfl w991 rfl rfl (fun _ => ⟨rfl, rfl⟩), List.forall_mem_cons.mpr ⟨ok_aload_n dX12_init_234 rfl, List.forall_mem_cons.mpr ⟨ok_bipush dX12_init_235 (by decide), List.forall_mem_cons.mpr ⟨ok_newI dX12_init_237 rfl w44, fun _ h => absurd h List.not_mem_nil⟩⟩⟩⟩⟩⟩⟩⟩⟩⟩⟩⟩⟩⟩⟩⟩⟩⟩⟩⟩⟩⟩⟩⟩
def kX12_init_5 : List (Nat × zT) := [(239, a_putR 12 35 242), (242, a_aload 0 243), (243, a_i 10 245), (245, a_newJ 247), (247, a_putR 12 36 250), (250, a_aload 0 251), (251, a_i 39 253), (253, a_newI 255), (255, a_putR 12 38 258), (258, a_aload 0 259), (259, a_i 39 261), (261, a_newI 263), (263, a_putR 12 39 266), (266, a_i 0 267), (267, a_istore 1 268), (268, a_iload 1 269), (269, a_i 133 272), (272, a_ic_ge 289 275), (275, a_aload 0 276), (276, a_getR 12 4 279), (279, a_iload 1 280), (280, a_i (-4) 282), (282, a_iast 283), (283, a_iinc 1 1 286)]
theorem oX12_init_5 : ∀ q ∈ kX12_init_5, zSnd zty true RX12 cX12_init 2 none true q := List.forall_mem_cons.mpr ⟨ok_putR dX12_init_239 rfl rfl in12 tyX12 tyX12_ok nmX12 (by decide) rfl w992 rfl rfl (fun _ => ⟨rfl, rfl⟩), List.forall_mem_cons.mpr ⟨ok_aload_n dX12_init_242 rfl, List.forall_mem_cons.mpr ⟨ok_bipush dX12_init_243 (by decide), List.forall_mem_cons.mpr ⟨ok_newJ dX12_init_245 rfl w182, List.forall_mem_cons.mpr ⟨ok_putR dX12_init_247 rfl rfl in12 tyX12 tyX12_ok nmX12 (by decide) rfl w993 rfl rfl (fun _ => ⟨rfl, rfl⟩), List.forall_mem_cons.mpr ⟨ok_aload_n dX12_init_250 rfl, List.forall_mem_cons.mpr ⟨ok_bipush dX12_init_251 (by decide), List.forall_mem_cons.mpr ⟨ok_newI dX12_init_253 rfl w44, List.forall_mem_cons.mpr ⟨ok_putR dX12_init_255 rfl rfl in12 tyX12 tyX12_ok nmX12 (by decide) rfl w995 rfl rfl (fun _ => ⟨rfl, rfl⟩), List.forall_mem_cons.mpr ⟨ok_aload_n dX12_init_258 rfl, List.forall_mem_cons.mpr ⟨ok_bipush dX12_init_259 (by decide), List.forall_mem_cons.mpr ⟨ok_newI dX12_init_261 rfl w44, List.forall_mem_cons.mpr ⟨ok_putR dX12_init_263 rfl rfl in12 tyX12 tyX12_ok nmX12 (by decide) rfl w996 rfl rfl (fun _ => ⟨rfl, rfl⟩), List.forall_mem_cons.mpr ⟨ok_iconst dX12_init_266 (by decide), List.forall_mem_cons.mpr ⟨ok_istore_n dX12_init_267 rfl (by decide), List.forall_mem_cons.mpr ⟨ok_iload_n dX12_init_268 rfl, List.forall_mem_cons.mpr ⟨ok_sipush dX12_init_269 (by decide), List.forall_mem_cons.mpr ⟨ok_ic_ge dX12_init_272 (by decide), List.forall_mem_cons.mpr ⟨ok_aload_n dX12_init_275 rfl, List.forall_mem_cons.mpr ⟨ok_getR dX12_init_276 rfl in12 (by decide) rfl w961, List.forall_mem_cons.mpr ⟨ok_iload_n dX12_init_279 rfl, List.forall_mem_cons.mpr ⟨ok_bipush dX12_init_280 (by decide), List.forall_mem_cons.mpr ⟨ok_iast dX12_init_282, List.forall_mem_cons.mpr ⟨ok_iinc dX12_init_283 (by decide) (by decide), fun _ h => absurd h List.not_mem_nil⟩⟩⟩⟩⟩⟩⟩⟩⟩⟩⟩⟩⟩⟩⟩⟩⟩⟩⟩⟩⟩⟩⟩⟩
def kX12_init_6 : List (Nat × zT) := [(286, a_goto 268), (289, a_i 0 290), (290, a_istore 1 291), (291, a_iload 1 292), (292, a_i 4 293), (293, a_ic_ge 309 296), (296, a_aload 0 297), (297, a_getR 12 8 300), (300, a_iload 1 301), (301, a_i 2 302), (302, a_iast 303), (303, a_iinc 1 1 306), (306, a_goto 291), (309, a_aload 0 310), (310, a_getR 12 10 313), (313, a_i 0 314), (314, a_i 524224 316), (316, a_iast 317), (317, a_aload 0 318), (318, a_getR 12 13 321), (321, a_i 0 322), (322, a_i 1 323), (323, a_iast 324), (324, a_aload 0 325)]
theorem oX12_init_6 : ∀ q ∈ kX12_init_6, zSnd zty true RX12 cX12_init 2 none true q := List.forall_mem_cons.mpr ⟨ok_goto dX12_init_286 (by decide), List.forall_mem_cons.mpr ⟨ok_iconst dX12_init_289 (by decide), List.forall_mem_cons.mpr ⟨ok_istore_n dX12_init_290 rfl (by decide), List.forall_mem_cons.mpr ⟨ok_iload_n dX12_init_291 rfl, List.forall_mem_cons.mpr ⟨ok_iconst dX12_init_292 (by decide), List.forall_mem_cons.mpr ⟨ok_ic_ge dX12_init_293 (by decide), List.forall_mem_cons.mpr ⟨ok_aload_n dX12_init_296 rfl, List.forall_mem_cons.mpr ⟨ok_getR dX12_init_297 rfl in12 (by decide) rfl w965, List.forall_mem_cons.mpr ⟨ok_iload_n dX12_init_300 rfl, List.forall_mem_cons.mpr ⟨ok_iconst dX12_init_301 (by decide), List.forall_mem_cons.mpr ⟨ok_iast dX12_init_302, List.forall_mem_cons.mpr ⟨ok_iinc dX12_init_303 (by decide) (by decide), List.forall_mem_cons.mpr ⟨ok_goto dX12_init_306 (by decide), List.forall_mem_cons.mpr ⟨ok_aload_n dX12_init_309 rfl, List.forall_mem_cons.mpr ⟨ok_getR dX12_init_310 rfl in12 (by decide) rfl w967, List.forall_mem_cons.mpr ⟨ok_iconst dX12_init_313 (by decide), List.forall_mem_cons.mpr ⟨ok_ldc dX12_init_314 w956, List.forall_mem_cons.mpr ⟨ok_iast dX12_init_316, List.forall_mem_cons.mpr ⟨ok_aload_n dX12_init_317 rfl, List.forall_mem_cons.mpr ⟨ok_getR dX12_init_318 rfl in12 (by decide) rfl w970, List.forall_mem_cons.mpr ⟨ok_iconst dX12_init_321 (by decide), List.forall_mem_cons.mpr ⟨ok_iconst dX12_init_322 (by decide), List.forall_mem_cons.mpr ⟨ok_iast dX12_init_323, List.forall_mem_cons.mpr ⟨ok_aload_n dX12_init_324 rfl, fun _ h => absurd h List.not_mem_nil⟩⟩⟩⟩⟩⟩⟩⟩⟩⟩⟩⟩⟩⟩⟩⟩⟩⟩⟩⟩⟩⟩⟩⟩
def kX12_init_7 : List (Nat × zT) := [(325, a_getR 12 13 328), (328, a_i 1 329), (329, a_i 3 330), (330, a_iast 331), (331, a_aload 0 332), (332, a_getR 12 13 335), (335, a_i 2 336), (336, a_i 3 337), (337, a_iast 338), (338, a_aload 0 339), (339, a_getR 12 13 342), (342, a_i 3 343), (343, a_i 2 344), (344, a_iast 345), (345, a_aload 0 346), (346, a_getR 12 13 349), (349, a_i 4 350), (350, a_i 2 351), (351, a_iast 352), (352, a_aload 0 353), (353, a_getR 12 13 356), (356, a_i 5 357), (357, a_i 5 358), (358, a_iast 359)]
theorem oX12_init_7 : ∀ q ∈ kX12_init_7, zSnd zty true RX12 cX12_init 2 none true q := List.forall_mem_cons.mpr ⟨ok_getR dX12_init_325 rfl in12 (by decide) rfl w970, List.forall_mem_cons.mpr ⟨ok_iconst dX12_init_328 (by decide), List.forall_mem_cons.mpr ⟨ok_iconst dX12_init_329 (by decide), List.forall_mem_cons.mpr ⟨ok_iast dX12_init_330, List.forall_mem_cons.mpr ⟨ok_aload_n dX12_init_331 rfl, List.forall_mem_cons.mpr ⟨ok_getR dX12_init_332 rfl in12 (by decide) rfl w970, List.forall_mem_cons.mpr ⟨ok_iconst dX12_init_335 (by decide), List.forall_mem_cons.mpr ⟨ok_iconst dX12_init_336 (by decide), List.forall_mem_cons.mpr ⟨ok_iast dX12_init_337, List.forall_mem_cons.mpr ⟨ok_aload_n dX12_init_338 rfl, List.forall_mem_cons.mpr ⟨ok_getR dX12_init_339 rfl in12 (by decide) rfl w970, List.forall_mem_cons.mpr ⟨ok_iconst dX12_init_342 (by decide), List.forall_mem_cons.mpr ⟨ok_iconst dX12_init_343 (by decide), List.forall_mem_cons.mpr ⟨ok_iast dX12_init_344, List.forall_mem_cons.mpr ⟨ok_aload_n dX12_init_345 rfl, List.forall_mem_cons.mpr ⟨ok_getR dX12_init_346 rfl in12 (by decide) rfl w970, List.forall_mem_cons.mpr ⟨ok_iconst dX12_init_349 (by decide), List.forall_mem_cons.mpr ⟨ok_iconst dX12_init_350 (by decide), List.forall_mem_cons.mpr ⟨ok_iast dX12_init_351, List.forall_mem_cons.mpr ⟨ok_aload_n dX12_init_352 rfl, List.forall_mem_cons.mpr ⟨ok_getR dX12_init_353 rfl in12 (by decide) rfl w970, List.forall_mem_cons.mpr ⟨ok_iconst dX12_init_356 (by decide), List.forall_mem_cons.mpr ⟨ok_iconst dX12_init_357 (by decide), List.forall_mem_cons.mpr ⟨ok_iast dX12_init_358, fun _ h => absurd h List.not_mem_nil⟩⟩⟩⟩⟩⟩⟩⟩⟩⟩⟩⟩⟩⟩⟩⟩⟩⟩⟩⟩⟩⟩⟩⟩
def kX12_init_8 : List (Nat × zT) := [(359, a_aload 0 360), (360, a_getR 12 13 363), (363, a_i 6 365), (365, a_i 6 367), (367, a_iast 368), (368, a_aload 0 369), (369, a_getR 12 14 372), (372, a_i 0 373), (373, a_i 1 374), (374, a_iast 375), (375, a_aload 0 376), (376, a_getR 12 14 379), (379, a_i 1 380), (380, a_i 2 381), (381, a_iast 382), (382, a_aload 0 383), (383, a_getR 12 14 386), (386, a_i 2 387), (387, a_i 2 388), (388, a_iast 389), (389, a_aload 0 390), (390, a_getR 12 14 393), (393, a_i 3 394), (394, a_i 1 395)]
theorem oX12_init_8 : ∀ q ∈ kX12_init_8, zSnd zty true RX12 cX12_init 2 none true q := List.forall_mem_cons.mpr ⟨ok_aload_n dX12_init_359 rfl, List.forall_mem_cons.mpr ⟨ok_getR dX12_init_360 rfl in12 (by decide) rfl w970, List.forall_mem_cons.mpr ⟨ok_bipush dX12_init_363 (by decide), List.forall_mem_cons.mpr ⟨ok_bipush dX12_init_365 (by decide), List.forall_mem_cons.mpr ⟨ok_iast dX12_init_367, List.forall_mem_cons.mpr ⟨ok_aload_n dX12_init_368 rfl, List.forall_mem_cons.mpr ⟨ok_getR dX12_init_369 rfl in12 (by decide) rfl w971, List.forall_mem_cons.mpr ⟨ok_iconst dX12_init_372 (by decide), List.forall_mem_cons.mpr ⟨ok_iconst dX12_init_373 (by decide), List.forall_mem_cons.mpr ⟨ok_iast dX12_init_374, List.forall_mem_cons.mpr ⟨ok_aload_n dX12_init_375 rfl, List.forall_mem_cons.mpr ⟨ok_getR dX12_init_376 rfl in12 (by decide) rfl w971, List.forall_mem_cons.mpr ⟨ok_iconst dX12_init_379 (by decide), List.forall_mem_cons.mpr ⟨ok_iconst dX12_init_380 (by decide), List.forall_mem_cons.mpr ⟨ok_iast dX12_init_381, List.forall_mem_cons.mpr ⟨ok_aload_n dX12_init_382 rfl, List.forall_mem_cons.mpr ⟨ok_getR dX12_init_383 rfl in12 (by decide) rfl w971, List.forall_mem_cons.mpr ⟨ok_iconst dX12_init_386 (by decide), List.forall_mem_cons.mpr ⟨ok_iconst dX12_init_387 (by decide), List.forall_mem_cons.mpr ⟨ok_iast dX12_init_388, List.forall_mem_cons.mpr ⟨ok_aload_n dX12_init_389 rfl, List.forall_mem_cons.mpr ⟨ok_getR dX12_init_390 rfl in12 (by decide) rfl w971, List.forall_mem_cons.mpr ⟨ok_iconst dX12_init_393 (by decide), List.forall_mem_cons.mpr ⟨ok_iconst dX12_init_394 (by decide), fun _ h => absurd h List.not_mem_nil⟩⟩⟩⟩⟩⟩⟩⟩⟩⟩⟩⟩⟩⟩⟩⟩⟩⟩⟩⟩⟩⟩⟩⟩
def kX12_init_9 : List (Nat × zT) := [(395, a_iast 396), (396, a_aload 0 397), (397, a_getR 12 14 400), (400, a_i 4 401), (401, a_i 1 402), (402, a_iast 403), (403, a_aload 0 404), (404, a_getR 12 14 407), (407, a_i 5 408), (408, a_i 3 409), (409, a_iast 410), (410, a_aload 0 411), (411, a_getR 12 14 414), (414, a_i 6 416), (416, a_i 3 417), (417, a_iast 418), (418, a_aload 0 419), (419, a_getR 12 15 422), (422, a_i 0 423), (423, a_i 100 425), (425, a_iast 426), (426, a_aload 0 427), (427, a_getR 12 15 430), (430, a_i 1 431)]
theorem oX12_init_9 : ∀ q ∈ kX12_init_9, zSnd zty true RX12 cX12_init 2 none true q := List.forall_mem_cons.mpr ⟨ok_iast dX12_init_395, List.forall_mem_cons.mpr ⟨ok_aload_n dX12_init_396 rfl, List.forall_mem_cons.mpr ⟨ok_getR dX12_init_397 rfl in12 (by decide) rfl w971, List.forall_mem_cons.mpr ⟨ok_iconst dX12_init_400 (by decide), List.forall_mem_cons.mpr ⟨ok_iconst dX12_init_401 (by decide), List.forall_mem_cons.mpr ⟨ok_iast dX12_init_402, List.forall_mem_cons.mpr ⟨ok_aload_n dX12_init_403 rfl, List.forall_mem_cons.mpr ⟨ok_getR dX12_init_404 rfl in12 (by decide) rfl w971, List.forall_mem_cons.mpr ⟨ok_iconst dX12_init_407 (by decide), List.forall_mem_cons.mpr ⟨ok_iconst dX12_init_408 (by decide), List.forall_mem_cons.mpr ⟨ok_iast dX12_init_409, List.forall_mem_cons.mpr ⟨ok_aload_n dX12_init_410 rfl, List.forall_mem_cons.mpr ⟨ok_getR dX12_init_411 rfl in12 (by decide) rfl w971, List.forall_mem_cons.mpr ⟨ok_bipush dX12_init_414 (by decide), List.forall_mem_cons.mpr ⟨ok_iconst dX12_init_416 (by decide), List.forall_mem_cons.mpr ⟨ok_iast dX12_init_417, List.forall_mem_cons.mpr ⟨ok_aload_n dX12_init_418 rfl, List.forall_mem_cons.mpr ⟨ok_getR dX12_init_419 rfl in12 (by decide) rfl w972, List.forall_mem_cons.mpr ⟨ok_iconst dX12_init_422 (by decide), List.forall_mem_cons.mpr ⟨ok_bipush dX12_init_423 (by decide), List.forall_mem_cons.mpr ⟨ok_iast dX12_init_425, List.forall_mem_cons.mpr ⟨ok_aload_n dX12_init_426 rfl, List.forall_mem_cons.mpr ⟨ok_getR dX12_init_427 rfl in12 (by decide) rfl w972, List.forall_mem_cons.mpr ⟨ok_iconst dX12_init_430 (by decide), fun _ h => absurd h List.not_mem_nil⟩⟩⟩⟩⟩⟩⟩⟩⟩⟩⟩⟩⟩⟩⟩⟩⟩⟩⟩⟩⟩⟩⟩⟩
def kX12_init_10 : List (Nat × zT) := [(431, a_i 80 433), (433, a_iast 434), (434, a_aload 0 435), (435, a_getR 12 15 438), (438, a_i 2 439), (439, a_i 130 442), (442, a_iast 443), (443, a_aload 0 444), (444, a_getR 12 15 447), (447, a_i 3 448), (448, a_i 1 449), (449, a_iast 450), (450, a_aload 0 451), (451, a_getR 12 15 454), (454, a_i 4 455), (455, a_i 20 457), (457, a_iast 458), (458, a_vret)]
theorem oX12_init_10 : ∀ q ∈ kX12_init_10, zSnd zty true RX12 cX12_init 2 none true q := List.forall_mem_cons.mpr ⟨ok_bipush dX12_init_431 (by decide), List.forall_mem_cons.mpr ⟨ok_iast dX12_init_433, List.forall_mem_cons.mpr ⟨ok_aload_n dX12_init_434 rfl, List.forall_mem_cons.mpr ⟨ok_getR dX12_init_435 rfl in12 (by decide) rfl w972, List.forall_mem_cons.mpr ⟨ok_iconst dX12_init_438 (by decide), List.forall_mem_cons.mpr ⟨ok_sipush dX12_init_439 (by decide), List.forall_mem_cons.mpr ⟨ok_iast dX12_init_442, List.forall_mem_cons.mpr ⟨ok_aload_n dX12_init_443 rfl, List.forall_mem_cons.mpr ⟨ok_getR dX12_init_444 rfl in12 (by decide) rfl w972, List.forall_mem_cons.mpr ⟨ok_iconst dX12_init_447 (by decide), List.forall_mem_cons.mpr ⟨ok_iconst dX12_init_448 (by decide), List.forall_mem_cons.mpr ⟨ok_iast dX12_init_449, List.forall_mem_cons.mpr ⟨ok_aload_n dX12_init_450 rfl, List.forall_mem_cons.mpr ⟨ok_getR dX12_init_451 rfl in12 (by decide) rfl w972, List.forall_mem_cons.mpr ⟨ok_iconst dX12_init_454 (by decide), List.forall_mem_cons.mpr ⟨ok_bipush dX12_init_455 (by decide), List.forall_mem_cons.mpr ⟨ok_iast dX12_init_457, List.forall_mem_cons.mpr ⟨ok_vret dX12_init_458 rfl, fun _ h => absurd h List.not_mem_nil⟩⟩⟩⟩⟩⟩⟩⟩⟩⟩⟩⟩⟩⟩⟩⟩⟩⟩
def kX12_init : List (Nat × zT) := kX12_init_0 ++ (kX12_init_1 ++ (kX12_init_2 ++ (kX12_init_3 ++ (kX12_init_4 ++ (kX12_init_5 ++ (kX12_init_6 ++ (kX12_init_7 ++ (kX12_init_8 ++ (kX12_init_9 ++ (kX12_init_10))))))))))
theorem qX12_init_0 : ∀ q ∈ kX12_init_0, q ∈ kX12_init := fun _ h => (List.mem_append_left _ h)
theorem tX12_init_0 : (0, a_aload 0 1) ∈ kX12_init := qX12_init_0 _ (List.mem_of_getElem? (i := 0) rfl)
theorem tX12_init_1 : (1, a_obj 4) ∈ kX12_init := qX12_init_0 _ (List.mem_of_getElem? (i := 1) rfl)
theorem tX12_init_4 : (4, a_aload 0 5) ∈ kX12_init := qX12_init_0 _ (List.mem_of_getElem? (i := 2) rfl)
theorem tX12_init_5 : (5, a_i 400 8) ∈ kX12_init := qX12_init_0 _ (List.mem_of_getElem? (i := 3) rfl)
theorem tX12_init_8 : (8, a_newI 10) ∈ kX12_init := qX12_init_0 _ (List.mem_of_getElem? (i := 4) rfl)
theorem tX12_init_10 : (10, a_putR 12 0 13) ∈ kX12_init := qX12_init_0 _ (List.mem_of_getElem? (i := 5) rfl)
theorem tX12_init_13 : (13, a_aload 0 14) ∈ kX12_init := qX12_init_0 _ (List.mem_of_getElem? (i := 6) rfl)
theorem tX12_init_14 : (14, a_i 2 15) ∈ kX12_init := qX12_init_0 _ (List.mem_of_getElem? (i := 7) rfl)
theorem tX12_init_15 : (15, a_newI 17) ∈ kX12_init := qX12_init_0 _ (List.mem_of_getElem? (i := 8) rfl)
theorem tX12_init_17 : (17, a_putR 12 1 20) ∈ kX12_init := qX12_init_0 _ (List.mem_of_getElem? (i := 9) rfl)
theorem tX12_init_20 : (20, a_aload 0 21) ∈ kX12_init := qX12_init_0 _ (List.mem_of_getElem? (i := 10) rfl)
theorem tX12_init_21 : (21, a_i 1400 24) ∈ kX12_init := qX12_init_0 _ (List.mem_of_getElem? (i := 11) rfl)
theorem tX12_init_24 : (24, a_newI 26) ∈ kX12_init := qX12_init_0 _ (List.mem_of_getElem? (i := 12) rfl)
theorem tX12_init_26 : (26, a_putR 12 2 29) ∈ kX12_init := qX12_init_0 _ (List.mem_of_getElem? (i := 13) rfl)
theorem tX12_init_29 : (29, a_aload 0 30) ∈ kX12_init := qX12_init_0 _ (List.mem_of_getElem? (i := 14) rfl)
theorem tX12_init_30 : (30, a_i 133 33) ∈ kX12_init := qX12_init_0 _ (List.mem_of_getElem? (i := 15) rfl)
theorem tX12_init_33 : (33, a_newI 35) ∈ kX12_init := qX12_init_0 _ (List.mem_of_getElem? (i := 16) rfl)
theorem tX12_init_35 : (35, a_putR 12 3 38) ∈ kX12_init := qX12_init_0 _ (List.mem_of_getElem? (i := 17) rfl)
theorem tX12_init_38 : (38, a_aload 0 39) ∈ kX12_init := qX12_init_0 _ (List.mem_of_getElem? (i := 18) rfl)
theorem tX12_init_39 : (39, a_i 133 42) ∈ kX12_init := qX12_init_0 _ (List.mem_of_getElem? (i := 19) rfl)
theorem tX12_init_42 : (42, a_newI 44) ∈ kX12_init := qX12_init_0 _ (List.mem_of_getElem? (i := 20) rfl)
theorem tX12_init_44 : (44, a_putR 12 4 47) ∈ kX12_init := qX12_init_0 _ (List.mem_of_getElem? (i := 21) rfl)
theorem tX12_init_47 : (47, a_aload 0 48) ∈ kX12_init := qX12_init_0 _ (List.mem_of_getElem? (i := 22) rfl)
theorem tX12_init_48 : (48, a_i 7 50) ∈ kX12_init := qX12_init_0 _ (List.mem_of_getElem? (i := 23) rfl)
theorem qX12_init_1 : ∀ q ∈ kX12_init_1, q ∈ kX12_init := fun _ h => (List.mem_append_right _ (List.mem_append_left _ h))
theorem tX12_init_50 : (50, a_newI 52) ∈ kX12_init := qX12_init_1 _ (List.mem_of_getElem? (i := 0) rfl)
theorem tX12_init_52 : (52, a_putR 12 5 55) ∈ kX12_init := qX12_init_1 _ (List.mem_of_getElem? (i := 1) rfl)
theorem tX12_init_55 : (55, a_aload 0 56) ∈ kX12_init := qX12_init_1 _ (List.mem_of_getElem? (i := 2) rfl)
theorem tX12_init_56 : (56, a_i 63 58) ∈ kX12_init := qX12_init_1 _ (List.mem_of_getElem? (i := 3) rfl)
theorem tX12_init_58 : (58, a_newI 60) ∈ kX12_init := qX12_init_1 _ (List.mem_of_getElem? (i := 4) rfl)
theorem tX12_init_60 : (60, a_putR 12 6 63) ∈ kX12_init := qX12_init_1 _ (List.mem_of_getElem? (i := 5) rfl)
theorem tX12_init_63 : (63, a_aload 0 64) ∈ kX12_init := qX12_init_1 _ (List.mem_of_getElem? (i := 6) rfl)
theorem tX12_init_64 : (64, a_i 7 66) ∈ kX12_init := qX12_init_1 _ (List.mem_of_getElem? (i := 7) rfl)
theorem tX12_init_66 : (66, a_newI 68) ∈ kX12_init := qX12_init_1 _ (List.mem_of_getElem? (i := 8) rfl)
theorem tX12_init_68 : (68, a_putR 12 7 71) ∈ kX12_init := qX12_init_1 _ (List.mem_of_getElem? (i := 9) rfl)
theorem tX12_init_71 : (71, a_aload 0 72) ∈ kX12_init := qX12_init_1 _ (List.mem_of_getElem? (i := 10) rfl)
theorem tX12_init_72 : (72, a_i 12 74) ∈ kX12_init := qX12_init_1 _ (List.mem_of_getElem? (i := 11) rfl)
theorem tX12_init_74 : (74, a_newI 76) ∈ kX12_init := qX12_init_1 _ (List.mem_of_getElem? (i := 12) rfl)
theorem tX12_init_76 : (76, a_putR 12 8 79) ∈ kX12_init := qX12_init_1 _ (List.mem_of_getElem? (i := 13) rfl)
theorem tX12_init_79 : (79, a_aload 0 80) ∈ kX12_init := qX12_init_1 _ (List.mem_of_getElem? (i := 14) rfl)
theorem tX12_init_80 : (80, a_i 3 81) ∈ kX12_init := qX12_init_1 _ (List.mem_of_getElem? (i := 15) rfl)
theorem tX12_init_81 : (81, a_newI 83) ∈ kX12_init := qX12_init_1 _ (List.mem_of_getElem? (i := 16) rfl)
theorem tX12_init_83 : (83, a_putR 12 9 86) ∈ kX12_init := qX12_init_1 _ (List.mem_of_getElem? (i := 17) rfl)
theorem tX12_init_86 : (86, a_aload 0 87) ∈ kX12_init := qX12_init_1 _ (List.mem_of_getElem? (i := 18) rfl)
theorem tX12_init_87 : (87, a_i 3 88) ∈ kX12_init := qX12_init_1 _ (List.mem_of_getElem? (i := 19) rfl)
theorem tX12_init_88 : (88, a_newI 90) ∈ kX12_init := qX12_init_1 _ (List.mem_of_getElem? (i := 20) rfl)
theorem tX12_init_90 : (90, a_putR 12 10 93) ∈ kX12_init := qX12_init_1 _ (List.mem_of_getElem? (i := 21) rfl)
theorem tX12_init_93 : (93, a_aload 0 94) ∈ kX12_init := qX12_init_1 _ (List.mem_of_getElem? (i := 22) rfl)
theorem tX12_init_94 : (94, a_i 7 96) ∈ kX12_init := qX12_init_1 _ (List.mem_of_getElem? (i := 23) rfl)
theorem qX12_init_2 : ∀ q ∈ kX12_init_2, q ∈ kX12_init := fun _ h => (List.mem_append_right _ (List.mem_append_right _ (List.mem_append_left _ h)))
theorem tX12_init_96 : (96, a_newI 98) ∈ kX12_init := qX12_init_2 _ (List.mem_of_getElem? (i := 0) rfl)
theorem tX12_init_98 : (98, a_putR 12 13 101) ∈ kX12_init := qX12_init_2 _ (List.mem_of_getElem? (i := 1) rfl)
theorem tX12_init_101 : (101, a_aload 0 102) ∈ kX12_init := qX12_init_2 _ (List.mem_of_getElem? (i := 2) rfl)
theorem tX12_init_102 : (102, a_i 7 104) ∈ kX12_init := qX12_init_2 _ (List.mem_of_getElem? (i := 3) rfl)
theorem tX12_init_104 : (104, a_newI 106) ∈ kX12_init := qX12_init_2 _ (List.mem_of_getElem? (i := 4) rfl)
theorem tX12_init_106 : (106, a_putR 12 14 109) ∈ kX12_init := qX12_init_2 _ (List.mem_of_getElem? (i := 5) rfl)
theorem tX12_init_109 : (109, a_aload 0 110) ∈ kX12_init := qX12_init_2 _ (List.mem_of_getElem? (i := 6) rfl)
theorem tX12_init_110 : (110, a_i 5 111) ∈ kX12_init := qX12_init_2 _ (List.mem_of_getElem? (i := 7) rfl)
theorem tX12_init_111 : (111, a_newI 113) ∈ kX12_init := qX12_init_2 _ (List.mem_of_getElem? (i := 8) rfl)
theorem tX12_init_113 : (113, a_putR 12 15 116) ∈ kX12_init := qX12_init_2 _ (List.mem_of_getElem? (i := 9) rfl)
theorem tX12_init_116 : (116, a_aload 0 117) ∈ kX12_init := qX12_init_2 _ (List.mem_of_getElem? (i := 10) rfl)
theorem tX12_init_117 : (117, a_i 19 119) ∈ kX12_init := qX12_init_2 _ (List.mem_of_getElem? (i := 11) rfl)
theorem tX12_init_119 : (119, a_newI 121) ∈ kX12_init := qX12_init_2 _ (List.mem_of_getElem? (i := 12) rfl)
theorem tX12_init_121 : (121, a_putR 12 16 124) ∈ kX12_init := qX12_init_2 _ (List.mem_of_getElem? (i := 13) rfl)
theorem tX12_init_124 : (124, a_aload 0 125) ∈ kX12_init := qX12_init_2 _ (List.mem_of_getElem? (i := 14) rfl)
theorem tX12_init_125 : (125, a_i 10 127) ∈ kX12_init := qX12_init_2 _ (List.mem_of_getElem? (i := 15) rfl)
theorem tX12_init_127 : (127, a_newI 129) ∈ kX12_init := qX12_init_2 _ (List.mem_of_getElem? (i := 16) rfl)
theorem tX12_init_129 : (129, a_putR 12 17 132) ∈ kX12_init := qX12_init_2 _ (List.mem_of_getElem? (i := 17) rfl)
theorem tX12_init_132 : (132, a_aload 0 133) ∈ kX12_init := qX12_init_2 _ (List.mem_of_getElem? (i := 18) rfl)
theorem tX12_init_133 : (133, a_i (-4) 135) ∈ kX12_init := qX12_init_2 _ (List.mem_of_getElem? (i := 19) rfl)
theorem tX12_init_135 : (135, a_putI 12 18 138 false) ∈ kX12_init := qX12_init_2 _ (List.mem_of_getElem? (i := 20) rfl)
theorem tX12_init_138 : (138, a_aload 0 139) ∈ kX12_init := qX12_init_2 _ (List.mem_of_getElem? (i := 21) rfl)
theorem tX12_init_139 : (139, a_i 19 141) ∈ kX12_init := qX12_init_2 _ (List.mem_of_getElem? (i := 22) rfl)
theorem tX12_init_141 : (141, a_newI 143) ∈ kX12_init := qX12_init_2 _ (List.mem_of_getElem? (i := 23) rfl)
theorem qX12_init_3 : ∀ q ∈ kX12_init_3, q ∈ kX12_init := fun _ h => (List.mem_append_right _ (List.mem_append_right _ (List.mem_append_right _ (List.mem_append_left _ h))))
theorem tX12_init_143 : (143, a_putR 12 20 146) ∈ kX12_init := qX12_init_3 _ (List.mem_of_getElem? (i := 0) rfl)
theorem tX12_init_146 : (146, a_aload 0 147) ∈ kX12_init := qX12_init_3 _ (List.mem_of_getElem? (i := 1) rfl)
theorem tX12_init_147 : (147, a_i 10 149) ∈ kX12_init := qX12_init_3 _ (List.mem_of_getElem? (i := 2) rfl)
theorem tX12_init_149 : (149, a_newI 151) ∈ kX12_init := qX12_init_3 _ (List.mem_of_getElem? (i := 3) rfl)
theorem tX12_init_151 : (151, a_putR 12 21 154) ∈ kX12_init := qX12_init_3 _ (List.mem_of_getElem? (i := 4) rfl)
theorem tX12_init_154 : (154, a_aload 0 155) ∈ kX12_init := qX12_init_3 _ (List.mem_of_getElem? (i := 5) rfl)
theorem tX12_init_155 : (155, a_i 10 157) ∈ kX12_init := qX12_init_3 _ (List.mem_of_getElem? (i := 6) rfl)
theorem tX12_init_157 : (157, a_newI 159) ∈ kX12_init := qX12_init_3 _ (List.mem_of_getElem? (i := 7) rfl)
theorem tX12_init_159 : (159, a_putR 12 22 162) ∈ kX12_init := qX12_init_3 _ (List.mem_of_getElem? (i := 8) rfl)
theorem tX12_init_162 : (162, a_aload 0 163) ∈ kX12_init := qX12_init_3 _ (List.mem_of_getElem? (i := 9) rfl)
theorem tX12_init_163 : (163, a_i 19 165) ∈ kX12_init := qX12_init_3 _ (List.mem_of_getElem? (i := 10) rfl)
theorem tX12_init_165 : (165, a_newI 167) ∈ kX12_init := qX12_init_3 _ (List.mem_of_getElem? (i := 11) rfl)
theorem tX12_init_167 : (167, a_putR 12 23 170) ∈ kX12_init := qX12_init_3 _ (List.mem_of_getElem? (i := 12) rfl)
theorem tX12_init_170 : (170, a_aload 0 171) ∈ kX12_init := qX12_init_3 _ (List.mem_of_getElem? (i := 13) rfl)
theorem tX12_init_171 : (171, a_i 19 173) ∈ kX12_init := qX12_init_3 _ (List.mem_of_getElem? (i := 14) rfl)
theorem tX12_init_173 : (173, a_newI 175) ∈ kX12_init := qX12_init_3 _ (List.mem_of_getElem? (i := 15) rfl)
theorem tX12_init_175 : (175, a_putR 12 24 178) ∈ kX12_init := qX12_init_3 _ (List.mem_of_getElem? (i := 16) rfl)
theorem tX12_init_178 : (178, a_aload 0 179) ∈ kX12_init := qX12_init_3 _ (List.mem_of_getElem? (i := 17) rfl)
theorem tX12_init_179 : (179, a_i 10 181) ∈ kX12_init := qX12_init_3 _ (List.mem_of_getElem? (i := 18) rfl)
theorem tX12_init_181 : (181, a_newI 183) ∈ kX12_init := qX12_init_3 _ (List.mem_of_getElem? (i := 19) rfl)
theorem tX12_init_183 : (183, a_putR 12 25 186) ∈ kX12_init := qX12_init_3 _ (List.mem_of_getElem? (i := 20) rfl)
theorem tX12_init_186 : (186, a_aload 0 187) ∈ kX12_init := qX12_init_3 _ (List.mem_of_getElem? (i := 21) rfl)
theorem tX12_init_187 : (187, a_i 10 189) ∈ kX12_init := qX12_init_3 _ (List.mem_of_getElem? (i := 22) rfl)
theorem tX12_init_189 : (189, a_newI 191) ∈ kX12_init := qX12_init_3 _ (List.mem_of_getElem? (i := 23) rfl)
theorem qX12_init_4 : ∀ q ∈ kX12_init_4, q ∈ kX12_init := fun _ h => (List.mem_append_right _ (List.mem_append_right _ (List.mem_append_right _ (List.mem_append_right _ (List.mem_append_left _ h)))))
theorem tX12_init_191 : (191, a_putR 12 26 194) ∈ kX12_init := qX12_init_4 _ (List.mem_of_getElem? (i := 0) rfl)
theorem tX12_init_194 : (194, a_aload 0 195) ∈ kX12_init := qX12_init_4 _ (List.mem_of_getElem? (i := 1) rfl)
theorem tX12_init_195 : (195, a_i 7 197) ∈ kX12_init := qX12_init_4 _ (List.mem_of_getElem? (i := 2) rfl)
theorem tX12_init_197 : (197, a_newI 199) ∈ kX12_init := qX12_init_4 _ (List.mem_of_getElem? (i := 3) rfl)
theorem tX12_init_199 : (199, a_putR 12 28 202) ∈ kX12_init := qX12_init_4 _ (List.mem_of_getElem? (i := 4) rfl)
theorem tX12_init_202 : (202, a_aload 0 203) ∈ kX12_init := qX12_init_4 _ (List.mem_of_getElem? (i := 5) rfl)
theorem tX12_init_203 : (203, a_i 8 205) ∈ kX12_init := qX12_init_4 _ (List.mem_of_getElem? (i := 6) rfl)
theorem tX12_init_205 : (205, a_newI 207) ∈ kX12_init := qX12_init_4 _ (List.mem_of_getElem? (i := 7) rfl)
theorem tX12_init_207 : (207, a_putR 12 30 210) ∈ kX12_init := qX12_init_4 _ (List.mem_of_getElem? (i := 8) rfl)
theorem tX12_init_210 : (210, a_aload 0 211) ∈ kX12_init := qX12_init_4 _ (List.mem_of_getElem? (i := 9) rfl)
theorem tX12_init_211 : (211, a_i 7 213) ∈ kX12_init := qX12_init_4 _ (List.mem_of_getElem? (i := 10) rfl)
theorem tX12_init_213 : (213, a_newI 215) ∈ kX12_init := qX12_init_4 _ (List.mem_of_getElem? (i := 11) rfl)
theorem tX12_init_215 : (215, a_putR 12 31 218) ∈ kX12_init := qX12_init_4 _ (List.mem_of_getElem? (i := 12) rfl)
theorem tX12_init_218 : (218, a_aload 0 219) ∈ kX12_init := qX12_init_4 _ (List.mem_of_getElem? (i := 13) rfl)
theorem tX12_init_219 : (219, a_i 7 221) ∈ kX12_init := qX12_init_4 _ (List.mem_of_getElem? (i := 14) rfl)
theorem tX12_init_221 : (221, a_newI 223) ∈ kX12_init := qX12_init_4 _ (List.mem_of_getElem? (i := 15) rfl)
theorem tX12_init_223 : (223, a_putR 12 32 226) ∈ kX12_init := qX12_init_4 _ (List.mem_of_getElem? (i := 16) rfl)
theorem tX12_init_226 : (226, a_aload 0 227) ∈ kX12_init := qX12_init_4 _ (List.mem_of_getElem? (i := 17) rfl)
theorem tX12_init_227 : (227, a_i 10 229) ∈ kX12_init := qX12_init_4 _ (List.mem_of_getElem? (i := 18) rfl)
theorem tX12_init_229 : (229, a_newI 231) ∈ kX12_init := qX12_init_4 _ (List.mem_of_getElem? (i := 19) rfl)
theorem tX12_init_231 : (231, a_putR 12 34 234) ∈ kX12_init := qX12_init_4 _ (List.mem_of_getElem? (i := 20) rfl)
theorem tX12_init_234 : (234, a_aload 0 235) ∈ kX12_init := qX12_init_4 _ (List.mem_of_getElem? (i := 21) rfl)
theorem tX12_init_235 : (235, a_i 10 237) ∈ kX12_init := qX12_init_4 _ (List.mem_of_getElem? (i := 22) rfl)
theorem tX12_init_237 : (237, a_newI 239) ∈ kX12_init := qX12_init_4 _ (List.mem_of_getElem? (i := 23) rfl)
theorem qX12_init_5 : ∀ q ∈ kX12_init_5, q ∈ kX12_init := fun _ h => (List.mem_append_right _ (List.mem_append_right _ (List.mem_append_right _ (List.mem_append_right _ (List.mem_append_right _ (List.mem_append_left _ h))))))
theorem tX12_init_239 : (239, a_putR 12 35 242) ∈ kX12_init := qX12_init_5 _ (List.mem_of_getElem? (i := 0) rfl)
theorem tX12_init_242 : (242, a_aload 0 243) ∈ kX12_init := qX12_init_5 _ (List.mem_of_getElem? (i := 1) rfl)
theorem tX12_init_243 : (243, a_i 10 245) ∈ kX12_init := qX12_init_5 _ (List.mem_of_getElem? (i := 2) rfl)
theorem tX12_init_245 : (245, a_newJ 247) ∈ kX12_init := qX12_init_5 _ (List.mem_of_getElem? (i := 3) rfl)
theorem tX12_init_247 : (247, a_putR 12 36 250) ∈ kX12_init := qX12_init_5 _ (List.mem_of_getElem? (i := 4) rfl)
theorem tX12_init_250 : (250, a_aload 0 251) ∈ kX12_init := qX12_init_5 _ (List.mem_of_getElem? (i := 5) rfl)
theorem tX12_init_251 : (251, a_i 39 253) ∈ kX12_init := qX12_init_5 _ (List.mem_of_getElem? (i := 6) rfl)
theorem tX12_init_253 : (253, a_newI 255) ∈ kX12_init := qX12_init_5 _ (List.mem_of_getElem? (i := 7) rfl)
theorem tX12_init_255 : (255, a_putR 12 38 258) ∈ kX12_init := qX12_init_5 _ (List.mem_of_getElem? (i := 8) rfl)
theorem tX12_init_258 : (258, a_aload 0 259) ∈ kX12_init := qX12_init_5 _ (List.mem_of_getElem? (i := 9) rfl)
theorem tX12_init_259 : (259, a_i 39 261) ∈ kX12_init := qX12_init_5 _ (List.mem_of_getElem? (i := 10) rfl)
theorem tX12_init_261 : (261, a_newI 263) ∈ kX12_init := qX12_init_5 _ (List.mem_of_getElem? (i := 11) rfl)
theorem tX12_init_263 : (263, a_putR 12 39 266) ∈ kX12_init := qX12_init_5 _ (List.mem_of_getElem? (i := 12) rfl)
theorem tX12_init_266 : (266, a_i 0 267) ∈ kX12_init := qX12_init_5 _ (List.mem_of_getElem? (i := 13) rfl)
theorem tX12_init_267 : (267, a_istore 1 268) ∈ kX12_init := qX12_init_5 _ (List.mem_of_getElem? (i := 14) rfl)
theorem tX12_init_268 : (268, a_iload 1 269) ∈ kX12_init := qX12_init_5 _ (List.mem_of_getElem? (i := 15) rfl)
theorem tX12_init_269 : (269, a_i 133 272) ∈ kX12_init := qX12_init_5 _ (List.mem_of_getElem? (i := 16) rfl)
theorem tX12_init_272 : (272, a_ic_ge 289 275) ∈ kX12_init := qX12_init_5 _ (List.mem_of_getElem? (i := 17) rfl)
theorem tX12_init_275 : (275, a_aload 0 276) ∈ kX12_init := qX12_init_5 _ (List.mem_of_getElem? (i := 18) rfl)
theorem tX12_init_276 : (276, a_getR 12 4 279) ∈ kX12_init := qX12_init_5 _ (List.mem_of_getElem? (i := 19) rfl)
theorem tX12_init_279 : (279, a_iload 1 280) ∈ kX12_init := qX12_init_5 _ (List.mem_of_getElem? (i := 20) rfl)
theorem tX12_init_280 : (280, a_i (-4) 282) ∈ kX12_init := qX12_init_5 _ (List.mem_of_getElem? (i := 21) rfl)
theorem tX12_init_282 : (282, a_iast 283) ∈ kX12_init := qX12_init_5 _ (List.mem_of_getElem? (i := 22) rfl)
theorem tX12_init_283 : (283, a_iinc 1 1 286) ∈ kX12_init := qX12_init_5 _ (List.mem_of_getElem? (i := 23) rfl)
theorem qX12_init_6 : ∀ q ∈ kX12_init_6, q ∈ kX12_init := fun _ h => (List.mem_append_right _ (List.mem_append_right _ (List.mem_append_right _ (List.mem_append_right _ (List.mem_append_right _ (List.mem_append_right _ (List.mem_append_left _ h)))))))
theorem tX12_init_286 : (286, a_goto 268) ∈ kX12_init := qX12_init_6 _ (List.mem_of_getElem? (i := 0) rfl)
theorem tX12_init_289 : (289, a_i 0 290) ∈ kX12_init := qX12_init_6 _ (List.mem_of_getElem? (i := 1) rfl)
theorem tX12_init_290 : (290, a_istore 1 291) ∈ kX12_init := qX12_init_6 _ (List.mem_of_getElem? (i := 2) rfl)
theorem tX12_init_291 : (291, a_iload 1 292) ∈ kX12_init := qX12_init_6 _ (List.mem_of_getElem? (i := 3) rfl)
theorem tX12_init_292 : (292, a_i 4 293) ∈ kX12_init := qX12_init_6 _ (List.mem_of_getElem? (i := 4) rfl)
theorem tX12_init_293 : (293, a_ic_ge 309 296) ∈ kX12_init := qX12_init_6 _ (List.mem_of_getElem? (i := 5) rfl)
theorem tX12_init_296 : (296, a_aload 0 297) ∈ kX12_init := qX12_init_6 _ (List.mem_of_getElem? (i := 6) rfl)
theorem tX12_init_297 : (297, a_getR 12 8 300) ∈ kX12_init := qX12_init_6 _ (List.mem_of_getElem? (i := 7) rfl)
theorem tX12_init_300 : (300, a_iload 1 301) ∈ kX12_init := qX12_init_6 _ (List.mem_of_getElem? (i := 8) rfl)
theorem tX12_init_301 : (301, a_i 2 302) ∈ kX12_init := qX12_init_6 _ (List.mem_of_getElem? (i := 9) rfl)
theorem tX12_init_302 : (302, a_iast 303) ∈ kX12_init := qX12_init_6 _ (List.mem_of_getElem? (i := 10) rfl)
theorem tX12_init_303 : (303, a_iinc 1 1 306) ∈ kX12_init := qX12_init_6 _ (List.mem_of_getElem? (i := 11) rfl)
theorem tX12_init_306 : (306, a_goto 291) ∈ kX12_init := qX12_init_6 _ (List.mem_of_getElem? (i := 12) rfl)
theorem tX12_init_309 : (309, a_aload 0 310) ∈ kX12_init := qX12_init_6 _ (List.mem_of_getElem? (i := 13) rfl)
theorem tX12_init_310 : (310, a_getR 12 10 313) ∈ kX12_init := qX12_init_6 _ (List.mem_of_getElem? (i := 14) rfl)
theorem tX12_init_313 : (313, a_i 0 314) ∈ kX12_init := qX12_init_6 _ (List.mem_of_getElem? (i := 15) rfl)
theorem tX12_init_314 : (314, a_i 524224 316) ∈ kX12_init := qX12_init_6 _ (List.mem_of_getElem? (i := 16) rfl)
theorem tX12_init_316 : (316, a_iast 317) ∈ kX12_init := qX12_init_6 _ (List.mem_of_getElem? (i := 17) rfl)
theorem tX12_init_317 : (317, a_aload 0 318) ∈ kX12_init := qX12_init_6 _ (List.mem_of_getElem? (i := 18) rfl)
theorem tX12_init_318 : (318, a_getR 12 13 321) ∈ kX12_init := qX12_init_6 _ (List.mem_of_getElem? (i := 19) rfl)
theorem tX12_init_321 : (321, a_i 0 322) ∈ kX12_init := qX12_init_6 _ (List.mem_of_getElem? (i := 20) rfl)
theorem tX12_init_322 : (322, a_i 1 323) ∈ kX12_init := qX12_init_6 _ (List.mem_of_getElem? (i := 21) rfl)
theorem tX12_init_323 : (323, a_iast 324) ∈ kX12_init := qX12_init_6 _ (List.mem_of_getElem? (i := 22) rfl)
theorem tX12_init_324 : (324, a_aload 0 325) ∈ kX12_init := qX12_init_6 _ (List.mem_of_getElem? (i := 23) rfl)
theorem qX12_init_7 : ∀ q ∈ kX12_init_7, q ∈ kX12_init := fun _ h => (List.mem_append_right _ (List.mem_append_right _ (List.mem_append_right _ (List.mem_append_right _ (List.mem_append_right _ (List.mem_append_right _ (List.mem_append_right _ (List.mem_append_left _ h))))))))
theorem tX12_init_325 : (325, a_getR 12 13 328) ∈ kX12_init := qX12_init_7 _ (List.mem_of_getElem? (i := 0) rfl)
theorem tX12_init_328 : (328, a_i 1 329) ∈ kX12_init := qX12_init_7 _ (List.mem_of_getElem? (i := 1) rfl)
theorem tX12_init_329 : (329, a_i 3 330) ∈ kX12_init := qX12_init_7 _ (List.mem_of_getElem? (i := 2) rfl)
theorem tX12_init_330 : (330, a_iast 331) ∈ kX12_init := qX12_init_7 _ (List.mem_of_getElem? (i := 3) rfl)
theorem tX12_init_331 : (331, a_aload 0 332) ∈ kX12_init := qX12_init_7 _ (List.mem_of_getElem? (i := 4) rfl)
theorem tX12_init_332 : (332, a_getR 12 13 335) ∈ kX12_init := qX12_init_7 _ (List.mem_of_getElem? (i := 5) rfl)
theorem tX12_init_335 : (335, a_i 2 336) ∈ kX12_init := qX12_init_7 _ (List.mem_of_getElem? (i := 6) rfl)
theorem tX12_init_336 : (336, a_i 3 337) ∈ kX12_init := qX12_init_7 _ (List.mem_of_getElem? (i := 7) rfl)
theorem tX12_init_337 : (337, a_iast 338) ∈ kX12_init := qX12_init_7 _ (List.mem_of_getElem? (i := 8) rfl)
theorem tX12_init_338 : (338, a_aload 0 339) ∈ kX12_init := qX12_init_7 _ (List.mem_of_getElem? (i := 9) rfl)
theorem tX12_init_339 : (339, a_getR 12 13 342) ∈ kX12_init := qX12_init_7 _ (List.mem_of_getElem? (i := 10) rfl)
theorem tX12_init_342 : (342, a_i 3 343) ∈ kX12_init := qX12_init_7 _ (List.mem_of_getElem? (i := 11) rfl)
theorem tX12_init_343 : (343, a_i 2 344) ∈ kX12_init := qX12_init_7 _ (List.mem_of_getElem? (i := 12) rfl)
theorem tX12_init_344 : (344, a_iast 345) ∈ kX12_init := qX12_init_7 _ (List.mem_of_getElem? (i := 13) rfl)
theorem tX12_init_345 : (345, a_aload 0 346) ∈ kX12_init := qX12_init_7 _ (List.mem_of_getElem? (i := 14) rfl)
theorem tX12_init_346 : (346, a_getR 12 13 349) ∈ kX12_init := qX12_init_7 _ (List.mem_of_getElem? (i := 15) rfl)
theorem tX12_init_349 : (349, a_i 4 350) ∈ kX12_init := qX12_init_7 _ (List.mem_of_getElem? (i := 16) rfl)
theorem tX12_init_350 : (350, a_i 2 351) ∈ kX12_init := qX12_init_7 _ (List.mem_of_getElem? (i := 17) rfl)
theorem tX12_init_351 : (351, a_iast 352) ∈ kX12_init := qX12_init_7 _ (List.mem_of_getElem? (i := 18) rfl)
theorem tX12_init_352 : (352, a_aload 0 353) ∈ kX12_init := qX12_init_7 _ (List.mem_of_getElem? (i := 19) rfl)
theorem tX12_init_353 : (353, a_getR 12 13 356) ∈ kX12_init := qX12_init_7 _ (List.mem_of_getElem? (i := 20) rfl)
theorem tX12_init_356 : (356, a_i 5 357) ∈ kX12_init := qX12_init_7 _ (List.mem_of_getElem? (i := 21) rfl)
theorem tX12_init_357 : (357, a_i 5 358) ∈ kX12_init := qX12_init_7 _ (List.mem_of_getElem? (i := 22) rfl)
theorem tX12_init_358 : (358, a_iast 359) ∈ kX12_init := qX12_init_7 _ (List.mem_of_getElem? (i := 23) rfl)
theorem qX12_init_8 : ∀ q ∈ kX12_init_8, q ∈ kX12_init := fun _ h => (List.mem_append_right _ (List.mem_append_right _ (List.mem_append_right _ (List.mem_append_right _ (List.mem_append_right _ (List.mem_append_right _ (List.mem_append_right _ (List.mem_append_right _ (List.mem_append_left _ h)))))))))
theorem tX12_init_359 : (359, a_aload 0 360) ∈ kX12_init := qX12_init_8 _ (List.mem_of_getElem? (i := 0) rfl)
theorem tX12_init_360 : (360, a_getR 12 13 363) ∈ kX12_init := qX12_init_8 _ (List.mem_of_getElem? (i := 1) rfl)
theorem tX12_init_363 : (363, a_i 6 365) ∈ kX12_init := qX12_init_8 _ (List.mem_of_getElem? (i := 2) rfl)
theorem tX12_init_365 : (365, a_i 6 367) ∈ kX12_init := qX12_init_8 _ (List.mem_of_getElem? (i := 3) rfl)
theorem tX12_init_367 : (367, a_iast 368) ∈ kX12_init := qX12_init_8 _ (List.mem_of_getElem? (i := 4) rfl)
theorem tX12_init_368 : (368, a_aload 0 369) ∈ kX12_init := qX12_init_8 _ (List.mem_of_getElem? (i := 5) rfl)
theorem tX12_init_369 : (369, a_getR 12 14 372) ∈ kX12_init := qX12_init_8 _ (List.mem_of_getElem? (i := 6) rfl)
theorem tX12_init_372 : (372, a_i 0 373) ∈ kX12_init := qX12_init_8 _ (List.mem_of_getElem? (i := 7) rfl)
theorem tX12_init_373 : (373, a_i 1 374) ∈ kX12_init := qX12_init_8 _ (List.mem_of_getElem? (i := 8) rfl)
theorem tX12_init_374 : (374, a_iast 375) ∈ kX12_init := qX12_init_8 _ (List.mem_of_getElem? (i := 9) rfl)
theorem tX12_init_375 : (375, a_aload 0 376) ∈ kX12_init := qX12_init_8 _ (List.mem_of_getElem? (i := 10) rfl)
theorem tX12_init_376 : (376, a_getR 12 14 379) ∈ kX12_init := qX12_init_8 _ (List.mem_of_getElem? (i := 11) rfl)
theorem tX12_init_379 : (379, a_i 1 380) ∈ kX12_init := qX12_init_8 _ (List.mem_of_getElem? (i := 12) rfl)
theorem tX12_init_380 : (380, a_i 2 381) ∈ kX12_init := qX12_init_8 _ (List.mem_of_getElem? (i := 13) rfl)
theorem tX12_init_381 : (381, a_iast 382) ∈ kX12_init := qX12_init_8 _ (List.mem_of_getElem? (i := 14) rfl)
theorem tX12_init_382 : (382, a_aload 0 383) ∈ kX12_init := qX12_init_8 _ (List.mem_of_getElem? (i := 15) rfl)
theorem tX12_init_383 : (383, a_getR 12 14 386) ∈ kX12_init := qX12_init_8 _ (List.mem_of_getElem? (i := 16) rfl)
theorem tX12_init_386 : (386, a_i 2 387) ∈ kX12_init := qX12_init_8 _ (List.mem_of_getElem? (i := 17) rfl)
theorem tX12_init_387 : (387, a_i 2 388) ∈ kX12_init := qX12_init_8 _ (List.mem_of_getElem? (i := 18) rfl)
theorem tX12_init_388 : (388, a_iast 389) ∈ kX12_init := qX12_init_8 _ (List.mem_of_getElem? (i := 19) rfl)
theorem tX12_init_389 : (389, a_aload 0 390) ∈ kX12_init := qX12_init_8 _ (List.mem_of_getElem? (i := 20) rfl)
theorem tX12_init_390 : (390, a_getR 12 14 393) ∈ kX12_init := qX12_init_8 _ (List.mem_of_getElem? (i := 21) rfl)
theorem tX12_init_393 : (393, a_i 3 394) ∈ kX12_init := qX12_init_8 _ (List.mem_of_getElem? (i := 22) rfl)
theorem tX12_init_394 : (394, a_i 1 395) ∈ kX12_init := qX12_init_8 _ (List.mem_of_getElem? (i := 23) rfl)
theorem qX12_init_9 : ∀ q ∈ kX12_init_9, q ∈ kX12_init := fun _ h => (List.mem_append_right _ (List.mem_append_right _ (List.mem_append_right _ (List.mem_append_right _ (List.mem_append_right _ (List.mem_append_right _ (List.mem_append_right _ (List.mem_append_right _ (List.mem_append_right _ (List.mem_append_left _ h))))))))))
theorem tX12_init_395 : (395, a_iast 396) ∈ kX12_init := qX12_init_9 _ (List.mem_of_getElem? (i := 0) rfl)
theorem tX12_init_396 : (396, a_aload 0 397) ∈ kX12_init := qX12_init_9 _ (List.mem_of_getElem? (i := 1) rfl)
theorem tX12_init_397 : (397, a_getR 12 14 400) ∈ kX12_init := qX12_init_9 _ (List.mem_of_getElem? (i := 2) rfl)
theorem tX12_init_400 : (400, a_i 4 401) ∈ kX12_init := qX12_init_9 _ (List.mem_of_getElem? (i := 3) rfl)
theorem tX12_init_401 : (401, a_i 1 402) ∈ kX12_init := qX12_init_9 _ (List.mem_of_getElem? (i := 4) rfl)
theorem tX12_init_402 : (402, a_iast 403) ∈ kX12_init := qX12_init_9 _ (List.mem_of_getElem? (i := 5) rfl)
theorem tX12_init_403 : (403, a_aload 0 404) ∈ kX12_init := qX12_init_9 _ (List.mem_of_getElem? (i := 6) rfl)
theorem tX12_init_404 : (404, a_getR 12 14 407) ∈ kX12_init := qX12_init_9 _ (List.mem_of_getElem? (i := 7) rfl)
theorem tX12_init_407 : (407, a_i 5 408) ∈ kX12_init := qX12_init_9 _ (List.mem_of_getElem? (i := 8) rfl)
theorem tX12_init_408 : (408, a_i 3 409) ∈ kX12_init := qX12_init_9 _ (List.mem_of_getElem? (i := 9) rfl)
theorem tX12_init_409 : (409, a_iast 410) ∈ kX12_init := qX12_init_9 _ (List.mem_of_getElem? (i := 10) rfl)
theorem tX12_init_410 : (410, a_aload 0 411) ∈ kX12_init := qX12_init_9 _ (List.mem_of_getElem? (i := 11) rfl)
theorem tX12_init_411 : (411, a_getR 12 14 414) ∈ kX12_init := qX12_init_9 _ (List.mem_of_getElem? (i := 12) rfl)
theorem tX12_init_414 : (414, a_i 6 416) ∈ kX12_init := qX12_init_9 _ (List.mem_of_getElem? (i := 13) rfl)
theorem tX12_init_416 : (416, a_i 3 417) ∈ kX12_init := qX12_init_9 _ (List.mem_of_getElem? (i := 14) rfl)
theorem tX12_init_417 : (417, a_iast 418) ∈ kX12_init := qX12_init_9 _ (List.mem_of_getElem? (i := 15) rfl)
theorem tX12_init_418 : (418, a_aload 0 419) ∈ kX12_init := qX12_init_9 _ (List.mem_of_getElem? (i := 16) rfl)
theorem tX12_init_419 : (419, a_getR 12 15 422) ∈ kX12_init := qX12_init_9 _ (List.mem_of_getElem? (i := 17) rfl)
theorem tX12_init_422 : (422, a_i 0 423) ∈ kX12_init := qX12_init_9 _ (List.mem_of_getElem? (i := 18) rfl)
theorem tX12_init_423 : (423, a_i 100 425) ∈ kX12_init := qX12_init_9 _ (List.mem_of_getElem? (i := 19) rfl)
theorem tX12_init_425 : (425, a_iast 426) ∈ kX12_init := qX12_init_9 _ (List.mem_of_getElem? (i := 20) rfl)
theorem tX12_init_426 : (426, a_aload 0 427) ∈ kX12_init := qX12_init_9 _ (List.mem_of_getElem? (i := 21) rfl)
theorem tX12_init_427 : (427, a_getR 12 15 430) ∈ kX12_init := qX12_init_9 _ (List.mem_of_getElem? (i := 22) rfl)
theorem tX12_init_430 : (430, a_i 1 431) ∈ kX12_init := qX12_init_9 _ (List.mem_of_getElem? (i := 23) rfl)
theorem qX12_init_10 : ∀ q ∈ kX12_init_10, q ∈ kX12_init := fun _ h => (List.mem_append_right _ (List.mem_append_right _ (List.mem_append_right _ (List.mem_append_right _ (List.mem_append_right _ (List.mem_append_right _ (List.mem_append_right _ (List.mem_append_right _ (List.mem_append_right _ (List.mem_append_right _ h))))))))))
theorem tX12_init_431 : (431, a_i 80 433) ∈ kX12_init := qX12_init_10 _ (List.mem_of_getElem? (i := 0) rfl)
theorem tX12_init_433 : (433, a_iast 434) ∈ kX12_init := qX12_init_10 _ (List.mem_of_getElem? (i := 1) rfl)
theorem tX12_init_434 : (434, a_aload 0 435) ∈ kX12_init := qX12_init_10 _ (List.mem_of_getElem? (i := 2) rfl)
theorem tX12_init_435 : (435, a_getR 12 15 438) ∈ kX12_init := qX12_init_10 _ (List.mem_of_getElem? (i := 3) rfl)
theorem tX12_init_438 : (438, a_i 2 439) ∈ kX12_init := qX12_init_10 _ (List.mem_of_getElem? (i := 4) rfl)
theorem tX12_init_439 : (439, a_i 130 442) ∈ kX12_init := qX12_init_10 _ (List.mem_of_getElem? (i := 5) rfl)
theorem tX12_init_442 : (442, a_iast 443) ∈ kX12_init := qX12_init_10 _ (List.mem_of_getElem? (i := 6) rfl)
theorem tX12_init_443 : (443, a_aload 0 444) ∈ kX12_init := qX12_init_10 _ (List.mem_of_getElem? (i := 7) rfl)
theorem tX12_init_444 : (444, a_getR 12 15 447) ∈ kX12_init := qX12_init_10 _ (List.mem_of_getElem? (i := 8) rfl)
theorem tX12_init_447 : (447, a_i 3 448) ∈ kX12_init := qX12_init_10 _ (List.mem_of_getElem? (i := 9) rfl)
theorem tX12_init_448 : (448, a_i 1 449) ∈ kX12_init := qX12_init_10 _ (List.mem_of_getElem? (i := 10) rfl)
theorem tX12_init_449 : (449, a_iast 450) ∈ kX12_init := qX12_init_10 _ (List.mem_of_getElem? (i := 11) rfl)
theorem tX12_init_450 : (450, a_aload 0 451) ∈ kX12_init := qX12_init_10 _ (List.mem_of_getElem? (i := 12) rfl)
theorem tX12_init_451 : (451, a_getR 12 15 454) ∈ kX12_init := qX12_init_10 _ (List.mem_of_getElem? (i := 13) rfl)
theorem tX12_init_454 : (454, a_i 4 455) ∈ kX12_init := qX12_init_10 _ (List.mem_of_getElem? (i := 14) rfl)
theorem tX12_init_455 : (455, a_i 20 457) ∈ kX12_init := qX12_init_10 _ (List.mem_of_getElem? (i := 15) rfl)
theorem tX12_init_457 : (457, a_iast 458) ∈ kX12_init := qX12_init_10 _ (List.mem_of_getElem? (i := 16) rfl)
theorem tX12_init_458 : (458, a_vret) ∈ kX12_init := qX12_init_10 _ (List.mem_of_getElem? (i := 17) rfl)
theorem oX12_init : ∀ q ∈ kX12_init, zSnd zty true RX12 cX12_init 2 none true q := List.forall_mem_append.mpr ⟨oX12_init_0, List.forall_mem_append.mpr ⟨oX12_init_1, List.forall_mem_append.mpr ⟨oX12_init_2, List.forall_mem_append.mpr ⟨oX12_init_3, List.forall_mem_append.mpr ⟨oX12_init_4, List.forall_mem_append.mpr ⟨oX12_init_5, List.forall_mem_append.mpr ⟨oX12_init_6, List.forall_mem_append.mpr ⟨oX12_init_7, List.forall_mem_append.mpr ⟨oX12_init_8, List.forall_mem_append.mpr ⟨oX12_init_9, oX12_init_10⟩⟩⟩⟩⟩⟩⟩⟩⟩⟩
theorem dX12_in_0 : decode cX12_in 0 = .ok (.iload_n 0, 1) := by decide +kernel
theorem dX12_in_1 : decode cX12_in 1 = .ok (.iload_n 1, 1) := by decide +kernel
theorem dX12_in_2 : decode cX12_in 2 = .ok (.if_icmp .lt 12, 3) := by decide +kernel
theorem dX12_in_5 : decode cX12_in 5 = .ok (.iload_n 0, 1) := by decide +kernel
theorem dX12_in_6 : decode cX12_in 6 = .ok (.iload_n 2, 1) := by decide +kernel
theorem dX12_in_7 : decode cX12_in 7 = .ok (.if_icmp .gt 7, 3) := by decide +kernel
theorem dX12_in_10 : decode cX12_in 10 = .ok (.iconst 1, 1) := by decide +kernel
theorem dX12_in_11 : decode cX12_in 11 = .ok (.goto 4, 3) := by decide +kernel
theorem dX12_in_14 : decode cX12_in 14 = .ok (.iconst 0, 1) := by decide +kernel
theorem dX12_in_15 : decode cX12_in 15 = .ok (.ireturn, 1) := by decide +kernel
def kX12_in_0 : List (Nat × zT) := [(0, a_iload 0 1), (1, a_iload 1 2), (2, a_ic_lt 14 5), (5, a_iload 0 6), (6, a_iload 2 7), (7, a_ic_gt 14 10), (10, a_i 1 11), (11, a_goto 15), (14, a_i 0 15), (15, a_iret true)]
theorem oX12_in_0 : ∀ q ∈ kX12_in_0, zSnd zty false RX12 cX12_in 3 (some .boolean) false q := List.forall_mem_cons.mpr ⟨ok_iload_n dX12_in_0 rfl, List.forall_mem_cons.mpr ⟨ok_iload_n dX12_in_1 rfl, List.forall_mem_cons.mpr ⟨ok_ic_lt dX12_in_2 (by decide), List.forall_mem_cons.mpr ⟨ok_iload_n dX12_in_5 rfl, List.forall_mem_cons.mpr ⟨ok_iload_n dX12_in_6 rfl, List.forall_mem_cons.mpr ⟨ok_ic_gt dX12_in_7 (by decide), List.forall_mem_cons.mpr ⟨ok_iconst dX12_in_10 (by decide), List.forall_mem_cons.mpr ⟨ok_goto dX12_in_11 (by decide), List.forall_mem_cons.mpr ⟨ok_iconst dX12_in_14 (by decide), List.forall_mem_cons.mpr ⟨ok_iret (bz := true) dX12_in_15 rfl, fun _ h => absurd h List.not_mem_nil⟩⟩⟩⟩⟩⟩⟩⟩⟩⟩
def kX12_in : List (Nat × zT) := kX12_in_0
theorem qX12_in_0 : ∀ q ∈ kX12_in_0, q ∈ kX12_in := fun _ h => h
theorem tX12_in_0 : (0, a_iload 0 1) ∈ kX12_in := qX12_in_0 _ (List.mem_of_getElem? (i := 0) rfl)
theorem tX12_in_1 : (1, a_iload 1 2) ∈ kX12_in := qX12_in_0 _ (List.mem_of_getElem? (i := 1) rfl)
theorem tX12_in_2 : (2, a_ic_lt 14 5) ∈ kX12_in := qX12_in_0 _ (List.mem_of_getElem? (i := 2) rfl)
theorem tX12_in_5 : (5, a_iload 0 6) ∈ kX12_in := qX12_in_0 _ (List.mem_of_getElem? (i := 3) rfl)
theorem tX12_in_6 : (6, a_iload 2 7) ∈ kX12_in := qX12_in_0 _ (List.mem_of_getElem? (i := 4) rfl)
theorem tX12_in_7 : (7, a_ic_gt 14 10) ∈ kX12_in := qX12_in_0 _ (List.mem_of_getElem? (i := 5) rfl)
theorem tX12_in_10 : (10, a_i 1 11) ∈ kX12_in := qX12_in_0 _ (List.mem_of_getElem? (i := 6) rfl)
theorem tX12_in_11 : (11, a_goto 15) ∈ kX12_in := qX12_in_0 _ (List.mem_of_getElem? (i := 7) rfl)
theorem tX12_in_14 : (14, a_i 0 15) ∈ kX12_in := qX12_in_0 _ (List.mem_of_getElem? (i := 8) rfl)
theorem tX12_in_15 : (15, a_iret true) ∈ kX12_in := qX12_in_0 _ (List.mem_of_getElem? (i := 9) rfl)
theorem oX12_in : ∀ q ∈ kX12_in, zSnd zty false RX12 cX12_in 3 (some .boolean) false q := oX12_in_0
theorem dX12_write_0 : decode cX12_write 0 = .ok (.iload_n 1, 1) := by decide +kernel
theorem dX12_write_1 : decode cX12_write 1 = .ok (.iconst 0, 1) := by decide +kernel
theorem dX12_write_2 : decode cX12_write 2 = .ok (.iconst 1, 1) := by decide +kernel
theorem dX12_write_3 : decode cX12_write 3 = .ok (.invokestatic 112, 3) := by decide +kernel
theorem dX12_write_6 : decode cX12_write 6 = .ok (.ifCond .eq 13, 3) := by decide +kernel
theorem dX12_write_9 : decode cX12_write 9 = .ok (.iload_n 2, 1) := by decide +kernel
theorem dX12_write_10 : decode cX12_write 10 = .ok (.iconst 1, 1) := by decide +kernel
theorem dX12_write_11 : decode cX12_write 11 = .ok (.bipush 8, 2) := by decide +kernel
theorem dX12_write_13 : decode cX12_write 13 = .ok (.invokestatic 112, 3) := by decide +kernel
theorem dX12_write_16 : decode cX12_write 16 = .ok (.ifCond .ne 5, 3) := by decide +kernel
theorem dX12_write_19 : decode cX12_write 19 = .ok (.iconst (-1), 1) := by decide +kernel
theorem dX12_write_20 : decode cX12_write 20 = .ok (.ireturn, 1) := by decide +kernel
theorem dX12_write_21 : decode cX12_write 21 = .ok (.aload_n 0, 1) := by decide +kernel
theorem dX12_write_22 : decode cX12_write 22 = .ok (.getfield 13, 3) := by decide +kernel
theorem dX12_write_25 : decode cX12_write 25 = .ok (.iload_n 1, 1) := by decide +kernel
theorem dX12_write_26 : decode cX12_write 26 = .ok (.iaload, 1) := by decide +kernel
theorem dX12_write_27 : decode cX12_write 27 = .ok (.iload_n 2, 1) := by decide +kernel
theorem dX12_write_28 : decode cX12_write 28 = .ok (.iadd, 1) := by decide +kernel
theorem dX12_write_29 : decode cX12_write 29 = .ok (.sipush 200, 3) := by decide +kernel
theorem dX12_write_32 : decode cX12_write 32 = .ok (.if_icmp .le 6, 3) := by decide +kernel
theorem dX12_write_35 : decode cX12_write 35 = .ok (.bipush (-3), 2) := by decide +kernel
theorem dX12_write_37 : decode cX12_write 37 = .ok (.ireturn, 1) := by decide +kernel
theorem dX12_write_38 : decode cX12_write 38 = .ok (.iload_n 2, 1) := by decide +kernel
theorem dX12_write_39 : decode cX12_write 39 = .ok (.iconst 1, 1) := by decide +kernel
theorem dX12_write_40 : decode cX12_write 40 = .ok (.isub, 1) := by decide +kernel
theorem dX12_write_41 : decode cX12_write 41 = .ok (.istore 5, 2) := by decide +kernel
theorem dX12_write_43 : decode cX12_write 43 = .ok (.iload 5, 2) := by decide +kernel
theorem dX12_write_45 : decode cX12_write 45 = .ok (.ifCond .lt 48, 3) := by decide +kernel
theorem dX12_write_48 : decode cX12_write 48 = .ok (.aload_n 0, 1) := by decide +kernel
theorem dX12_write_49 : decode cX12_write 49 = .ok (.getfield 7, 3) := by decide +kernel
theorem dX12_write_52 : decode cX12_write 52 = .ok (.sipush 200, 3) := by decide +kernel
theorem dX12_write_55 : decode cX12_write 55 = .ok (.iload_n 1, 1) := by decide +kernel
theorem dX12_write_56 : decode cX12_write 56 = .ok (.imul, 1) := by decide +kernel
theorem dX12_write_57 : decode cX12_write 57 = .ok (.aload_n 0, 1) := by decide +kernel
theorem dX12_write_58 : decode cX12_write 58 = .ok (.getfield 13, 3) := by decide +kernel
theorem dX12_write_61 : decode cX12_write 61 = .ok (.iload_n 1, 1) := by decide +kernel
theorem dX12_write_62 : decode cX12_write 62 = .ok (.iaload, 1) := by decide +kernel
theorem dX12_write_63 : decode cX12_write 63 = .ok (.iadd, 1) := by decide +kernel
theorem dX12_write_64 : decode cX12_write 64 = .ok (.lload_n 3, 1) := by decide +kernel
theorem dX12_write_65 : decode cX12_write 65 = .ok (.bipush 8, 2) := by decide +kernel
theorem dX12_write_67 : decode cX12_write 67 = .ok (.iload 5, 2) := by decide +kernel
theorem dX12_write_69 : decode cX12_write 69 = .ok (.imul, 1) := by decide +kernel
theorem dX12_write_70 : decode cX12_write 70 = .ok (.lshr, 1) := by decide +kernel
theorem dX12_write_71 : decode cX12_write 71 = .ok (.ldc2_w 116, 3) := by decide +kernel
theorem dX12_write_74 : decode cX12_write 74 = .ok (.land, 1) := by decide +kernel
theorem dX12_write_75 : decode cX12_write 75 = .ok (.l2i, 1) := by decide +kernel
theorem dX12_write_76 : decode cX12_write 76 = .ok (.iastore, 1) := by decide +kernel
theorem dX12_write_77 : decode cX12_write 77 = .ok (.aload_n 0, 1) := by decide +kernel
theorem dX12_write_78 : decode cX12_write 78 = .ok (.getfield 13, 3) := by decide +kernel
theorem dX12_write_81 : decode cX12_write 81 = .ok (.iload_n 1, 1) := by decide +kernel
theorem dX12_write_82 : decode cX12_write 82 = .ok (.dup2, 1) := by decide +kernel
theorem dX12_write_83 : decode cX12_write 83 = .ok (.iaload, 1) := by decide +kernel
theorem dX12_write_84 : decode cX12_write 84 = .ok (.iconst 1, 1) := by decide +kernel
theorem dX12_write_85 : decode cX12_write 85 = .ok (.iadd, 1) := by decide +kernel
theorem dX12_write_86 : decode cX12_write 86 = .ok (.iastore, 1) := by decide +kernel
theorem dX12_write_87 : decode cX12_write 87 = .ok (.iinc 5 (-1), 3) := by decide +kernel
theorem dX12_write_90 : decode cX12_write 90 = .ok (.goto (-47), 3) := by decide +kernel
theorem dX12_write_93 : decode cX12_write 93 = .ok (.aload_n 0, 1) := by decide +kernel
theorem dX12_write_94 : decode cX12_write 94 = .ok (.getfield 13, 3) := by decide +kernel
theorem dX12_write_97 : decode cX12_write 97 = .ok (.iload_n 1, 1) := by decide +kernel
theorem dX12_write_98 : decode cX12_write 98 = .ok (.iaload, 1) := by decide +kernel
theorem dX12_write_99 : decode cX12_write 99 = .ok (.ireturn, 1) := by decide +kernel
def kX12_write_0 : List (Nat × zT) := [(0, a_iload 1 1), (1, a_i 0 2), (2, a_i 1 3), (3, a_call 138 3 6 0 0), (6, a_if_eq 19 9), (9, a_iload 2 10), (10, a_i 1 11), (11, a_i 8 13), (13, a_call 138 3 16 0 0), (16, a_if_ne 21 19), (19, a_i (-1) 20), (20, a_iret false), (21, a_aload 0 22), (22, a_getR 12 1 25), (25, a_iload 1 26), (26, a_iald 27), (27, a_iload 2 28), (28, a_ii (fun x y => x + y) 29), (29, a_i 200 32), (32, a_ic_le 38 35), (35, a_i (-3) 37), (37, a_iret false), (38, a_iload 2 39), (39, a_i 1 40)]
theorem oX12_write_0 : ∀ q ∈ kX12_write_0, zSnd zty false RX12 cX12_write 6 (some .int) false q := List.forall_mem_cons.mpr ⟨ok_iload_n dX12_write_0 rfl, List.forall_mem_cons.mpr ⟨ok_iconst dX12_write_1 (by decide), List.forall_mem_cons.mpr ⟨ok_iconst dX12_write_2 (by decide), List.forall_mem_cons.mpr ⟨ok_callS dX12_write_3 rfl w1084 w1082 w1083 w13 (by decide +kernel) (by decide), List.forall_mem_cons.mpr ⟨ok_if_eq dX12_write_6 (by decide), List.forall_mem_cons.mpr ⟨ok_iload_n dX12_write_9 rfl, List.forall_mem_cons.mpr ⟨ok_iconst dX12_write_10 (by decide), List.forall_mem_cons.mpr ⟨ok_bipush dX12_write_11 (by decide), List.forall_mem_cons.mpr ⟨ok_callS dX12_write_13 rfl w1084 w1082 w1083 w13 (by decide +kernel) (by decide), List.forall_mem_cons.mpr ⟨ok_if_ne dX12_write_16 (by decide), List.forall_mem_cons.mpr ⟨ok_iconst dX12_write_19 (by decide), List.forall_mem_cons.mpr ⟨ok_iret (bz := false) dX12_write_20 rfl, List.forall_mem_cons.mpr ⟨ok_aload_n dX12_write_21 rfl, List.forall_mem_cons.mpr ⟨ok_getR dX12_write_22 rfl in12 (by decide) rfl w958, List.forall_mem_cons.mpr ⟨ok_iload_n dX12_write_25 rfl, List.forall_mem_cons.mpr ⟨ok_iald dX12_write_26, List.forall_mem_cons.mpr ⟨ok_iload_n dX12_write_27 rfl, List.forall_mem_cons.mpr ⟨ok_iadd dX12_write_28, List.forall_mem_cons.mpr ⟨ok_sipush dX12_write_29 (by decide), List.forall_mem_cons.mpr ⟨ok_ic_le dX12_write_32 (by decide), List.forall_mem_cons.mpr ⟨ok_bipush dX12_write_35 (by decide), List.forall_mem_cons.mpr ⟨ok_iret (bz := false) dX12_write_37 rfl, List.forall_mem_cons.mpr ⟨ok_iload_n dX12_write_38 rfl, List.forall_mem_cons.mpr ⟨ok_iconst dX12_write_39 (by decide), fun _ h => absurd h List.not_mem_nil⟩⟩⟩⟩⟩⟩⟩⟩⟩⟩⟩⟩⟩⟩⟩⟩⟩⟩⟩⟩⟩⟩⟩⟩
def kX12_write_1 : List (Nat × zT) := [(40, a_ii (fun x y => x - y) 41), (41, a_istore 5 43), (43, a_iload 5 45), (45, a_if_lt 93 48), (48, a_aload 0 49), (49, a_getR 12 0 52), (52, a_i 200 55), (55, a_iload 1 56), (56, a_ii (fun x y => x * y) 57), (57, a_aload 0 58), (58, a_getR 12 1 61), (61, a_iload 1 62), (62, a_iald 63), (63, a_ii (fun x y => x + y) 64), (64, a_lload 3 65), (65, a_i 8 67), (67, a_iload 5 69), (69, a_ii (fun x y => x * y) 70), (70, a_li (fun x y => x >>> (y.toInt64 &&& 63)) 71), (71, a_l 255 74), (74, a_ll (fun x y => x &&& y) 75), (75, a_l2i 76), (76, a_iast 77), (77, a_aload 0 78)]
theorem oX12_write_1 : ∀ q ∈ kX12_write_1, zSnd zty false RX12 cX12_write 6 (some .int) false q := List.forall_mem_cons.mpr ⟨ok_isub dX12_write_40, List.forall_mem_cons.mpr ⟨ok_istore dX12_write_41 (by decide), List.forall_mem_cons.mpr ⟨ok_iload dX12_write_43, List.forall_mem_cons.mpr ⟨ok_if_lt dX12_write_45 (by decide), List.forall_mem_cons.mpr ⟨ok_aload_n dX12_write_48 rfl, List.forall_mem_cons.mpr ⟨ok_getR dX12_write_49 rfl in12 (by decide) rfl w957, List.forall_mem_cons.mpr ⟨ok_sipush dX12_write_52 (by decide), List.forall_mem_cons.mpr ⟨ok_iload_n dX12_write_55 rfl, List.forall_mem_cons.mpr ⟨ok_imul dX12_write_56, List.forall_mem_cons.mpr ⟨ok_aload_n dX12_write_57 rfl, List.forall_mem_cons.mpr ⟨ok_getR dX12_write_58 rfl in12 (by decide) rfl w958, List.forall_mem_cons.mpr ⟨ok_iload_n dX12_write_61 rfl, List.forall_mem_cons.mpr ⟨ok_iald dX12_write_62, List.forall_mem_cons.mpr ⟨ok_iadd dX12_write_63, List.forall_mem_cons.mpr ⟨ok_lload_n dX12_write_64 rfl, List.forall_mem_cons.mpr ⟨ok_bipush dX12_write_65 (by decide), List.forall_mem_cons.mpr ⟨ok_iload dX12_write_67, List.forall_mem_cons.mpr ⟨ok_imul dX12_write_69, List.forall_mem_cons.mpr ⟨ok_lshr dX12_write_70, List.forall_mem_cons.mpr ⟨ok_ldc2 dX12_write_71 w1085, List.forall_mem_cons.mpr ⟨ok_land dX12_write_74, List.forall_mem_cons.mpr ⟨ok_l2i dX12_write_75, List.forall_mem_cons.mpr ⟨ok_iast dX12_write_76, List.forall_mem_cons.mpr ⟨ok_aload_n dX12_write_77 rfl, fun _ h => absurd h List.not_mem_nil⟩⟩⟩⟩⟩⟩⟩⟩⟩⟩⟩⟩⟩⟩⟩⟩⟩⟩⟩⟩⟩⟩⟩⟩
def kX12_write_2 : List (Nat × zT) := [(78, a_getR 12 1 81), (81, a_iload 1 82), (82, a_dup2 83), (83, a_iald 84), (84, a_i 1 85), (85, a_ii (fun x y => x + y) 86), (86, a_iast 87), (87, a_iinc 5 (-1) 90), (90, a_goto 43), (93, a_aload 0 94), (94, a_getR 12 1 97), (97, a_iload 1 98), (98, a_iald 99), (99, a_iret false)]
theorem oX12_write_2 : ∀ q ∈ kX12_write_2, zSnd zty false RX12 cX12_write 6 (some .int) false q := List.forall_mem_cons.mpr ⟨ok_getR dX12_write_78 rfl in12 (by decide) rfl w958, List.forall_mem_cons.mpr ⟨ok_iload_n dX12_write_81 rfl, List.forall_mem_cons.mpr ⟨ok_dup2 dX12_write_82, List.forall_mem_cons.mpr ⟨ok_iald dX12_write_83, List.forall_mem_cons.mpr ⟨ok_iconst dX12_write_84 (by decide), List.forall_mem_cons.mpr ⟨ok_iadd dX12_write_85, List.forall_mem_cons.mpr ⟨ok_iast dX12_write_86, List.forall_mem_cons.mpr ⟨ok_iinc dX12_write_87 (by decide) (by decide), List.forall_mem_cons.mpr ⟨ok_goto dX12_write_90 (by decide), List.forall_mem_cons.mpr ⟨ok_aload_n dX12_write_93 rfl, List.forall_mem_cons.mpr ⟨ok_getR dX12_write_94 rfl in12 (by decide) rfl w958, List.forall_mem_cons.mpr ⟨ok_iload_n dX12_write_97 rfl, List.forall_mem_cons.mpr ⟨ok_iald dX12_write_98, List.forall_mem_cons.mpr ⟨ok_iret (bz := false) dX12_write_99 rfl, fun _ h => absurd h List.not_mem_nil⟩⟩⟩⟩⟩⟩⟩⟩⟩⟩⟩⟩⟩⟩
def kX12_write : List (Nat × zT) := kX12_write_0 ++ (kX12_write_1 ++ (kX12_write_2))
theorem qX12_write_0 : ∀ q ∈ kX12_write_0, q ∈ kX12_write := fun _ h => (List.mem_append_left _ h)
theorem tX12_write_0 : (0, a_iload 1 1) ∈ kX12_write := qX12_write_0 _ (List.mem_of_getElem? (i := 0) rfl)
theorem tX12_write_1 : (1, a_i 0 2) ∈ kX12_write := qX12_write_0 _ (List.mem_of_getElem? (i := 1) rfl)
theorem tX12_write_2 : (2, a_i 1 3) ∈ kX12_write := qX12_write_0 _ (List.mem_of_getElem? (i := 2) rfl)
theorem tX12_write_3 : (3, a_call 138 3 6 0 0) ∈ kX12_write := qX12_write_0 _ (List.mem_of_getElem? (i := 3) rfl)
theorem tX12_write_6 : (6, a_if_eq 19 9) ∈ kX12_write := qX12_write_0 _ (List.mem_of_getElem? (i := 4) rfl)
theorem tX12_write_9 : (9, a_iload 2 10) ∈ kX12_write := qX12_write_0 _ (List.mem_of_getElem? (i := 5) rfl)
theorem tX12_write_10 : (10, a_i 1 11) ∈ kX12_write := qX12_write_0 _ (List.mem_of_getElem? (i := 6) rfl)
theorem tX12_write_11 : (11, a_i 8 13) ∈ kX12_write := qX12_write_0 _ (List.mem_of_getElem? (i := 7) rfl)
theorem tX12_write_13 : (13, a_call 138 3 16 0 0) ∈ kX12_write := qX12_write_0 _ (List.mem_of_getElem? (i := 8) rfl)
theorem tX12_write_16 : (16, a_if_ne 21 19) ∈ kX12_write := qX12_write_0 _ (List.mem_of_getElem? (i := 9) rfl)
theorem tX12_write_19 : (19, a_i (-1) 20) ∈ kX12_write := qX12_write_0 _ (List.mem_of_getElem? (i := 10) rfl)
theorem tX12_write_20 : (20, a_iret false) ∈ kX12_write := qX12_write_0 _ (List.mem_of_getElem? (i := 11) rfl)
theorem tX12_write_21 : (21, a_aload 0 22) ∈ kX12_write := qX12_write_0 _ (List.mem_of_getElem? (i := 12) rfl)
theorem tX12_write_22 : (22, a_getR 12 1 25) ∈ kX12_write := qX12_write_0 _ (List.mem_of_getElem? (i := 13) rfl)
theorem tX12_write_25 : (25, a_iload 1 26) ∈ kX12_write := qX12_write_0 _ (List.mem_of_getElem? (i := 14) rfl)
theorem tX12_write_26 : (26, a_iald 27) ∈ kX12_write := qX12_write_0 _ (List.mem_of_getElem? (i := 15) rfl)
theorem tX12_write_27 : (27, a_iload 2 28) ∈ kX12_write := qX12_write_0 _ (List.mem_of_getElem? (i := 16) rfl)
theorem tX12_write_28 : (28, a_ii (fun x y => x + y) 29) ∈ kX12_write := qX12_write_0 _ (List.mem_of_getElem? (i := 17) rfl)
theorem tX12_write_29 : (29, a_i 200 32) ∈ kX12_write := qX12_write_0 _ (List.mem_of_getElem? (i := 18) rfl)
theorem tX12_write_32 : (32, a_ic_le 38 35) ∈ kX12_write := qX12_write_0 _ (List.mem_of_getElem? (i := 19) rfl)
theorem tX12_write_35 : (35, a_i (-3) 37) ∈ kX12_write := qX12_write_0 _ (List.mem_of_getElem? (i := 20) rfl)
theorem tX12_write_37 : (37, a_iret false) ∈ kX12_write := qX12_write_0 _ (List.mem_of_getElem? (i := 21) rfl)
theorem tX12_write_38 : (38, a_iload 2 39) ∈ kX12_write := qX12_write_0 _ (List.mem_of_getElem? (i := 22) rfl)
theorem tX12_write_39 : (39, a_i 1 40) ∈ kX12_write := qX12_write_0 _ (List.mem_of_getElem? (i := 23) rfl)
theorem qX12_write_1 : ∀ q ∈ kX12_write_1, q ∈ kX12_write := fun _ h => (List.mem_append_right _ (List.mem_append_left _ h))
theorem tX12_write_40 : (40, a_ii (fun x y => x - y) 41) ∈ kX12_write := qX12_write_1 _ (List.mem_of_getElem? (i := 0) rfl)
theorem tX12_write_41 : (41, a_istore 5 43) ∈ kX12_write := qX12_write_1 _ (List.mem_of_getElem? (i := 1) rfl)
theorem tX12_write_43 : (43, a_iload 5 45) ∈ kX12_write := qX12_write_1 _ (List.mem_of_getElem? (i := 2) rfl)
theorem tX12_write_45 : (45, a_if_lt 93 48) ∈ kX12_write := qX12_write_1 _ (List.mem_of_getElem? (i := 3) rfl)
theorem tX12_write_48 : (48, a_aload 0 49) ∈ kX12_write := qX12_write_1 _ (List.mem_of_getElem? (i := 4) rfl)
theorem tX12_write_49 : (49, a_getR 12 0 52) ∈ kX12_write := qX12_write_1 _ (List.mem_of_getElem? (i := 5) rfl)
theorem tX12_write_52 : (52, a_i 200 55) ∈ kX12_write := qX12_write_1 _ (List.mem_of_getElem? (i := 6) rfl)
theorem tX12_write_55 : (55, a_iload 1 56) ∈ kX12_write := qX12_write_1 _ (List.mem_of_getElem? (i := 7) rfl)
theorem tX12_write_56 : (56, a_ii (fun x y => x * y) 57) ∈ kX12_write := qX12_write_1 _ (List.mem_of_getElem? (i := 8) rfl)
theorem tX12_write_57 : (57, a_aload 0 58) ∈ kX12_write := qX12_write_1 _ (List.mem_of_getElem? (i := 9) rfl)
theorem tX12_write_58 : (58, a_getR 12 1 61) ∈ kX12_write := qX12_write_1 _ (List.mem_of_getElem? (i := 10) rfl)
theorem tX12_write_61 : (61, a_iload 1 62) ∈ kX12_write := qX12_write_1 _ (List.mem_of_getElem? (i := 11) rfl)
theorem tX12_write_62 : (62, a_iald 63) ∈ kX12_write := qX12_write_1 _ (List.mem_of_getElem? (i := 12) rfl)
theorem tX12_write_63 : (63, a_ii (fun x y => x + y) 64) ∈ kX12_write := qX12_write_1 _ (List.mem_of_getElem? (i := 13) rfl)
theorem tX12_write_64 : (64, a_lload 3 65) ∈ kX12_write := qX12_write_1 _ (List.mem_of_getElem? (i := 14) rfl)
theorem tX12_write_65 : (65, a_i 8 67) ∈ kX12_write := qX12_write_1 _ (List.mem_of_getElem? (i := 15) rfl)
theorem tX12_write_67 : (67, a_iload 5 69) ∈ kX12_write := qX12_write_1 _ (List.mem_of_getElem? (i := 16) rfl)
theorem tX12_write_69 : (69, a_ii (fun x y => x * y) 70) ∈ kX12_write := qX12_write_1 _ (List.mem_of_getElem? (i := 17) rfl)
theorem tX12_write_70 : (70, a_li (fun x y => x >>> (y.toInt64 &&& 63)) 71) ∈ kX12_write := qX12_write_1 _ (List.mem_of_getElem? (i := 18) rfl)
theorem tX12_write_71 : (71, a_l 255 74) ∈ kX12_write := qX12_write_1 _ (List.mem_of_getElem? (i := 19) rfl)
theorem tX12_write_74 : (74, a_ll (fun x y => x &&& y) 75) ∈ kX12_write := qX12_write_1 _ (List.mem_of_getElem? (i := 20) rfl)
theorem tX12_write_75 : (75, a_l2i 76) ∈ kX12_write := qX12_write_1 _ (List.mem_of_getElem? (i := 21) rfl)
theorem tX12_write_76 : (76, a_iast 77) ∈ kX12_write := qX12_write_1 _ (List.mem_of_getElem? (i := 22) rfl)
theorem tX12_write_77 : (77, a_aload 0 78) ∈ kX12_write := qX12_write_1 _ (List.mem_of_getElem? (i := 23) rfl)
theorem qX12_write_2 : ∀ q ∈ kX12_write_2, q ∈ kX12_write := fun _ h => (List.mem_append_right _ (List.mem_append_right _ h))
theorem tX12_write_78 : (78, a_getR 12 1 81) ∈ kX12_write := qX12_write_2 _ (List.mem_of_getElem? (i := 0) rfl)
theorem tX12_write_81 : (81, a_iload 1 82) ∈ kX12_write := qX12_write_2 _ (List.mem_of_getElem? (i := 1) rfl)
theorem tX12_write_82 : (82, a_dup2 83) ∈ kX12_write := qX12_write_2 _ (List.mem_of_getElem? (i := 2) rfl)
theorem tX12_write_83 : (83, a_iald 84) ∈ kX12_write := qX12_write_2 _ (List.mem_of_getElem? (i := 3) rfl)
theorem tX12_write_84 : (84, a_i 1 85) ∈ kX12_write := qX12_write_2 _ (List.mem_of_getElem? (i := 4) rfl)
theorem tX12_write_85 : (85, a_ii (fun x y => x + y) 86) ∈ kX12_write := qX12_write_2 _ (List.mem_of_getElem? (i := 5) rfl)
theorem tX12_write_86 : (86, a_iast 87) ∈ kX12_write := qX12_write_2 _ (List.mem_of_getElem? (i := 6) rfl)
theorem tX12_write_87 : (87, a_iinc 5 (-1) 90) ∈ kX12_write := qX12_write_2 _ (List.mem_of_getElem? (i := 7) rfl)
theorem tX12_write_90 : (90, a_goto 43) ∈ kX12_write := qX12_write_2 _ (List.mem_of_getElem? (i := 8) rfl)
theorem tX12_write_93 : (93, a_aload 0 94) ∈ kX12_write := qX12_write_2 _ (List.mem_of_getElem? (i := 9) rfl)
theorem tX12_write_94 : (94, a_getR 12 1 97) ∈ kX12_write := qX12_write_2 _ (List.mem_of_getElem? (i := 10) rfl)
theorem tX12_write_97 : (97, a_iload 1 98) ∈ kX12_write := qX12_write_2 _ (List.mem_of_getElem? (i := 11) rfl)
theorem tX12_write_98 : (98, a_iald 99) ∈ kX12_write := qX12_write_2 _ (List.mem_of_getElem? (i := 12) rfl)
theorem tX12_write_99 : (99, a_iret false) ∈ kX12_write := qX12_write_2 _ (List.mem_of_getElem? (i := 13) rfl)
theorem oX12_write : ∀ q ∈ kX12_write, zSnd zty false RX12 cX12_write 6 (some .int) false q := List.forall_mem_append.mpr ⟨oX12_write_0, List.forall_mem_append.mpr ⟨oX12_write_1, oX12_write_2⟩⟩
theorem dX12_clear_0 : decode cX12_clear 0 = .ok (.iload_n 1, 1) := by decide +kernel
theorem dX12_clear_1 : decode cX12_clear 1 = .ok (.iconst 0, 1) := by decide +kernel
theorem dX12_clear_2 : decode cX12_clear 2 = .ok (.iconst 1, 1) := by decide +kernel
theorem dX12_clear_3 : decode cX12_clear 3 = .ok (.invokestatic 112, 3) := by decide +kernel
theorem dX12_clear_6 : decode cX12_clear 6 = .ok (.ifCond .ne 5, 3) := by decide +kernel
theorem dX12_clear_9 : decode cX12_clear 9 = .ok (.iconst (-1), 1) := by decide +kernel
theorem dX12_clear_10 : decode cX12_clear 10 = .ok (.ireturn, 1) := by decide +kernel
theorem dX12_clear_11 : decode cX12_clear 11 = .ok (.aload_n 0, 1) := by decide +kernel
theorem dX12_clear_12 : decode cX12_clear 12 = .ok (.getfield 13, 3) := by decide +kernel
theorem dX12_clear_15 : decode cX12_clear 15 = .ok (.iload_n 1, 1) := by decide +kernel
theorem dX12_clear_16 : decode cX12_clear 16 = .ok (.iaload, 1) := by decide +kernel
theorem dX12_clear_17 : decode cX12_clear 17 = .ok (.istore_n 2, 1) := by decide +kernel
theorem dX12_clear_18 : decode cX12_clear 18 = .ok (.aload_n 0, 1) := by decide +kernel
theorem dX12_clear_19 : decode cX12_clear 19 = .ok (.getfield 13, 3) := by decide +kernel
theorem dX12_clear_22 : decode cX12_clear 22 = .ok (.iload_n 1, 1) := by decide +kernel
theorem dX12_clear_23 : decode cX12_clear 23 = .ok (.iconst 0, 1) := by decide +kernel
theorem dX12_clear_24 : decode cX12_clear 24 = .ok (.iastore, 1) := by decide +kernel
theorem dX12_clear_25 : decode cX12_clear 25 = .ok (.iload_n 2, 1) := by decide +kernel
theorem dX12_clear_26 : decode cX12_clear 26 = .ok (.ireturn, 1) := by decide +kernel
def kX12_clear_0 : List (Nat × zT) := [(0, a_iload 1 1), (1, a_i 0 2), (2, a_i 1 3), (3, a_call 138 3 6 0 0), (6, a_if_ne 11 9), (9, a_i (-1) 10), (10, a_iret false), (11, a_aload 0 12), (12, a_getR 12 1 15), (15, a_iload 1 16), (16, a_iald 17), (17, a_istore 2 18), (18, a_aload 0 19), (19, a_getR 12 1 22), (22, a_iload 1 23), (23, a_i 0 24), (24, a_iast 25), (25, a_iload 2 26), (26, a_iret false)]
theorem oX12_clear_0 : ∀ q ∈ kX12_clear_0, zSnd zty false RX12 cX12_clear 3 (some .int) false q := List.forall_mem_cons.mpr ⟨ok_iload_n dX12_clear_0 rfl, List.forall_mem_cons.mpr ⟨ok_iconst dX12_clear_1 (by decide), List.forall_mem_cons.mpr ⟨ok_iconst dX12_clear_2 (by decide), List.forall_mem_cons.mpr ⟨ok_callS dX12_clear_3 rfl w1084 w1082 w1083 w13 (by decide +kernel) (by decide), List.forall_mem_cons.mpr ⟨ok_if_ne dX12_clear_6 (by decide), List.forall_mem_cons.mpr ⟨ok_iconst dX12_clear_9 (by decide), List.forall_mem_cons.mpr ⟨ok_iret (bz := false) dX12_clear_10 rfl, List.forall_mem_cons.mpr ⟨ok_aload_n dX12_clear_11 rfl, List.forall_mem_cons.mpr ⟨ok_getR dX12_clear_12 rfl in12 (by decide) rfl w958, List.forall_mem_cons.mpr ⟨ok_iload_n dX12_clear_15 rfl, List.forall_mem_cons.mpr ⟨ok_iald dX12_clear_16, List.forall_mem_cons.mpr ⟨ok_istore_n dX12_clear_17 rfl (by decide), List.forall_mem_cons.mpr ⟨ok_aload_n dX12_clear_18 rfl, List.forall_mem_cons.mpr ⟨ok_getR dX12_clear_19 rfl in12 (by decide) rfl w958, List.forall_mem_cons.mpr ⟨ok_iload_n dX12_clear_22 rfl, List.forall_mem_cons.mpr ⟨ok_iconst dX12_clear_23 (by decide), List.forall_mem_cons.mpr ⟨ok_iast dX12_clear_24, List.forall_mem_cons.mpr ⟨ok_iload_n dX12_clear_25 rfl, List.forall_mem_cons.mpr ⟨ok_iret (bz := false) dX12_clear_26 rfl, fun _ h => absurd h List.not_mem_nil⟩⟩⟩⟩⟩⟩⟩⟩⟩⟩⟩⟩⟩⟩⟩⟩⟩⟩⟩
def kX12_clear : List (Nat × zT) := kX12_clear_0
theorem qX12_clear_0 : ∀ q ∈ kX12_clear_0, q ∈ kX12_clear := fun _ h => h
theorem tX12_clear_0 : (0, a_iload 1 1) ∈ kX12_clear := qX12_clear_0 _ (List.mem_of_getElem? (i := 0) rfl)
theorem tX12_clear_1 : (1, a_i 0 2) ∈ kX12_clear := qX12_clear_0 _ (List.mem_of_getElem? (i := 1) rfl)
theorem tX12_clear_2 : (2, a_i 1 3) ∈ kX12_clear := qX12_clear_0 _ (List.mem_of_getElem? (i := 2) rfl)
theorem tX12_clear_3 : (3, a_call 138 3 6 0 0) ∈ kX12_clear := qX12_clear_0 _ (List.mem_of_getElem? (i := 3) rfl)
theorem tX12_clear_6 : (6, a_if_ne 11 9) ∈ kX12_clear := qX12_clear_0 _ (List.mem_of_getElem? (i := 4) rfl)
theorem tX12_clear_9 : (9, a_i (-1) 10) ∈ kX12_clear := qX12_clear_0 _ (List.mem_of_getElem? (i := 5) rfl)
theorem tX12_clear_10 : (10, a_iret false) ∈ kX12_clear := qX12_clear_0 _ (List.mem_of_getElem? (i := 6) rfl)
theorem tX12_clear_11 : (11, a_aload 0 12) ∈ kX12_clear := qX12_clear_0 _ (List.mem_of_getElem? (i := 7) rfl)
theorem tX12_clear_12 : (12, a_getR 12 1 15) ∈ kX12_clear := qX12_clear_0 _ (List.mem_of_getElem? (i := 8) rfl)
theorem tX12_clear_15 : (15, a_iload 1 16) ∈ kX12_clear := qX12_clear_0 _ (List.mem_of_getElem? (i := 9) rfl)
theorem tX12_clear_16 : (16, a_iald 17) ∈ kX12_clear := qX12_clear_0 _ (List.mem_of_getElem? (i := 10) rfl)
theorem tX12_clear_17 : (17, a_istore 2 18) ∈ kX12_clear := qX12_clear_0 _ (List.mem_of_getElem? (i := 11) rfl)
theorem tX12_clear_18 : (18, a_aload 0 19) ∈ kX12_clear := qX12_clear_0 _ (List.mem_of_getElem? (i := 12) rfl)
theorem tX12_clear_19 : (19, a_getR 12 1 22) ∈ kX12_clear := qX12_clear_0 _ (List.mem_of_getElem? (i := 13) rfl)
theorem tX12_clear_22 : (22, a_iload 1 23) ∈ kX12_clear := qX12_clear_0 _ (List.mem_of_getElem? (i := 14) rfl)
theorem tX12_clear_23 : (23, a_i 0 24) ∈ kX12_clear := qX12_clear_0 _ (List.mem_of_getElem? (i := 15) rfl)
theorem tX12_clear_24 : (24, a_iast 25) ∈ kX12_clear := qX12_clear_0 _ (List.mem_of_getElem? (i := 16) rfl)
theorem tX12_clear_25 : (25, a_iload 2 26) ∈ kX12_clear := qX12_clear_0 _ (List.mem_of_getElem? (i := 17) rfl)
theorem tX12_clear_26 : (26, a_iret false) ∈ kX12_clear := qX12_clear_0 _ (List.mem_of_getElem? (i := 18) rfl)
theorem oX12_clear : ∀ q ∈ kX12_clear, zSnd zty false RX12 cX12_clear 3 (some .int) false q := oX12_clear_0
theorem dX12_takes_0 : decode cX12_takes 0 = .ok (.iload_n 0, 1) := by decide +kernel
theorem dX12_takes_1 : decode cX12_takes 1 = .ok (.bipush 97, 2) := by decide +kernel
theorem dX12_takes_3 : decode cX12_takes 3 = .ok (.bipush 115, 2) := by decide +kernel
theorem dX12_takes_5 : decode cX12_takes 5 = .ok (.invokestatic 112, 3) := by decide +kernel
theorem dX12_takes_8 : decode cX12_takes 8 = .ok (.ifCond .ne 15, 3) := by decide +kernel
theorem dX12_takes_11 : decode cX12_takes 11 = .ok (.iload_n 0, 1) := by decide +kernel
theorem dX12_takes_12 : decode cX12_takes 12 = .ok (.bipush 48, 2) := by decide +kernel
theorem dX12_takes_14 : decode cX12_takes 14 = .ok (.if_icmp .eq 9, 3) := by decide +kernel
theorem dX12_takes_17 : decode cX12_takes 17 = .ok (.iload_n 0, 1) := by decide +kernel
theorem dX12_takes_18 : decode cX12_takes 18 = .ok (.bipush 49, 2) := by decide +kernel
theorem dX12_takes_20 : decode cX12_takes 20 = .ok (.if_icmp .ne 5, 3) := by decide +kernel
theorem dX12_takes_23 : decode cX12_takes 23 = .ok (.iconst 0, 1) := by decide +kernel
theorem dX12_takes_24 : decode cX12_takes 24 = .ok (.ireturn, 1) := by decide +kernel
theorem dX12_takes_25 : decode cX12_takes 25 = .ok (.iload_n 0, 1) := by decide +kernel
theorem dX12_takes_26 : decode cX12_takes 26 = .ok (.bipush 126, 2) := by decide +kernel
theorem dX12_takes_28 : decode cX12_takes 28 = .ok (.if_icmp .ne 7, 3) := by decide +kernel
theorem dX12_takes_31 : decode cX12_takes 31 = .ok (.iconst 1, 1) := by decide +kernel
theorem dX12_takes_32 : decode cX12_takes 32 = .ok (.goto 37, 3) := by decide +kernel
theorem dX12_takes_35 : decode cX12_takes 35 = .ok (.iload_n 0, 1) := by decide +kernel
theorem dX12_takes_36 : decode cX12_takes 36 = .ok (.bipush 38, 2) := by decide +kernel
theorem dX12_takes_38 : decode cX12_takes 38 = .ok (.if_icmp .eq 15, 3) := by decide +kernel
theorem dX12_takes_41 : decode cX12_takes 41 = .ok (.iload_n 0, 1) := by decide +kernel
theorem dX12_takes_42 : decode cX12_takes 42 = .ok (.bipush 124, 2) := by decide +kernel
theorem dX12_takes_44 : decode cX12_takes 44 = .ok (.if_icmp .eq 9, 3) := by decide +kernel
theorem dX12_takes_47 : decode cX12_takes 47 = .ok (.iload_n 0, 1) := by decide +kernel
theorem dX12_takes_48 : decode cX12_takes 48 = .ok (.bipush 94, 2) := by decide +kernel
theorem dX12_takes_50 : decode cX12_takes 50 = .ok (.if_icmp .ne 7, 3) := by decide +kernel
theorem dX12_takes_53 : decode cX12_takes 53 = .ok (.iconst 2, 1) := by decide +kernel
theorem dX12_takes_54 : decode cX12_takes 54 = .ok (.goto 15, 3) := by decide +kernel
theorem dX12_takes_57 : decode cX12_takes 57 = .ok (.iload_n 0, 1) := by decide +kernel
theorem dX12_takes_58 : decode cX12_takes 58 = .ok (.bipush 63, 2) := by decide +kernel
theorem dX12_takes_60 : decode cX12_takes 60 = .ok (.if_icmp .ne 7, 3) := by decide +kernel
theorem dX12_takes_63 : decode cX12_takes 63 = .ok (.iconst 3, 1) := by decide +kernel
theorem dX12_takes_64 : decode cX12_takes 64 = .ok (.goto 5, 3) := by decide +kernel
theorem dX12_takes_67 : decode cX12_takes 67 = .ok (.bipush (-4), 2) := by decide +kernel
theorem dX12_takes_69 : decode cX12_takes 69 = .ok (.ireturn, 1) := by decide +kernel
def kX12_takes_0 : List (Nat × zT) := [(0, a_iload 0 1), (1, a_i 97 3), (3, a_i 115 5), (5, a_call 138 3 8 0 0), (8, a_if_ne 23 11), (11, a_iload 0 12), (12, a_i 48 14), (14, a_ic_eq 23 17), (17, a_iload 0 18), (18, a_i 49 20), (20, a_ic_ne 25 23), (23, a_i 0 24), (24, a_iret false), (25, a_iload 0 26), (26, a_i 126 28), (28, a_ic_ne 35 31), (31, a_i 1 32), (32, a_goto 69), (35, a_iload 0 36), (36, a_i 38 38), (38, a_ic_eq 53 41), (41, a_iload 0 42), (42, a_i 124 44), (44, a_ic_eq 53 47)]
theorem oX12_takes_0 : ∀ q ∈ kX12_takes_0, zSnd zty false RX12 cX12_takes 1 (some .int) false q := List.forall_mem_cons.mpr ⟨ok_iload_n dX12_takes_0 rfl, List.forall_mem_cons.mpr ⟨ok_bipush dX12_takes_1 (by decide), List.forall_mem_cons.mpr ⟨ok_bipush dX12_takes_3 (by decide), List.forall_mem_cons.mpr ⟨ok_callS dX12_takes_5 rfl w1084 w1082 w1083 w13 (by decide +kernel) (by decide), List.forall_mem_cons.mpr ⟨ok_if_ne dX12_takes_8 (by decide), List.forall_mem_cons.mpr ⟨ok_iload_n dX12_takes_11 rfl, List.forall_mem_cons.mpr ⟨ok_bipush dX12_takes_12 (by decide), List.forall_mem_cons.mpr ⟨ok_ic_eq dX12_takes_14 (by decide), List.forall_mem_cons.mpr ⟨ok_iload_n dX12_takes_17 rfl, List.forall_mem_cons.mpr ⟨ok_bipush dX12_takes_18 (by decide), List.forall_mem_cons.mpr ⟨ok_ic_ne dX12_takes_20 (by decide), List.forall_mem_cons.mpr ⟨ok_iconst dX12_takes_23 (by decide), List.forall_mem_cons.mpr ⟨ok_iret (bz := false) dX12_takes_24 rfl, List.forall_mem_cons.mpr ⟨ok_iload_n dX12_takes_25 rfl, List.forall_mem_cons.mpr ⟨ok_bipush dX12_takes_26 (by decide), List.forall_mem_cons.mpr ⟨ok_ic_ne dX12_takes_28 (by decide), List.forall_mem_cons.mpr ⟨ok_iconst dX12_takes_31 (by decide), List.forall_mem_cons.mpr ⟨ok_goto dX12_takes_32 (by decide), List.forall_mem_cons.mpr ⟨ok_iload_n dX12_takes_35 rfl, List.forall_mem_cons.mpr ⟨ok_bipush dX12_takes_36 (by decide), List.forall_mem_cons.mpr ⟨ok_ic_eq dX12_takes_38 (by decide), List.forall_mem_cons.mpr ⟨ok_iload_n dX12_takes_41 rfl, List.forall_mem_cons.mpr ⟨ok_bipush dX12_takes_42 (by decide), List.forall_mem_cons.mpr ⟨ok_ic_eq dX12_takes_44 (by decide), fun _ h => absurd h List.not_mem_nil⟩⟩⟩⟩⟩⟩⟩⟩⟩⟩⟩⟩⟩⟩⟩⟩⟩⟩⟩⟩⟩⟩⟩⟩
def kX12_takes_1 : List (Nat × zT) := [(47, a_iload 0 48), (48, a_i 94 50), (50, a_ic_ne 57 53), (53, a_i 2 54), (54, a_goto 69), (57, a_iload 0 58), (58, a_i 63 60), (60, a_ic_ne 67 63), (63, a_i 3 64), (64, a_goto 69), (67, a_i (-4) 69), (69, a_iret false)]
theorem oX12_takes_1 : ∀ q ∈ kX12_takes_1, zSnd zty false RX12 cX12_takes 1 (some .int) false q := List.forall_mem_cons.mpr ⟨ok_iload_n dX12_takes_47 rfl, List.forall_mem_cons.mpr ⟨ok_bipush dX12_takes_48 (by decide), List.forall_mem_cons.mpr ⟨ok_ic_ne dX12_takes_50 (by decide), List.forall_mem_cons.mpr ⟨ok_iconst dX12_takes_53 (by decide), List.forall_mem_cons.mpr ⟨ok_goto dX12_takes_54 (by decide), List.forall_mem_cons.mpr ⟨ok_iload_n dX12_takes_57 rfl, List.forall_mem_cons.mpr ⟨ok_bipush dX12_takes_58 (by decide), List.forall_mem_cons.mpr ⟨ok_ic_ne dX12_takes_60 (by decide), List.forall_mem_cons.mpr ⟨ok_iconst dX12_takes_63 (by decide), List.forall_mem_cons.mpr ⟨ok_goto dX12_takes_64 (by decide), List.forall_mem_cons.mpr ⟨ok_bipush dX12_takes_67 (by decide), List.forall_mem_cons.mpr ⟨ok_iret (bz := false) dX12_takes_69 rfl, fun _ h => absurd h List.not_mem_nil⟩⟩⟩⟩⟩⟩⟩⟩⟩⟩⟩⟩
def kX12_takes : List (Nat × zT) := kX12_takes_0 ++ (kX12_takes_1)
theorem qX12_takes_0 : ∀ q ∈ kX12_takes_0, q ∈ kX12_takes := fun _ h => (List.mem_append_left _ h)
theorem tX12_takes_0 : (0, a_iload 0 1) ∈ kX12_takes := qX12_takes_0 _ (List.mem_of_getElem? (i := 0) rfl)
theorem tX12_takes_1 : (1, a_i 97 3) ∈ kX12_takes := qX12_takes_0 _ (List.mem_of_getElem? (i := 1) rfl)
theorem tX12_takes_3 : (3, a_i 115 5) ∈ kX12_takes := qX12_takes_0 _ (List.mem_of_getElem? (i := 2) rfl)
theorem tX12_takes_5 : (5, a_call 138 3 8 0 0) ∈ kX12_takes := qX12_takes_0 _ (List.mem_of_getElem? (i := 3) rfl)
theorem tX12_takes_8 : (8, a_if_ne 23 11) ∈ kX12_takes := qX12_takes_0 _ (List.mem_of_getElem? (i := 4) rfl)
theorem tX12_takes_11 : (11, a_iload 0 12) ∈ kX12_takes := qX12_takes_0 _ (List.mem_of_getElem? (i := 5) rfl)
theorem tX12_takes_12 : (12, a_i 48 14) ∈ kX12_takes := qX12_takes_0 _ (List.mem_of_getElem? (i := 6) rfl)
theorem tX12_takes_14 : (14, a_ic_eq 23 17) ∈ kX12_takes := qX12_takes_0 _ (List.mem_of_getElem? (i := 7) rfl)
theorem tX12_takes_17 : (17, a_iload 0 18) ∈ kX12_takes := qX12_takes_0 _ (List.mem_of_getElem? (i := 8) rfl)
theorem tX12_takes_18 : (18, a_i 49 20) ∈ kX12_takes := qX12_takes_0 _ (List.mem_of_getElem? (i := 9) rfl)
theorem tX12_takes_20 : (20, a_ic_ne 25 23) ∈ kX12_takes := qX12_takes_0 _ (List.mem_of_getElem? (i := 10) rfl)
theorem tX12_takes_23 : (23, a_i 0 24) ∈ kX12_takes := qX12_takes_0 _ (List.mem_of_getElem? (i := 11) rfl)
theorem tX12_takes_24 : (24, a_iret false) ∈ kX12_takes := qX12_takes_0 _ (List.mem_of_getElem? (i := 12) rfl)
theorem tX12_takes_25 : (25, a_iload 0 26) ∈ kX12_takes := qX12_takes_0 _ (List.mem_of_getElem? (i := 13) rfl)
theorem tX12_takes_26 : (26, a_i 126 28) ∈ kX12_takes := qX12_takes_0 _ (List.mem_of_getElem? (i := 14) rfl)
theorem tX12_takes_28 : (28, a_ic_ne 35 31) ∈ kX12_takes := qX12_takes_0 _ (List.mem_of_getElem? (i := 15) rfl)
theorem tX12_takes_31 : (31, a_i 1 32) ∈ kX12_takes := qX12_takes_0 _ (List.mem_of_getElem? (i := 16) rfl)
theorem tX12_takes_32 : (32, a_goto 69) ∈ kX12_takes := qX12_takes_0 _ (List.mem_of_getElem? (i := 17) rfl)
theorem tX12_takes_35 : (35, a_iload 0 36) ∈ kX12_takes := qX12_takes_0 _ (List.mem_of_getElem? (i := 18) rfl)
theorem tX12_takes_36 : (36, a_i 38 38) ∈ kX12_takes := qX12_takes_0 _ (List.mem_of_getElem? (i := 19) rfl)
theorem tX12_takes_38 : (38, a_ic_eq 53 41) ∈ kX12_takes := qX12_takes_0 _ (List.mem_of_getElem? (i := 20) rfl)
theorem tX12_takes_41 : (41, a_iload 0 42) ∈ kX12_takes := qX12_takes_0 _ (List.mem_of_getElem? (i := 21) rfl)
theorem tX12_takes_42 : (42, a_i 124 44) ∈ kX12_takes := qX12_takes_0 _ (List.mem_of_getElem? (i := 22) rfl)
theorem tX12_takes_44 : (44, a_ic_eq 53 47) ∈ kX12_takes := qX12_takes_0 _ (List.mem_of_getElem? (i := 23) rfl)
theorem qX12_takes_1 : ∀ q ∈ kX12_takes_1, q ∈ kX12_takes := fun _ h => (List.mem_append_right _ h)
theorem tX12_takes_47 : (47, a_iload 0 48) ∈ kX12_takes := qX12_takes_1 _ (List.mem_of_getElem? (i := 0) rfl)
theorem tX12_takes_48 : (48, a_i 94 50) ∈ kX12_takes := qX12_takes_1 _ (List.mem_of_getElem? (i := 1) rfl)
theorem tX12_takes_50 : (50, a_ic_ne 57 53) ∈ kX12_takes := qX12_takes_1 _ (List.mem_of_getElem? (i := 2) rfl)
theorem tX12_takes_53 : (53, a_i 2 54) ∈ kX12_takes := qX12_takes_1 _ (List.mem_of_getElem? (i := 3) rfl)
theorem tX12_takes_54 : (54, a_goto 69) ∈ kX12_takes := qX12_takes_1 _ (List.mem_of_getElem? (i := 4) rfl)
theorem tX12_takes_57 : (57, a_iload 0 58) ∈ kX12_takes := qX12_takes_1 _ (List.mem_of_getElem? (i := 5) rfl)
theorem tX12_takes_58 : (58, a_i 63 60) ∈ kX12_takes := qX12_takes_1 _ (List.mem_of_getElem? (i := 6) rfl)
theorem tX12_takes_60 : (60, a_ic_ne 67 63) ∈ kX12_takes := qX12_takes_1 _ (List.mem_of_getElem? (i := 7) rfl)
theorem tX12_takes_63 : (63, a_i 3 64) ∈ kX12_takes := qX12_takes_1 _ (List.mem_of_getElem? (i := 8) rfl)
theorem tX12_takes_64 : (64, a_goto 69) ∈ kX12_takes := qX12_takes_1 _ (List.mem_of_getElem? (i := 9) rfl)
theorem tX12_takes_67 : (67, a_i (-4) 69) ∈ kX12_takes := qX12_takes_1 _ (List.mem_of_getElem? (i := 10) rfl)
theorem tX12_takes_69 : (69, a_iret false) ∈ kX12_takes := qX12_takes_1 _ (List.mem_of_getElem? (i := 11) rfl)
theorem oX12_takes : ∀ q ∈ kX12_takes, zSnd zty false RX12 cX12_takes 1 (some .int) false q := List.forall_mem_append.mpr ⟨oX12_takes_0, oX12_takes_1⟩
theorem dX12_read_0 : decode cX12_read 0 = .ok (.aload_n 0, 1) := by decide +kernel
theorem dX12_read_1 : decode cX12_read 1 = .ok (.getfield 13, 3) := by decide +kernel
theorem dX12_read_4 : decode cX12_read 4 = .ok (.iload_n 1, 1) := by decide +kernel
theorem dX12_read_5 : decode cX12_read 5 = .ok (.iaload, 1) := by decide +kernel
theorem dX12_read_6 : decode cX12_read 6 = .ok (.istore_n 2, 1) := by decide +kernel
theorem dX12_read_7 : decode cX12_read 7 = .ok (.iconst 0, 1) := by decide +kernel
theorem dX12_read_8 : decode cX12_read 8 = .ok (.istore_n 3, 1) := by decide +kernel
theorem dX12_read_9 : decode cX12_read 9 = .ok (.iload_n 3, 1) := by decide +kernel
theorem dX12_read_10 : decode cX12_read 10 = .ok (.bipush 19, 2) := by decide +kernel
theorem dX12_read_12 : decode cX12_read 12 = .ok (.if_icmp .ge 20, 3) := by decide +kernel
theorem dX12_read_15 : decode cX12_read 15 = .ok (.aload_n 0, 1) := by decide +kernel
theorem dX12_read_16 : decode cX12_read 16 = .ok (.getfield 22, 3) := by decide +kernel
theorem dX12_read_19 : decode cX12_read 19 = .ok (.bipush 38, 2) := by decide +kernel
theorem dX12_read_21 : decode cX12_read 21 = .ok (.iload_n 3, 1) := by decide +kernel
theorem dX12_read_22 : decode cX12_read 22 = .ok (.iadd, 1) := by decide +kernel
theorem dX12_read_23 : decode cX12_read 23 = .ok (.bipush (-4), 2) := by decide +kernel
theorem dX12_read_25 : decode cX12_read 25 = .ok (.iastore, 1) := by decide +kernel
theorem dX12_read_26 : decode cX12_read 26 = .ok (.iinc 3 1, 3) := by decide +kernel
theorem dX12_read_29 : decode cX12_read 29 = .ok (.goto (-20), 3) := by decide +kernel
theorem dX12_read_32 : decode cX12_read 32 = .ok (.iconst 0, 1) := by decide +kernel
theorem dX12_read_33 : decode cX12_read 33 = .ok (.istore_n 3, 1) := by decide +kernel
theorem dX12_read_34 : decode cX12_read 34 = .ok (.iload_n 3, 1) := by decide +kernel
theorem dX12_read_35 : decode cX12_read 35 = .ok (.iload_n 2, 1) := by decide +kernel
theorem dX12_read_36 : decode cX12_read 36 = .ok (.if_icmp .ge 31, 3) := by decide +kernel
theorem dX12_read_39 : decode cX12_read 39 = .ok (.aload_n 0, 1) := by decide +kernel
theorem dX12_read_40 : decode cX12_read 40 = .ok (.getfield 16, 3) := by decide +kernel
theorem dX12_read_43 : decode cX12_read 43 = .ok (.sipush 400, 3) := by decide +kernel
theorem dX12_read_46 : decode cX12_read 46 = .ok (.iload_n 3, 1) := by decide +kernel
theorem dX12_read_47 : decode cX12_read 47 = .ok (.iadd, 1) := by decide +kernel
theorem dX12_read_48 : decode cX12_read 48 = .ok (.aload_n 0, 1) := by decide +kernel
theorem dX12_read_49 : decode cX12_read 49 = .ok (.getfield 7, 3) := by decide +kernel
theorem dX12_read_52 : decode cX12_read 52 = .ok (.sipush 200, 3) := by decide +kernel
theorem dX12_read_55 : decode cX12_read 55 = .ok (.iload_n 1, 1) := by decide +kernel
theorem dX12_read_56 : decode cX12_read 56 = .ok (.imul, 1) := by decide +kernel
theorem dX12_read_57 : decode cX12_read 57 = .ok (.iload_n 3, 1) := by decide +kernel
theorem dX12_read_58 : decode cX12_read 58 = .ok (.iadd, 1) := by decide +kernel
theorem dX12_read_59 : decode cX12_read 59 = .ok (.iaload, 1) := by decide +kernel
theorem dX12_read_60 : decode cX12_read 60 = .ok (.iastore, 1) := by decide +kernel
theorem dX12_read_61 : decode cX12_read 61 = .ok (.iinc 3 1, 3) := by decide +kernel
theorem dX12_read_64 : decode cX12_read 64 = .ok (.goto (-30), 3) := by decide +kernel
theorem dX12_read_67 : decode cX12_read 67 = .ok (.aload_n 0, 1) := by decide +kernel
theorem dX12_read_68 : decode cX12_read 68 = .ok (.getfield 25, 3) := by decide +kernel
theorem dX12_read_71 : decode cX12_read 71 = .ok (.iconst 2, 1) := by decide +kernel
theorem dX12_read_72 : decode cX12_read 72 = .ok (.iconst 0, 1) := by decide +kernel
theorem dX12_read_73 : decode cX12_read 73 = .ok (.iastore, 1) := by decide +kernel
theorem dX12_read_74 : decode cX12_read 74 = .ok (.iconst 0, 1) := by decide +kernel
theorem dX12_read_75 : decode cX12_read 75 = .ok (.istore_n 3, 1) := by decide +kernel
theorem dX12_read_76 : decode cX12_read 76 = .ok (.iload_n 3, 1) := by decide +kernel
theorem dX12_read_77 : decode cX12_read 77 = .ok (.iload_n 2, 1) := by decide +kernel
theorem dX12_read_78 : decode cX12_read 78 = .ok (.if_icmp .ge 214, 3) := by decide +kernel
theorem dX12_read_81 : decode cX12_read 81 = .ok (.aload_n 0, 1) := by decide +kernel
theorem dX12_read_82 : decode cX12_read 82 = .ok (.getfield 16, 3) := by decide +kernel
theorem dX12_read_85 : decode cX12_read 85 = .ok (.sipush 400, 3) := by decide +kernel
theorem dX12_read_88 : decode cX12_read 88 = .ok (.iload_n 3, 1) := by decide +kernel
theorem dX12_read_89 : decode cX12_read 89 = .ok (.iadd, 1) := by decide +kernel
theorem dX12_read_90 : decode cX12_read 90 = .ok (.iaload, 1) := by decide +kernel
theorem dX12_read_91 : decode cX12_read 91 = .ok (.bipush 97, 2) := by decide +kernel
theorem dX12_read_93 : decode cX12_read 93 = .ok (.isub, 1) := by decide +kernel
theorem dX12_read_94 : decode cX12_read 94 = .ok (.istore 4, 2) := by decide +kernel
theorem dX12_read_96 : decode cX12_read 96 = .ok (.iload 4, 2) := by decide +kernel
theorem dX12_read_98 : decode cX12_read 98 = .ok (.bipush 6, 2) := by decide +kernel
theorem dX12_read_100 : decode cX12_read 100 = .ok (.bipush 18, 2) := by decide +kernel
theorem dX12_read_102 : decode cX12_read 102 = .ok (.invokestatic 112, 3) := by decide +kernel
theorem dX12_read_105 : decode cX12_read 105 = .ok (.ifCond .eq 18, 3) := by decide +kernel
theorem dX12_read_108 : decode cX12_read 108 = .ok (.aload_n 0, 1) := by decide +kernel
theorem dX12_read_109 : decode cX12_read 109 = .ok (.getfield 22, 3) := by decide +kernel
theorem dX12_read_112 : decode cX12_read 112 = .ok (.bipush 38, 2) := by decide +kernel
theorem dX12_read_114 : decode cX12_read 114 = .ok (.iload 4, 2) := by decide +kernel
theorem dX12_read_116 : decode cX12_read 116 = .ok (.iadd, 1) := by decide +kernel
theorem dX12_read_117 : decode cX12_read 117 = .ok (.iaload, 1) := by decide +kernel
theorem dX12_read_118 : decode cX12_read 118 = .ok (.bipush (-4), 2) := by decide +kernel
theorem dX12_read_120 : decode cX12_read 120 = .ok (.if_icmp .eq 5, 3) := by decide +kernel
theorem dX12_read_123 : decode cX12_read 123 = .ok (.iload_n 3, 1) := by decide +kernel
theorem dX12_read_124 : decode cX12_read 124 = .ok (.ireturn, 1) := by decide +kernel
theorem dX12_read_125 : decode cX12_read 125 = .ok (.iinc 3 1, 3) := by decide +kernel
theorem dX12_read_128 : decode cX12_read 128 = .ok (.iload_n 3, 1) := by decide +kernel
theorem dX12_read_129 : decode cX12_read 129 = .ok (.iload_n 2, 1) := by decide +kernel
theorem dX12_read_130 : decode cX12_read 130 = .ok (.if_icmp .eq 18, 3) := by decide +kernel
theorem dX12_read_133 : decode cX12_read 133 = .ok (.aload_n 0, 1) := by decide +kernel
theorem dX12_read_134 : decode cX12_read 134 = .ok (.getfield 16, 3) := by decide +kernel
theorem dX12_read_137 : decode cX12_read 137 = .ok (.sipush 400, 3) := by decide +kernel
theorem dX12_read_140 : decode cX12_read 140 = .ok (.iload_n 3, 1) := by decide +kernel
theorem dX12_read_141 : decode cX12_read 141 = .ok (.iadd, 1) := by decide +kernel
theorem dX12_read_142 : decode cX12_read 142 = .ok (.iaload, 1) := by decide +kernel
theorem dX12_read_143 : decode cX12_read 143 = .ok (.bipush 61, 2) := by decide +kernel
theorem dX12_read_145 : decode cX12_read 145 = .ok (.if_icmp .eq 5, 3) := by decide +kernel
theorem dX12_read_148 : decode cX12_read 148 = .ok (.iload_n 3, 1) := by decide +kernel
theorem dX12_read_149 : decode cX12_read 149 = .ok (.ireturn, 1) := by decide +kernel
theorem dX12_read_150 : decode cX12_read 150 = .ok (.iinc 3 1, 3) := by decide +kernel
theorem dX12_read_153 : decode cX12_read 153 = .ok (.iload_n 3, 1) := by decide +kernel
theorem dX12_read_154 : decode cX12_read 154 = .ok (.istore 5, 2) := by decide +kernel
theorem dX12_read_156 : decode cX12_read 156 = .ok (.iconst 0, 1) := by decide +kernel
theorem dX12_read_157 : decode cX12_read 157 = .ok (.istore 6, 2) := by decide +kernel
theorem dX12_read_159 : decode cX12_read 159 = .ok (.iload_n 3, 1) := by decide +kernel
theorem dX12_read_160 : decode cX12_read 160 = .ok (.iload_n 2, 1) := by decide +kernel
theorem dX12_read_161 : decode cX12_read 161 = .ok (.if_icmp .ge 76, 3) := by decide +kernel
theorem dX12_read_164 : decode cX12_read 164 = .ok (.aload_n 0, 1) := by decide +kernel
theorem dX12_read_165 : decode cX12_read 165 = .ok (.getfield 16, 3) := by decide +kernel
theorem dX12_read_168 : decode cX12_read 168 = .ok (.sipush 400, 3) := by decide +kernel
theorem dX12_read_171 : decode cX12_read 171 = .ok (.iload_n 3, 1) := by decide +kernel
theorem dX12_read_172 : decode cX12_read 172 = .ok (.iadd, 1) := by decide +kernel
theorem dX12_read_173 : decode cX12_read 173 = .ok (.iaload, 1) := by decide +kernel
theorem dX12_read_174 : decode cX12_read 174 = .ok (.bipush 59, 2) := by decide +kernel
theorem dX12_read_176 : decode cX12_read 176 = .ok (.if_icmp .eq 61, 3) := by decide +kernel
theorem dX12_read_179 : decode cX12_read 179 = .ok (.aload_n 0, 1) := by decide +kernel
theorem dX12_read_180 : decode cX12_read 180 = .ok (.getfield 16, 3) := by decide +kernel
theorem dX12_read_183 : decode cX12_read 183 = .ok (.sipush 400, 3) := by decide +kernel
theorem dX12_read_186 : decode cX12_read 186 = .ok (.iload_n 3, 1) := by decide +kernel
theorem dX12_read_187 : decode cX12_read 187 = .ok (.iadd, 1) := by decide +kernel
theorem dX12_read_188 : decode cX12_read 188 = .ok (.iaload, 1) := by decide +kernel
theorem dX12_read_189 : decode cX12_read 189 = .ok (.invokestatic 118, 3) := by decide +kernel
theorem dX12_read_192 : decode cX12_read 192 = .ok (.istore 7, 2) := by decide +kernel
theorem dX12_read_194 : decode cX12_read 194 = .ok (.iload 7, 2) := by decide +kernel
theorem dX12_read_196 : decode cX12_read 196 = .ok (.bipush (-4), 2) := by decide +kernel
theorem dX12_read_198 : decode cX12_read 198 = .ok (.if_icmp .eq 22, 3) := by decide +kernel
theorem dX12_read_201 : decode cX12_read 201 = .ok (.iload 7, 2) := by decide +kernel
theorem dX12_read_203 : decode cX12_read 203 = .ok (.iload 6, 2) := by decide +kernel
theorem dX12_read_205 : decode cX12_read 205 = .ok (.if_icmp .gt 15, 3) := by decide +kernel
theorem dX12_read_208 : decode cX12_read 208 = .ok (.iload 6, 2) := by decide +kernel
theorem dX12_read_210 : decode cX12_read 210 = .ok (.iload 7, 2) := by decide +kernel
theorem dX12_read_212 : decode cX12_read 212 = .ok (.isub, 1) := by decide +kernel
theorem dX12_read_213 : decode cX12_read 213 = .ok (.iconst 1, 1) := by decide +kernel
theorem dX12_read_214 : decode cX12_read 214 = .ok (.iadd, 1) := by decide +kernel
theorem dX12_read_215 : decode cX12_read 215 = .ok (.bipush 10, 2) := by decide +kernel
theorem dX12_read_217 : decode cX12_read 217 = .ok (.if_icmp .le 5, 3) := by decide +kernel
theorem dX12_read_220 : decode cX12_read 220 = .ok (.iload_n 3, 1) := by decide +kernel
theorem dX12_read_221 : decode cX12_read 221 = .ok (.ireturn, 1) := by decide +kernel
theorem dX12_read_222 : decode cX12_read 222 = .ok (.iload 6, 2) := by decide +kernel
theorem dX12_read_224 : decode cX12_read 224 = .ok (.iconst 1, 1) := by decide +kernel
theorem dX12_read_225 : decode cX12_read 225 = .ok (.iload 7, 2) := by decide +kernel
theorem dX12_read_227 : decode cX12_read 227 = .ok (.isub, 1) := by decide +kernel
theorem dX12_read_228 : decode cX12_read 228 = .ok (.iadd, 1) := by decide +kernel
theorem dX12_read_229 : decode cX12_read 229 = .ok (.istore 6, 2) := by decide +kernel
theorem dX12_read_231 : decode cX12_read 231 = .ok (.iinc 3 1, 3) := by decide +kernel
theorem dX12_read_234 : decode cX12_read 234 = .ok (.goto (-75), 3) := by decide +kernel
theorem dX12_read_237 : decode cX12_read 237 = .ok (.iload_n 3, 1) := by decide +kernel
theorem dX12_read_238 : decode cX12_read 238 = .ok (.iload_n 2, 1) := by decide +kernel
theorem dX12_read_239 : decode cX12_read 239 = .ok (.if_icmp .eq 9, 3) := by decide +kernel
theorem dX12_read_242 : decode cX12_read 242 = .ok (.iload 6, 2) := by decide +kernel
theorem dX12_read_244 : decode cX12_read 244 = .ok (.iconst 1, 1) := by decide +kernel
theorem dX12_read_245 : decode cX12_read 245 = .ok (.if_icmp .eq 5, 3) := by decide +kernel
theorem dX12_read_248 : decode cX12_read 248 = .ok (.iload_n 3, 1) := by decide +kernel
theorem dX12_read_249 : decode cX12_read 249 = .ok (.ireturn, 1) := by decide +kernel
theorem dX12_read_250 : decode cX12_read 250 = .ok (.aload_n 0, 1) := by decide +kernel
theorem dX12_read_251 : decode cX12_read 251 = .ok (.getfield 19, 3) := by decide +kernel
theorem dX12_read_254 : decode cX12_read 254 = .ok (.bipush 38, 2) := by decide +kernel
theorem dX12_read_256 : decode cX12_read 256 = .ok (.iload 4, 2) := by decide +kernel
theorem dX12_read_258 : decode cX12_read 258 = .ok (.iadd, 1) := by decide +kernel
theorem dX12_read_259 : decode cX12_read 259 = .ok (.iload 5, 2) := by decide +kernel
theorem dX12_read_261 : decode cX12_read 261 = .ok (.iastore, 1) := by decide +kernel
theorem dX12_read_262 : decode cX12_read 262 = .ok (.aload_n 0, 1) := by decide +kernel
theorem dX12_read_263 : decode cX12_read 263 = .ok (.getfield 22, 3) := by decide +kernel
theorem dX12_read_266 : decode cX12_read 266 = .ok (.bipush 38, 2) := by decide +kernel
theorem dX12_read_268 : decode cX12_read 268 = .ok (.iload 4, 2) := by decide +kernel
theorem dX12_read_270 : decode cX12_read 270 = .ok (.iadd, 1) := by decide +kernel
theorem dX12_read_271 : decode cX12_read 271 = .ok (.iload_n 3, 1) := by decide +kernel
theorem dX12_read_272 : decode cX12_read 272 = .ok (.iload 5, 2) := by decide +kernel
theorem dX12_read_274 : decode cX12_read 274 = .ok (.isub, 1) := by decide +kernel
theorem dX12_read_275 : decode cX12_read 275 = .ok (.iastore, 1) := by decide +kernel
theorem dX12_read_276 : decode cX12_read 276 = .ok (.aload_n 0, 1) := by decide +kernel
theorem dX12_read_277 : decode cX12_read 277 = .ok (.getfield 25, 3) := by decide +kernel
theorem dX12_read_280 : decode cX12_read 280 = .ok (.iconst 2, 1) := by decide +kernel
theorem dX12_read_281 : decode cX12_read 281 = .ok (.dup2, 1) := by decide +kernel
theorem dX12_read_282 : decode cX12_read 282 = .ok (.iaload, 1) := by decide +kernel
theorem dX12_read_283 : decode cX12_read 283 = .ok (.iconst 1, 1) := by decide +kernel
theorem dX12_read_284 : decode cX12_read 284 = .ok (.iadd, 1) := by decide +kernel
theorem dX12_read_285 : decode cX12_read 285 = .ok (.iastore, 1) := by decide +kernel
theorem dX12_read_286 : decode cX12_read 286 = .ok (.iinc 3 1, 3) := by decide +kernel
theorem dX12_read_289 : decode cX12_read 289 = .ok (.goto (-213), 3) := by decide +kernel
theorem dX12_read_292 : decode cX12_read 292 = .ok (.bipush (-4), 2) := by decide +kernel
theorem dX12_read_294 : decode cX12_read 294 = .ok (.ireturn, 1) := by decide +kernel
def kX12_read_0 : List (Nat × zT) := [(0, a_aload 0 1), (1, a_getR 12 1 4), (4, a_iload 1 5), (5, a_iald 6), (6, a_istore 2 7), (7, a_i 0 8), (8, a_istore 3 9), (9, a_iload 3 10), (10, a_i 19 12), (12, a_ic_ge 32 15), (15, a_aload 0 16), (16, a_getR 12 4 19), (19, a_i 38 21), (21, a_iload 3 22), (22, a_ii (fun x y => x + y) 23), (23, a_i (-4) 25), (25, a_iast 26), (26, a_iinc 3 1 29), (29, a_goto 9), (32, a_i 0 33), (33, a_istore 3 34), (34, a_iload 3 35), (35, a_iload 2 36), (36, a_ic_ge 67 39)]
theorem oX12_read_0 : ∀ q ∈ kX12_read_0, zSnd zty false RX12 cX12_read 8 (some .int) false q := List.forall_mem_cons.mpr ⟨ok_aload_n dX12_read_0 rfl, List.forall_mem_cons.mpr ⟨ok_getR dX12_read_1 rfl in12 (by decide) rfl w958, List.forall_mem_cons.mpr ⟨ok_iload_n dX12_read_4 rfl, List.forall_mem_cons.mpr ⟨ok_iald dX12_read_5, List.forall_mem_cons.mpr ⟨ok_istore_n dX12_read_6 rfl (by decide), List.forall_mem_cons.mpr ⟨ok_iconst dX12_read_7 (by decide), List.forall_mem_cons.mpr ⟨ok_istore_n dX12_read_8 rfl (by decide), List.forall_mem_cons.mpr ⟨ok_iload_n dX12_read_9 rfl, List.forall_mem_cons.mpr ⟨ok_bipush dX12_read_10 (by decide), List.forall_mem_cons.mpr ⟨ok_ic_ge dX12_read_12 (by decide), List.forall_mem_cons.mpr ⟨ok_aload_n dX12_read_15 rfl, List.forall_mem_cons.mpr ⟨ok_getR dX12_read_16 rfl in12 (by decide) rfl w961, List.forall_mem_cons.mpr ⟨ok_bipush dX12_read_19 (by decide), List.forall_mem_cons.mpr ⟨ok_iload_n dX12_read_21 rfl, List.forall_mem_cons.mpr ⟨ok_iadd dX12_read_22, List.forall_mem_cons.mpr ⟨ok_bipush dX12_read_23 (by decide), List.forall_mem_cons.mpr ⟨ok_iast dX12_read_25, List.forall_mem_cons.mpr ⟨ok_iinc dX12_read_26 (by decide) (by decide), List.forall_mem_cons.mpr ⟨ok_goto dX12_read_29 (by decide), List.forall_mem_cons.mpr ⟨ok_iconst dX12_read_32 (by decide), List.forall_mem_cons.mpr ⟨ok_istore_n dX12_read_33 rfl (by decide), List.forall_mem_cons.mpr ⟨ok_iload_n dX12_read_34 rfl, List.forall_mem_cons.mpr ⟨ok_iload_n dX12_read_35 rfl, List.forall_mem_cons.mpr ⟨ok_ic_ge dX12_read_36 (by decide), fun _ h => absurd h List.not_mem_nil⟩⟩⟩⟩⟩⟩⟩⟩⟩⟩⟩⟩⟩⟩⟩⟩⟩⟩⟩⟩⟩⟩⟩⟩
def kX12_read_1 : List (Nat × zT) := [(39, a_aload 0 40), (40, a_getR 12 2 43), (43, a_i 400 46), (46, a_iload 3 47), (47, a_ii (fun x y => x + y) 48), (48, a_aload 0 49), (49, a_getR 12 0 52), (52, a_i 200 55), (55, a_iload 1 56), (56, a_ii (fun x y => x * y) 57), (57, a_iload 3 58), (58, a_ii (fun x y => x + y) 59), (59, a_iald 60), (60, a_iast 61), (61, a_iinc 3 1 64), (64, a_goto 34), (67, a_aload 0 68), (68, a_getR 12 5 71), (71, a_i 2 72), (72, a_i 0 73), (73, a_iast 74), (74, a_i 0 75), (75, a_istore 3 76), (76, a_iload 3 77)]
theorem oX12_read_1 : ∀ q ∈ kX12_read_1, zSnd zty false RX12 cX12_read 8 (some .int) false q := List.forall_mem_cons.mpr ⟨ok_aload_n dX12_read_39 rfl, List.forall_mem_cons.mpr ⟨ok_getR dX12_read_40 rfl in12 (by decide) rfl w959, List.forall_mem_cons.mpr ⟨ok_sipush dX12_read_43 (by decide), List.forall_mem_cons.mpr ⟨ok_iload_n dX12_read_46 rfl, List.forall_mem_cons.mpr ⟨ok_iadd dX12_read_47, List.forall_mem_cons.mpr ⟨ok_aload_n dX12_read_48 rfl, List.forall_mem_cons.mpr ⟨ok_getR dX12_read_49 rfl in12 (by decide) rfl w957, List.forall_mem_cons.mpr ⟨ok_sipush dX12_read_52 (by decide), List.forall_mem_cons.mpr ⟨ok_iload_n dX12_read_55 rfl, List.forall_mem_cons.mpr ⟨ok_imul dX12_read_56, List.forall_mem_cons.mpr ⟨ok_iload_n dX12_read_57 rfl, List.forall_mem_cons.mpr ⟨ok_iadd dX12_read_58, List.forall_mem_cons.mpr ⟨ok_iald dX12_read_59, List.forall_mem_cons.mpr ⟨ok_iast dX12_read_60, List.forall_mem_cons.mpr ⟨ok_iinc dX12_read_61 (by decide) (by decide), List.forall_mem_cons.mpr ⟨ok_goto dX12_read_64 (by decide), List.forall_mem_cons.mpr ⟨ok_aload_n dX12_read_67 rfl, List.forall_mem_cons.mpr ⟨ok_getR dX12_read_68 rfl in12 (by decide) rfl w962, List.forall_mem_cons.mpr ⟨ok_iconst dX12_read_71 (by decide), List.forall_mem_cons.mpr ⟨ok_iconst dX12_read_72 (by decide), List.forall_mem_cons.mpr ⟨ok_iast dX12_read_73, List.forall_mem_cons.mpr ⟨ok_iconst dX12_read_74 (by decide), List.forall_mem_cons.mpr ⟨ok_istore_n dX12_read_75 rfl (by decide), List.forall_mem_cons.mpr ⟨ok_iload_n dX12_read_76 rfl, fun _ h => absurd h List.not_mem_nil⟩⟩⟩⟩⟩⟩⟩⟩⟩⟩⟩⟩⟩⟩⟩⟩⟩⟩⟩⟩⟩⟩⟩⟩
def kX12_read_2 : List (Nat × zT) := [(77, a_iload 2 78), (78, a_ic_ge 292 81), (81, a_aload 0 82), (82, a_getR 12 2 85), (85, a_i 400 88), (88, a_iload 3 89), (89, a_ii (fun x y => x + y) 90), (90, a_iald 91), (91, a_i 97 93), (93, a_ii (fun x y => x - y) 94), (94, a_istore 4 96), (96, a_iload 4 98), (98, a_i 6 100), (100, a_i 18 102), (102, a_call 138 3 105 0 0), (105, a_if_eq 123 108), (108, a_aload 0 109), (109, a_getR 12 4 112), (112, a_i 38 114), (114, a_iload 4 116), (116, a_ii (fun x y => x + y) 117), (117, a_iald 118), (118, a_i (-4) 120), (120, a_ic_eq 125 123)]
theorem oX12_read_2 : ∀ q ∈ kX12_read_2, zSnd zty false RX12 cX12_read 8 (some .int) false q := List.forall_mem_cons.mpr ⟨ok_iload_n dX12_read_77 rfl, List.forall_mem_cons.mpr ⟨ok_ic_ge dX12_read_78 (by decide), List.forall_mem_cons.mpr ⟨ok_aload_n dX12_read_81 rfl, List.forall_mem_cons.mpr ⟨ok_getR dX12_read_82 rfl in12 (by decide) rfl w959, List.forall_mem_cons.mpr ⟨ok_sipush dX12_read_85 (by decide), List.forall_mem_cons.mpr ⟨ok_iload_n dX12_read_88 rfl, List.forall_mem_cons.mpr ⟨ok_iadd dX12_read_89, List.forall_mem_cons.mpr ⟨ok_iald dX12_read_90, List.forall_mem_cons.mpr ⟨ok_bipush dX12_read_91 (by decide), List.forall_mem_cons.mpr ⟨ok_isub dX12_read_93, List.forall_mem_cons.mpr ⟨ok_istore dX12_read_94 (by decide), List.forall_mem_cons.mpr ⟨ok_iload dX12_read_96, List.forall_mem_cons.mpr ⟨ok_bipush dX12_read_98 (by decide), List.forall_mem_cons.mpr ⟨ok_bipush dX12_read_100 (by decide), List.forall_mem_cons.mpr ⟨ok_callS dX12_read_102 rfl w1084 w1082 w1083 w13 (by decide +kernel) (by decide), List.forall_mem_cons.mpr ⟨ok_if_eq dX12_read_105 (by decide), List.forall_mem_cons.mpr ⟨ok_aload_n dX12_read_108 rfl, List.forall_mem_cons.mpr ⟨ok_getR dX12_read_109 rfl in12 (by decide) rfl w961, List.forall_mem_cons.mpr ⟨ok_bipush dX12_read_112 (by decide), List.forall_mem_cons.mpr ⟨ok_iload dX12_read_114, List.forall_mem_cons.mpr ⟨ok_iadd dX12_read_116, List.forall_mem_cons.mpr ⟨ok_iald dX12_read_117, List.forall_mem_cons.mpr ⟨ok_bipush dX12_read_118 (by decide), List.forall_mem_cons.mpr ⟨ok_ic_eq dX12_read_120 (by decide), fun _ h => absurd h List.not_mem_nil⟩⟩⟩⟩⟩⟩⟩⟩⟩⟩⟩⟩⟩⟩⟩⟩⟩⟩⟩⟩⟩⟩⟩⟩
def kX12_read_3 : List (Nat × zT) := [(123, a_iload 3 124), (124, a_iret false), (125, a_iinc 3 1 128), (128, a_iload 3 129), (129, a_iload 2 130), (130, a_ic_eq 148 133), (133, a_aload 0 134), (134, a_getR 12 2 137), (137, a_i 400 140), (140, a_iload 3 141), (141, a_ii (fun x y => x + y) 142), (142, a_iald 143), (143, a_i 61 145), (145, a_ic_eq 150 148), (148, a_iload 3 149), (149, a_iret false), (150, a_iinc 3 1 153), (153, a_iload 3 154), (154, a_istore 5 156), (156, a_i 0 157), (157, a_istore 6 159), (159, a_iload 3 160), (160, a_iload 2 161), (161, a_ic_ge 237 164)]
theorem oX12_read_3 : ∀ q ∈ kX12_read_3, zSnd zty false RX12 cX12_read 8 (some .int) false q := List.forall_mem_cons.mpr ⟨ok_iload_n dX12_read_123 rfl, List.forall_mem_cons.mpr ⟨ok_iret (bz := false) dX12_read_124 rfl, List.forall_mem_cons.mpr ⟨ok_iinc dX12_read_125 (by decide) (by decide), List.forall_mem_cons.mpr ⟨ok_iload_n dX12_read_128 rfl, List.forall_mem_cons.mpr ⟨ok_iload_n dX12_read_129 rfl, List.forall_mem_cons.mpr ⟨ok_ic_eq dX12_read_130 (by decide), List.forall_mem_cons.mpr ⟨ok_aload_n dX12_read_133 rfl, List.forall_mem_cons.mpr ⟨ok_getR dX12_read_134 rfl in12 (by decide) rfl w959, List.forall_mem_cons.mpr ⟨ok_sipush dX12_read_137 (by decide), List.forall_mem_cons.mpr ⟨ok_iload_n dX12_read_140 rfl, List.forall_mem_cons.mpr ⟨ok_iadd dX12_read_141, List.forall_mem_cons.mpr ⟨ok_iald dX12_read_142, List.forall_mem_cons.mpr ⟨ok_bipush dX12_read_143 (by decide), List.forall_mem_cons.mpr ⟨ok_ic_eq dX12_read_145 (by decide), List.forall_mem_cons.mpr ⟨ok_iload_n dX12_read_148 rfl, List.forall_mem_cons.mpr ⟨ok_iret (bz := false) dX12_read_149 rfl, List.forall_mem_cons.mpr ⟨ok_iinc dX12_read_150 (by decide) (by decide), List.forall_mem_cons.mpr ⟨ok_iload_n dX12_read_153 rfl, List.forall_mem_cons.mpr ⟨ok_istore dX12_read_154 (by decide), List.forall_mem_cons.mpr ⟨ok_iconst dX12_read_156 (by decide), List.forall_mem_cons.mpr ⟨ok_istore dX12_read_157 (by decide), List.forall_mem_cons.mpr ⟨ok_iload_n dX12_read_159 rfl, List.forall_mem_cons.mpr ⟨ok_iload_n dX12_read_160 rfl, List.forall_mem_cons.mpr ⟨ok_ic_ge dX12_read_161 (by decide), fun _ h => absurd h List.not_mem_nil⟩⟩⟩⟩⟩⟩⟩⟩⟩⟩⟩⟩⟩⟩⟩⟩⟩⟩⟩⟩⟩⟩⟩⟩
def kX12_read_4 : List (Nat × zT) := [(164, a_aload 0 165), (165, a_getR 12 2 168), (168, a_i 400 171), (171, a_iload 3 172), (172, a_ii (fun x y => x + y) 173), (173, a_iald 174), (174, a_i 59 176), (176, a_ic_eq 237 179), (179, a_aload 0 180), (180, a_getR 12 2 183), (183, a_i 400 186), (186, a_iload 3 187), (187, a_ii (fun x y => x + y) 188), (188, a_iald 189), (189, a_call 141 1 192 0 0), (192, a_istore 7 194), (194, a_iload 7 196), (196, a_i (-4) 198), (198, a_ic_eq 220 201), (201, a_iload 7 203), (203, a_iload 6 205), (205, a_ic_gt 220 208), (208, a_iload 6 210), (210, a_iload 7 212)]
theorem oX12_read_4 : ∀ q ∈ kX12_read_4, zSnd zty false RX12 cX12_read 8 (some .int) false q := List.forall_mem_cons.mpr ⟨ok_aload_n dX12_read_164 rfl, List.forall_mem_cons.mpr ⟨ok_getR dX12_read_165 rfl in12 (by decide) rfl w959, List.forall_mem_cons.mpr ⟨ok_sipush dX12_read_168 (by decide), List.forall_mem_cons.mpr ⟨ok_iload_n dX12_read_171 rfl, List.forall_mem_cons.mpr ⟨ok_iadd dX12_read_172, List.forall_mem_cons.mpr ⟨ok_iald dX12_read_173, List.forall_mem_cons.mpr ⟨ok_bipush dX12_read_174 (by decide), List.forall_mem_cons.mpr ⟨ok_ic_eq dX12_read_176 (by decide), List.forall_mem_cons.mpr ⟨ok_aload_n dX12_read_179 rfl, List.forall_mem_cons.mpr ⟨ok_getR dX12_read_180 rfl in12 (by decide) rfl w959, List.forall_mem_cons.mpr ⟨ok_sipush dX12_read_183 (by decide), List.forall_mem_cons.mpr ⟨ok_iload_n dX12_read_186 rfl, List.forall_mem_cons.mpr ⟨ok_iadd dX12_read_187, List.forall_mem_cons.mpr ⟨ok_iald dX12_read_188, List.forall_mem_cons.mpr ⟨ok_callS dX12_read_189 rfl w1100 w1098 w1099 w13 (by decide +kernel) (by decide), List.forall_mem_cons.mpr ⟨ok_istore dX12_read_192 (by decide), List.forall_mem_cons.mpr ⟨ok_iload dX12_read_194, List.forall_mem_cons.mpr ⟨ok_bipush dX12_read_196 (by decide), List.forall_mem_cons.mpr ⟨ok_ic_eq dX12_read_198 (by decide), List.forall_mem_cons.mpr ⟨ok_iload dX12_read_201, List.forall_mem_cons.mpr ⟨ok_iload dX12_read_203, List.forall_mem_cons.mpr ⟨ok_ic_gt dX12_read_205 (by decide), List.forall_mem_cons.mpr ⟨ok_iload dX12_read_208, List.forall_mem_cons.mpr ⟨ok_iload dX12_read_210, fun _ h => absurd h List.not_mem_nil⟩⟩⟩⟩⟩⟩⟩⟩⟩⟩⟩⟩⟩⟩⟩⟩⟩⟩⟩⟩⟩⟩⟩⟩
def kX12_read_5 : List (Nat × zT) := [(212, a_ii (fun x y => x - y) 213), (213, a_i 1 214), (214, a_ii (fun x y => x + y) 215), (215, a_i 10 217), (217, a_ic_le 222 220), (220, a_iload 3 221), (221, a_iret false), (222, a_iload 6 224), (224, a_i 1 225), (225, a_iload 7 227), (227, a_ii (fun x y => x - y) 228), (228, a_ii (fun x y => x + y) 229), (229, a_istore 6 231), (231, a_iinc 3 1 234), (234, a_goto 159), (237, a_iload 3 238), (238, a_iload 2 239), (239, a_ic_eq 248 242), (242, a_iload 6 244), (244, a_i 1 245), (245, a_ic_eq 250 248), (248, a_iload 3 249), (249, a_iret false), (250, a_aload 0 251)]
theorem oX12_read_5 : ∀ q ∈ kX12_read_5, zSnd zty false RX12 cX12_read 8 (some .int) false q := List.forall_mem_cons.mpr ⟨ok_isub dX12_read_212, List.forall_mem_cons.mpr ⟨ok_iconst dX12_read_213 (by decide), List.forall_mem_cons.mpr ⟨ok_iadd dX12_read_214, List.forall_mem_cons.mpr ⟨ok_bipush dX12_read_215 (by decide), List.forall_mem_cons.mpr ⟨ok_ic_le dX12_read_217 (by decide), List.forall_mem_cons.mpr ⟨ok_iload_n dX12_read_220 rfl, List.forall_mem_cons.mpr ⟨ok_iret (bz := false) dX12_read_221 rfl, List.forall_mem_cons.mpr ⟨ok_iload dX12_read_222, List.forall_mem_cons.mpr ⟨ok_iconst dX12_read_224 (by decide), List.forall_mem_cons.mpr ⟨ok_iload dX12_read_225, List.forall_mem_cons.mpr ⟨ok_isub dX12_read_227, List.forall_mem_cons.mpr ⟨ok_iadd dX12_read_228, List.forall_mem_cons.mpr ⟨ok_istore dX12_read_229 (by decide), List.forall_mem_cons.mpr ⟨ok_iinc dX12_read_231 (by decide) (by decide), List.forall_mem_cons.mpr ⟨ok_goto dX12_read_234 (by decide), List.forall_mem_cons.mpr ⟨ok_iload_n dX12_read_237 rfl, List.forall_mem_cons.mpr ⟨ok_iload_n dX12_read_238 rfl, List.forall_mem_cons.mpr ⟨ok_ic_eq dX12_read_239 (by decide), List.forall_mem_cons.mpr ⟨ok_iload dX12_read_242, List.forall_mem_cons.mpr ⟨ok_iconst dX12_read_244 (by decide), List.forall_mem_cons.mpr ⟨ok_ic_eq dX12_read_245 (by decide), List.forall_mem_cons.mpr ⟨ok_iload_n dX12_read_248 rfl, List.forall_mem_cons.mpr ⟨ok_iret (bz := false) dX12_read_249 rfl, List.forall_mem_cons.mpr ⟨ok_aload_n dX12_read_250 rfl, fun _ h => absurd h List.not_mem_nil⟩⟩⟩⟩⟩⟩⟩⟩⟩⟩⟩⟩⟩⟩⟩⟩⟩⟩⟩⟩⟩⟩⟩⟩
def kX12_read_6 : List (Nat × zT) := [(251, a_getR 12 3 254), (254, a_i 38 256), (256, a_iload 4 258), (258, a_ii (fun x y => x + y) 259), (259, a_iload 5 261), (261, a_iast 262), (262, a_aload 0 263), (263, a_getR 12 4 266), (266, a_i 38 268), (268, a_iload 4 270), (270, a_ii (fun x y => x + y) 271), (271, a_iload 3 272), (272, a_iload 5 274), (274, a_ii (fun x y => x - y) 275), (275, a_iast 276), (276, a_aload 0 277), (277, a_getR 12 5 280), (280, a_i 2 281), (281, a_dup2 282), (282, a_iald 283), (283, a_i 1 284), (284, a_ii (fun x y => x + y) 285), (285, a_iast 286), (286, a_iinc 3 1 289)]
theorem oX12_read_6 : ∀ q ∈ kX12_read_6, zSnd zty false RX12 cX12_read 8 (some .int) false q := List.forall_mem_cons.mpr ⟨ok_getR dX12_read_251 rfl in12 (by decide) rfl w960, List.forall_mem_cons.mpr ⟨ok_bipush dX12_read_254 (by decide), List.forall_mem_cons.mpr ⟨ok_iload dX12_read_256, List.forall_mem_cons.mpr ⟨ok_iadd dX12_read_258, List.forall_mem_cons.mpr ⟨ok_iload dX12_read_259, List.forall_mem_cons.mpr ⟨ok_iast dX12_read_261, List.forall_mem_cons.mpr ⟨ok_aload_n dX12_read_262 rfl, List.forall_mem_cons.mpr ⟨ok_getR dX12_read_263 rfl in12 (by decide) rfl w961, List.forall_mem_cons.mpr ⟨ok_bipush dX12_read_266 (by decide), List.forall_mem_cons.mpr ⟨ok_iload dX12_read_268, List.forall_mem_cons.mpr ⟨ok_iadd dX12_read_270, List.forall_mem_cons.mpr ⟨ok_iload_n dX12_read_271 rfl, List.forall_mem_cons.mpr ⟨ok_iload dX12_read_272, List.forall_mem_cons.mpr ⟨ok_isub dX12_read_274, List.forall_mem_cons.mpr ⟨ok_iast dX12_read_275, List.forall_mem_cons.mpr ⟨ok_aload_n dX12_read_276 rfl, List.forall_mem_cons.mpr ⟨ok_getR dX12_read_277 rfl in12 (by decide) rfl w962, List.forall_mem_cons.mpr ⟨ok_iconst dX12_read_280 (by decide), List.forall_mem_cons.mpr ⟨ok_dup2 dX12_read_281, List.forall_mem_cons.mpr ⟨ok_iald dX12_read_282, List.forall_mem_cons.mpr ⟨ok_iconst dX12_read_283 (by decide), List.forall_mem_cons.mpr ⟨ok_iadd dX12_read_284, List.forall_mem_cons.mpr ⟨ok_iast dX12_read_285, List.forall_mem_cons.mpr ⟨ok_iinc dX12_read_286 (by decide) (by decide), fun _ h => absurd h List.not_mem_nil⟩⟩⟩⟩⟩⟩⟩⟩⟩⟩⟩⟩⟩⟩⟩⟩⟩⟩⟩⟩⟩⟩⟩⟩
def kX12_read_7 : List (Nat × zT) := [(289, a_goto 76), (292, a_i (-4) 294), (294, a_iret false)]
theorem oX12_read_7 : ∀ q ∈ kX12_read_7, zSnd zty false RX12 cX12_read 8 (some .int) false q := List.forall_mem_cons.mpr ⟨ok_goto dX12_read_289 (by decide), List.forall_mem_cons.mpr ⟨ok_bipush dX12_read_292 (by decide), List.forall_mem_cons.mpr ⟨ok_iret (bz := false) dX12_read_294 rfl, fun _ h => absurd h List.not_mem_nil⟩⟩⟩
def kX12_read : List (Nat × zT) := kX12_read_0 ++ (kX12_read_1 ++ (kX12_read_2 ++ (kX12_read_3 ++ (kX12_read_4 ++ (kX12_read_5 ++ (kX12_read_6 ++ (kX12_read_7)))))))
theorem qX12_read_0 : ∀ q ∈ kX12_read_0, q ∈ kX12_read := fun _ h => (List.mem_append_left _ h)
theorem tX12_read_0 : (0, a_aload 0 1) ∈ kX12_read := qX12_read_0 _ (List.mem_of_getElem? (i := 0) rfl)
theorem tX12_read_1 : (1, a_getR 12 1 4) ∈ kX12_read := qX12_read_0 _ (List.mem_of_getElem? (i := 1) rfl)
theorem tX12_read_4 : (4, a_iload 1 5) ∈ kX12_read := qX12_read_0 _ (List.mem_of_getElem? (i := 2) rfl)
theorem tX12_read_5 : (5, a_iald 6) ∈ kX12_read := qX12_read_0 _ (List.mem_of_getElem? (i := 3) rfl)
theorem tX12_read_6 : (6, a_istore 2 7) ∈ kX12_read := qX12_read_0 _ (List.mem_of_getElem? (i := 4) rfl)
theorem tX12_read_7 : (7, a_i 0 8) ∈ kX12_read := qX12_read_0 _ (List.mem_of_getElem? (i := 5) rfl)
theorem tX12_read_8 : (8, a_istore 3 9) ∈ kX12_read := qX12_read_0 _ (List.mem_of_getElem? (i := 6) rfl)
theorem tX12_read_9 : (9, a_iload 3 10) ∈ kX12_read := qX12_read_0 _ (List.mem_of_getElem? (i := 7) rfl)
theorem tX12_read_10 : (10, a_i 19 12) ∈ kX12_read := qX12_read_0 _ (List.mem_of_getElem? (i := 8) rfl)
theorem tX12_read_12 : (12, a_ic_ge 32 15) ∈ kX12_read := qX12_read_0 _ (List.mem_of_getElem? (i := 9) rfl)
theorem tX12_read_15 : (15, a_aload 0 16) ∈ kX12_read := qX12_read_0 _ (List.mem_of_getElem? (i := 10) rfl)
theorem tX12_read_16 : (16, a_getR 12 4 19) ∈ kX12_read := qX12_read_0 _ (List.mem_of_getElem? (i := 11) rfl)
theorem tX12_read_19 : (19, a_i 38 21) ∈ kX12_read := qX12_read_0 _ (List.mem_of_getElem? (i := 12) rfl)
theorem tX12_read_21 : (21, a_iload 3 22) ∈ kX12_read := qX12_read_0 _ (List.mem_of_getElem? (i := 13) rfl)
theorem tX12_read_22 : (22, a_ii (fun x y => x + y) 23) ∈ kX12_read := qX12_read_0 _ (List.mem_of_getElem? (i := 14) rfl)
theorem tX12_read_23 : (23, a_i (-4) 25) ∈ kX12_read := qX12_read_0 _ (List.mem_of_getElem? (i := 15) rfl)
theorem tX12_read_25 : (25, a_iast 26) ∈ kX12_read := qX12_read_0 _ (List.mem_of_getElem? (i := 16) rfl)
theorem tX12_read_26 : (26, a_iinc 3 1 29) ∈ kX12_read := qX12_read_0 _ (List.mem_of_getElem? (i := 17) rfl)
theorem tX12_read_29 : (29, a_goto 9) ∈ kX12_read := qX12_read_0 _ (List.mem_of_getElem? (i := 18) rfl)
theorem tX12_read_32 : (32, a_i 0 33) ∈ kX12_read := qX12_read_0 _ (List.mem_of_getElem? (i := 19) rfl)
theorem tX12_read_33 : (33, a_istore 3 34) ∈ kX12_read := qX12_read_0 _ (List.mem_of_getElem? (i := 20) rfl)
theorem tX12_read_34 : (34, a_iload 3 35) ∈ kX12_read := qX12_read_0 _ (List.mem_of_getElem? (i := 21) rfl)
theorem tX12_read_35 : (35, a_iload 2 36) ∈ kX12_read := qX12_read_0 _ (List.mem_of_getElem? (i := 22) rfl)
theorem tX12_read_36 : (36, a_ic_ge 67 39) ∈ kX12_read := qX12_read_0 _ (List.mem_of_getElem? (i := 23) rfl)
theorem qX12_read_1 : ∀ q ∈ kX12_read_1, q ∈ kX12_read := fun _ h => (List.mem_append_right _ (List.mem_append_left _ h))
theorem tX12_read_39 : (39, a_aload 0 40) ∈ kX12_read := qX12_read_1 _ (List.mem_of_getElem? (i := 0) rfl)
theorem tX12_read_40 : (40, a_getR 12 2 43) ∈ kX12_read := qX12_read_1 _ (List.mem_of_getElem? (i := 1) rfl)
theorem tX12_read_43 : (43, a_i 400 46) ∈ kX12_read := qX12_read_1 _ (List.mem_of_getElem? (i := 2) rfl)
theorem tX12_read_46 : (46, a_iload 3 47) ∈ kX12_read := qX12_read_1 _ (List.mem_of_getElem? (i := 3) rfl)
theorem tX12_read_47 : (47, a_ii (fun x y => x + y) 48) ∈ kX12_read := qX12_read_1 _ (List.mem_of_getElem? (i := 4) rfl)
theorem tX12_read_48 : (48, a_aload 0 49) ∈ kX12_read := qX12_read_1 _ (List.mem_of_getElem? (i := 5) rfl)
theorem tX12_read_49 : (49, a_getR 12 0 52) ∈ kX12_read := qX12_read_1 _ (List.mem_of_getElem? (i := 6) rfl)
theorem tX12_read_52 : (52, a_i 200 55) ∈ kX12_read := qX12_read_1 _ (List.mem_of_getElem? (i := 7) rfl)
theorem tX12_read_55 : (55, a_iload 1 56) ∈ kX12_read := qX12_read_1 _ (List.mem_of_getElem? (i := 8) rfl)
theorem tX12_read_56 : (56, a_ii (fun x y => x * y) 57) ∈ kX12_read := qX12_read_1 _ (List.mem_of_getElem? (i := 9) rfl)
theorem tX12_read_57 : (57, a_iload 3 58) ∈ kX12_read := qX12_read_1 _ (List.mem_of_getElem? (i := 10) rfl)
theorem tX12_read_58 : (58, a_ii (fun x y => x + y) 59) ∈ kX12_read := qX12_read_1 _ (List.mem_of_getElem? (i := 11) rfl)
theorem tX12_read_59 : (59, a_iald 60) ∈ kX12_read := qX12_read_1 _ (List.mem_of_getElem? (i := 12) rfl)
theorem tX12_read_60 : (60, a_iast 61) ∈ kX12_read := qX12_read_1 _ (List.mem_of_getElem? (i := 13) rfl)
theorem tX12_read_61 : (61, a_iinc 3 1 64) ∈ kX12_read := qX12_read_1 _ (List.mem_of_getElem? (i := 14) rfl)
theorem tX12_read_64 : (64, a_goto 34) ∈ kX12_read := qX12_read_1 _ (List.mem_of_getElem? (i := 15) rfl)
theorem tX12_read_67 : (67, a_aload 0 68) ∈ kX12_read := qX12_read_1 _ (List.mem_of_getElem? (i := 16) rfl)
theorem tX12_read_68 : (68, a_getR 12 5 71) ∈ kX12_read := qX12_read_1 _ (List.mem_of_getElem? (i := 17) rfl)
theorem tX12_read_71 : (71, a_i 2 72) ∈ kX12_read := qX12_read_1 _ (List.mem_of_getElem? (i := 18) rfl)
theorem tX12_read_72 : (72, a_i 0 73) ∈ kX12_read := qX12_read_1 _ (List.mem_of_getElem? (i := 19) rfl)
theorem tX12_read_73 : (73, a_iast 74) ∈ kX12_read := qX12_read_1 _ (List.mem_of_getElem? (i := 20) rfl)
theorem tX12_read_74 : (74, a_i 0 75) ∈ kX12_read := qX12_read_1 _ (List.mem_of_getElem? (i := 21) rfl)
theorem tX12_read_75 : (75, a_istore 3 76) ∈ kX12_read := qX12_read_1 _ (List.mem_of_getElem? (i := 22) rfl)
theorem tX12_read_76 : (76, a_iload 3 77) ∈ kX12_read := qX12_read_1 _ (List.mem_of_getElem? (i := 23) rfl)
theorem qX12_read_2 : ∀ q ∈ kX12_read_2, q ∈ kX12_read := fun _ h => (List.mem_append_right _ (List.mem_append_right _ (List.mem_append_left _ h)))
theorem tX12_read_77 : (77, a_iload 2 78) ∈ kX12_read := qX12_read_2 _ (List.mem_of_getElem? (i := 0) rfl)
theorem tX12_read_78 : (78, a_ic_ge 292 81) ∈ kX12_read := qX12_read_2 _ (List.mem_of_getElem? (i := 1) rfl)
theorem tX12_read_81 : (81, a_aload 0 82) ∈ kX12_read := qX12_read_2 _ (List.mem_of_getElem? (i := 2) rfl)
theorem tX12_read_82 : (82, a_getR 12 2 85) ∈ kX12_read := qX12_read_2 _ (List.mem_of_getElem? (i := 3) rfl)
theorem tX12_read_85 : (85, a_i 400 88) ∈ kX12_read := qX12_read_2 _ (List.mem_of_getElem? (i := 4) rfl)
theorem tX12_read_88 : (88, a_iload 3 89) ∈ kX12_read := qX12_read_2 _ (List.mem_of_getElem? (i := 5) rfl)
theorem tX12_read_89 : (89, a_ii (fun x y => x + y) 90) ∈ kX12_read := qX12_read_2 _ (List.mem_of_getElem? (i := 6) rfl)
theorem tX12_read_90 : (90, a_iald 91) ∈ kX12_read := qX12_read_2 _ (List.mem_of_getElem? (i := 7) rfl)
theorem tX12_read_91 : (91, a_i 97 93) ∈ kX12_read := qX12_read_2 _ (List.mem_of_getElem? (i := 8) rfl)
theorem tX12_read_93 : (93, a_ii (fun x y => x - y) 94) ∈ kX12_read := qX12_read_2 _ (List.mem_of_getElem? (i := 9) rfl)
theorem tX12_read_94 : (94, a_istore 4 96) ∈ kX12_read := qX12_read_2 _ (List.mem_of_getElem? (i := 10) rfl)
theorem tX12_read_96 : (96, a_iload 4 98) ∈ kX12_read := qX12_read_2 _ (List.mem_of_getElem? (i := 11) rfl)
theorem tX12_read_98 : (98, a_i 6 100) ∈ kX12_read := qX12_read_2 _ (List.mem_of_getElem? (i := 12) rfl)
theorem tX12_read_100 : (100, a_i 18 102) ∈ kX12_read := qX12_read_2 _ (List.mem_of_getElem? (i := 13) rfl)
theorem tX12_read_102 : (102, a_call 138 3 105 0 0) ∈ kX12_read := qX12_read_2 _ (List.mem_of_getElem? (i := 14) rfl)
theorem tX12_read_105 : (105, a_if_eq 123 108) ∈ kX12_read := qX12_read_2 _ (List.mem_of_getElem? (i := 15) rfl)
theorem tX12_read_108 : (108, a_aload 0 109) ∈ kX12_read := qX12_read_2 _ (List.mem_of_getElem? (i := 16) rfl)
theorem tX12_read_109 : (109, a_getR 12 4 112) ∈ kX12_read := qX12_read_2 _ (List.mem_of_getElem? (i := 17) rfl)
theorem tX12_read_112 : (112, a_i 38 114) ∈ kX12_read := qX12_read_2 _ (List.mem_of_getElem? (i := 18) rfl)
theorem tX12_read_114 : (114, a_iload 4 116) ∈ kX12_read := qX12_read_2 _ (List.mem_of_getElem? (i := 19) rfl)
theorem tX12_read_116 : (116, a_ii (fun x y => x + y) 117) ∈ kX12_read := qX12_read_2 _ (List.mem_of_getElem? (i := 20) rfl)
theorem tX12_read_117 : (117, a_iald 118) ∈ kX12_read := qX12_read_2 _ (List.mem_of_getElem? (i := 21) rfl)
theorem tX12_read_118 : (118, a_i (-4) 120) ∈ kX12_read := qX12_read_2 _ (List.mem_of_getElem? (i := 22) rfl)
theorem tX12_read_120 : (120, a_ic_eq 125 123) ∈ kX12_read := qX12_read_2 _ (List.mem_of_getElem? (i := 23) rfl)
theorem qX12_read_3 : ∀ q ∈ kX12_read_3, q ∈ kX12_read := fun _ h => (List.mem_append_right _ (List.mem_append_right _ (List.mem_append_right _ (List.mem_append_left _ h))))
theorem tX12_read_123 : (123, a_iload 3 124) ∈ kX12_read := qX12_read_3 _ (List.mem_of_getElem? (i := 0) rfl)
theorem tX12_read_124 : (124, a_iret false) ∈ kX12_read := qX12_read_3 _ (List.mem_of_getElem? (i := 1) rfl)
theorem tX12_read_125 : (125, a_iinc 3 1 128) ∈ kX12_read := qX12_read_3 _ (List.mem_of_getElem? (i := 2) rfl)
theorem tX12_read_128 : (128, a_iload 3 129) ∈ kX12_read := qX12_read_3 _ (List.mem_of_getElem? (i := 3) rfl)
theorem tX12_read_129 : (129, a_iload 2 130) ∈ kX12_read := qX12_read_3 _ (List.mem_of_getElem? (i := 4) rfl)
theorem tX12_read_130 : (130, a_ic_eq 148 133) ∈ kX12_read := qX12_read_3 _ (List.mem_of_getElem? (i := 5) rfl)
theorem tX12_read_133 : (133, a_aload 0 134) ∈ kX12_read := qX12_read_3 _ (List.mem_of_getElem? (i := 6) rfl)
theorem tX12_read_134 : (134, a_getR 12 2 137) ∈ kX12_read := qX12_read_3 _ (List.mem_of_getElem? (i := 7) rfl)
theorem tX12_read_137 : (137, a_i 400 140) ∈ kX12_read := qX12_read_3 _ (List.mem_of_getElem? (i := 8) rfl)
theorem tX12_read_140 : (140, a_iload 3 141) ∈ kX12_read := qX12_read_3 _ (List.mem_of_getElem? (i := 9) rfl)
theorem tX12_read_141 : (141, a_ii (fun x y => x + y) 142) ∈ kX12_read := qX12_read_3 _ (List.mem_of_getElem? (i := 10) rfl)
theorem tX12_read_142 : (142, a_iald 143) ∈ kX12_read := qX12_read_3 _ (List.mem_of_getElem? (i := 11) rfl)
theorem tX12_read_143 : (143, a_i 61 145) ∈ kX12_read := qX12_read_3 _ (List.mem_of_getElem? (i := 12) rfl)
theorem tX12_read_145 : (145, a_ic_eq 150 148) ∈ kX12_read := qX12_read_3 _ (List.mem_of_getElem? (i := 13) rfl)
theorem tX12_read_148 : (148, a_iload 3 149) ∈ kX12_read := qX12_read_3 _ (List.mem_of_getElem? (i := 14) rfl)
theorem tX12_read_149 : (149, a_iret false) ∈ kX12_read := qX12_read_3 _ (List.mem_of_getElem? (i := 15) rfl)
theorem tX12_read_150 : (150, a_iinc 3 1 153) ∈ kX12_read := qX12_read_3 _ (List.mem_of_getElem? (i := 16) rfl)
theorem tX12_read_153 : (153, a_iload 3 154) ∈ kX12_read := qX12_read_3 _ (List.mem_of_getElem? (i := 17) rfl)
theorem tX12_read_154 : (154, a_istore 5 156) ∈ kX12_read := qX12_read_3 _ (List.mem_of_getElem? (i := 18) rfl)
theorem tX12_read_156 : (156, a_i 0 157) ∈ kX12_read := qX12_read_3 _ (List.mem_of_getElem? (i := 19) rfl)
theorem tX12_read_157 : (157, a_istore 6 159) ∈ kX12_read := qX12_read_3 _ (List.mem_of_getElem? (i := 20) rfl)
theorem tX12_read_159 : (159, a_iload 3 160) ∈ kX12_read := qX12_read_3 _ (List.mem_of_getElem? (i := 21) rfl)
theorem tX12_read_160 : (160, a_iload 2 161) ∈ kX12_read := qX12_read_3 _ (List.mem_of_getElem? (i := 22) rfl)
theorem tX12_read_161 : (161, a_ic_ge 237 164) ∈ kX12_read := qX12_read_3 _ (List.mem_of_getElem? (i := 23) rfl)
theorem qX12_read_4 : ∀ q ∈ kX12_read_4, q ∈ kX12_read := fun _ h => (List.mem_append_right _ (List.mem_append_right _ (List.mem_append_right _ (List.mem_append_right _ (List.mem_append_left _ h)))))
theorem tX12_read_164 : (164, a_aload 0 165) ∈ kX12_read := qX12_read_4 _ (List.mem_of_getElem? (i := 0) rfl)
theorem tX12_read_165 : (165, a_getR 12 2 168) ∈ kX12_read := qX12_read_4 _ (List.mem_of_getElem? (i := 1) rfl)
theorem tX12_read_168 : (168, a_i 400 171) ∈ kX12_read := qX12_read_4 _ (List.mem_of_getElem? (i := 2) rfl)
theorem tX12_read_171 : (171, a_iload 3 172) ∈ kX12_read := qX12_read_4 _ (List.mem_of_getElem? (i := 3) rfl)
theorem tX12_read_172 : (172, a_ii (fun x y => x + y) 173) ∈ kX12_read := qX12_read_4 _ (List.mem_of_getElem? (i := 4) rfl)
theorem tX12_read_173 : (173, a_iald 174) ∈ kX12_read := qX12_read_4 _ (List.mem_of_getElem? (i := 5) rfl)
theorem tX12_read_174 : (174, a_i 59 176) ∈ kX12_read := qX12_read_4 _ (List.mem_of_getElem? (i := 6) rfl)
theorem tX12_read_176 : (176, a_ic_eq 237 179) ∈ kX12_read := qX12_read_4 _ (List.mem_of_getElem? (i := 7) rfl)
theorem tX12_read_179 : (179, a_aload 0 180) ∈ kX12_read := qX12_read_4 _ (List.mem_of_getElem? (i := 8) rfl)
theorem tX12_read_180 : (180, a_getR 12 2 183) ∈ kX12_read := qX12_read_4 _ (List.mem_of_getElem? (i := 9) rfl)
theorem tX12_read_183 : (183, a_i 400 186) ∈ kX12_read := qX12_read_4 _ (List.mem_of_getElem? (i := 10) rfl)
theorem tX12_read_186 : (186, a_iload 3 187) ∈ kX12_read := qX12_read_4 _ (List.mem_of_getElem? (i := 11) rfl)
theorem tX12_read_187 : (187, a_ii (fun x y => x + y) 188) ∈ kX12_read := qX12_read_4 _ (List.mem_of_getElem? (i := 12) rfl)
theorem tX12_read_188 : (188, a_iald 189) ∈ kX12_read := qX12_read_4 _ (List.mem_of_getElem? (i := 13) rfl)
theorem tX12_read_189 : (189, a_call 141 1 192 0 0) ∈ kX12_read := qX12_read_4 _ (List.mem_of_getElem? (i := 14) rfl)
theorem tX12_read_192 : (192, a_istore 7 194) ∈ kX12_read := qX12_read_4 _ (List.mem_of_getElem? (i := 15) rfl)
theorem tX12_read_194 : (194, a_iload 7 196) ∈ kX12_read := qX12_read_4 _ (List.mem_of_getElem? (i := 16) rfl)
theorem tX12_read_196 : (196, a_i (-4) 198) ∈ kX12_read := qX12_read_4 _ (List.mem_of_getElem? (i := 17) rfl)
theorem tX12_read_198 : (198, a_ic_eq 220 201) ∈ kX12_read := qX12_read_4 _ (List.mem_of_getElem? (i := 18) rfl)
theorem tX12_read_201 : (201, a_iload 7 203) ∈ kX12_read := qX12_read_4 _ (List.mem_of_getElem? (i := 19) rfl)
theorem tX12_read_203 : (203, a_iload 6 205) ∈ kX12_read := qX12_read_4 _ (List.mem_of_getElem? (i := 20) rfl)
theorem tX12_read_205 : (205, a_ic_gt 220 208) ∈ kX12_read := qX12_read_4 _ (List.mem_of_getElem? (i := 21) rfl)
theorem tX12_read_208 : (208, a_iload 6 210) ∈ kX12_read := qX12_read_4 _ (List.mem_of_getElem? (i := 22) rfl)
theorem tX12_read_210 : (210, a_iload 7 212) ∈ kX12_read := qX12_read_4 _ (List.mem_of_getElem? (i := 23) rfl)
theorem qX12_read_5 : ∀ q ∈ kX12_read_5, q ∈ kX12_read := fun _ h => (List.mem_append_right _ (List.mem_append_right _ (List.mem_append_right _ (List.mem_append_right _ (List.mem_append_right _ (List.mem_append_left _ h))))))
theorem tX12_read_212 : (212, a_ii (fun x y => x - y) 213) ∈ kX12_read := qX12_read_5 _ (List.mem_of_getElem? (i := 0) rfl)
theorem tX12_read_213 : (213, a_i 1 214) ∈ kX12_read := qX12_read_5 _ (List.mem_of_getElem? (i := 1) rfl)
theorem tX12_read_214 : (214, a_ii (fun x y => x + y) 215) ∈ kX12_read := qX12_read_5 _ (List.mem_of_getElem? (i := 2) rfl)
theorem tX12_read_215 : (215, a_i 10 217) ∈ kX12_read := qX12_read_5 _ (List.mem_of_getElem? (i := 3) rfl)
theorem tX12_read_217 : (217, a_ic_le 222 220) ∈ kX12_read := qX12_read_5 _ (List.mem_of_getElem? (i := 4) rfl)
theorem tX12_read_220 : (220, a_iload 3 221) ∈ kX12_read := qX12_read_5 _ (List.mem_of_getElem? (i := 5) rfl)
theorem tX12_read_221 : (221, a_iret false) ∈ kX12_read := qX12_read_5 _ (List.mem_of_getElem? (i := 6) rfl)
theorem tX12_read_222 : (222, a_iload 6 224) ∈ kX12_read := qX12_read_5 _ (List.mem_of_getElem? (i := 7) rfl)
theorem tX12_read_224 : (224, a_i 1 225) ∈ kX12_read := qX12_read_5 _ (List.mem_of_getElem? (i := 8) rfl)
theorem tX12_read_225 : (225, a_iload 7 227) ∈ kX12_read := qX12_read_5 _ (List.mem_of_getElem? (i := 9) rfl)
theorem tX12_read_227 : (227, a_ii (fun x y => x - y) 228) ∈ kX12_read := qX12_read_5 _ (List.mem_of_getElem? (i := 10) rfl)
theorem tX12_read_228 : (228, a_ii (fun x y => x + y) 229) ∈ kX12_read := qX12_read_5 _ (List.mem_of_getElem? (i := 11) rfl)
theorem tX12_read_229 : (229, a_istore 6 231) ∈ kX12_read := qX12_read_5 _ (List.mem_of_getElem? (i := 12) rfl)
theorem tX12_read_231 : (231, a_iinc 3 1 234) ∈ kX12_read := qX12_read_5 _ (List.mem_of_getElem? (i := 13) rfl)
theorem tX12_read_234 : (234, a_goto 159) ∈ kX12_read := qX12_read_5 _ (List.mem_of_getElem? (i := 14) rfl)
theorem tX12_read_237 : (237, a_iload 3 238) ∈ kX12_read := qX12_read_5 _ (List.mem_of_getElem? (i := 15) rfl)
theorem tX12_read_238 : (238, a_iload 2 239) ∈ kX12_read := qX12_read_5 _ (List.mem_of_getElem? (i := 16) rfl)
theorem tX12_read_239 : (239, a_ic_eq 248 242) ∈ kX12_read := qX12_read_5 _ (List.mem_of_getElem? (i := 17) rfl)
theorem tX12_read_242 : (242, a_iload 6 244) ∈ kX12_read := qX12_read_5 _ (List.mem_of_getElem? (i := 18) rfl)
theorem tX12_read_244 : (244, a_i 1 245) ∈ kX12_read := qX12_read_5 _ (List.mem_of_getElem? (i := 19) rfl)
theorem tX12_read_245 : (245, a_ic_eq 250 248) ∈ kX12_read := qX12_read_5 _ (List.mem_of_getElem? (i := 20) rfl)
theorem tX12_read_248 : (248, a_iload 3 249) ∈ kX12_read := qX12_read_5 _ (List.mem_of_getElem? (i := 21) rfl)
theorem tX12_read_249 : (249, a_iret false) ∈ kX12_read := qX12_read_5 _ (List.mem_of_getElem? (i := 22) rfl)
theorem tX12_read_250 : (250, a_aload 0 251) ∈ kX12_read := qX12_read_5 _ (List.mem_of_getElem? (i := 23) rfl)
theorem qX12_read_6 : ∀ q ∈ kX12_read_6, q ∈ kX12_read := fun _ h => (List.mem_append_right _ (List.mem_append_right _ (List.mem_append_right _ (List.mem_append_right _ (List.mem_append_right _ (List.mem_append_right _ (List.mem_append_left _ h)))))))
theorem tX12_read_251 : (251, a_getR 12 3 254) ∈ kX12_read := qX12_read_6 _ (List.mem_of_getElem? (i := 0) rfl)
theorem tX12_read_254 : (254, a_i 38 256) ∈ kX12_read := qX12_read_6 _ (List.mem_of_getElem? (i := 1) rfl)
theorem tX12_read_256 : (256, a_iload 4 258) ∈ kX12_read := qX12_read_6 _ (List.mem_of_getElem? (i := 2) rfl)
theorem tX12_read_258 : (258, a_ii (fun x y => x + y) 259) ∈ kX12_read := qX12_read_6 _ (List.mem_of_getElem? (i := 3) rfl)
theorem tX12_read_259 : (259, a_iload 5 261) ∈ kX12_read := qX12_read_6 _ (List.mem_of_getElem? (i := 4) rfl)
theorem tX12_read_261 : (261, a_iast 262) ∈ kX12_read := qX12_read_6 _ (List.mem_of_getElem? (i := 5) rfl)
theorem tX12_read_262 : (262, a_aload 0 263) ∈ kX12_read := qX12_read_6 _ (List.mem_of_getElem? (i := 6) rfl)
theorem tX12_read_263 : (263, a_getR 12 4 266) ∈ kX12_read := qX12_read_6 _ (List.mem_of_getElem? (i := 7) rfl)
theorem tX12_read_266 : (266, a_i 38 268) ∈ kX12_read := qX12_read_6 _ (List.mem_of_getElem? (i := 8) rfl)
theorem tX12_read_268 : (268, a_iload 4 270) ∈ kX12_read := qX12_read_6 _ (List.mem_of_getElem? (i := 9) rfl)
theorem tX12_read_270 : (270, a_ii (fun x y => x + y) 271) ∈ kX12_read := qX12_read_6 _ (List.mem_of_getElem? (i := 10) rfl)
theorem tX12_read_271 : (271, a_iload 3 272) ∈ kX12_read := qX12_read_6 _ (List.mem_of_getElem? (i := 11) rfl)
theorem tX12_read_272 : (272, a_iload 5 274) ∈ kX12_read := qX12_read_6 _ (List.mem_of_getElem? (i := 12) rfl)
theorem tX12_read_274 : (274, a_ii (fun x y => x - y) 275) ∈ kX12_read := qX12_read_6 _ (List.mem_of_getElem? (i := 13) rfl)
theorem tX12_read_275 : (275, a_iast 276) ∈ kX12_read := qX12_read_6 _ (List.mem_of_getElem? (i := 14) rfl)
theorem tX12_read_276 : (276, a_aload 0 277) ∈ kX12_read := qX12_read_6 _ (List.mem_of_getElem? (i := 15) rfl)
theorem tX12_read_277 : (277, a_getR 12 5 280) ∈ kX12_read := qX12_read_6 _ (List.mem_of_getElem? (i := 16) rfl)
theorem tX12_read_280 : (280, a_i 2 281) ∈ kX12_read := qX12_read_6 _ (List.mem_of_getElem? (i := 17) rfl)
theorem tX12_read_281 : (281, a_dup2 282) ∈ kX12_read := qX12_read_6 _ (List.mem_of_getElem? (i := 18) rfl)
theorem tX12_read_282 : (282, a_iald 283) ∈ kX12_read := qX12_read_6 _ (List.mem_of_getElem? (i := 19) rfl)
theorem tX12_read_283 : (283, a_i 1 284) ∈ kX12_read := qX12_read_6 _ (List.mem_of_getElem? (i := 20) rfl)
theorem tX12_read_284 : (284, a_ii (fun x y => x + y) 285) ∈ kX12_read := qX12_read_6 _ (List.mem_of_getElem? (i := 21) rfl)
theorem tX12_read_285 : (285, a_iast 286) ∈ kX12_read := qX12_read_6 _ (List.mem_of_getElem? (i := 22) rfl)
theorem tX12_read_286 : (286, a_iinc 3 1 289) ∈ kX12_read := qX12_read_6 _ (List.mem_of_getElem? (i := 23) rfl)
theorem qX12_read_7 : ∀ q ∈ kX12_read_7, q ∈ kX12_read := fun _ h => (List.mem_append_right _ (List.mem_append_right _ (List.mem_append_right _ (List.mem_append_right _ (List.mem_append_right _ (List.mem_append_right _ (List.mem_append_right _ h)))))))
theorem tX12_read_289 : (289, a_goto 76) ∈ kX12_read := qX12_read_7 _ (List.mem_of_getElem? (i := 0) rfl)
theorem tX12_read_292 : (292, a_i (-4) 294) ∈ kX12_read := qX12_read_7 _ (List.mem_of_getElem? (i := 1) rfl)
theorem tX12_read_294 : (294, a_iret false) ∈ kX12_read := qX12_read_7 _ (List.mem_of_getElem? (i := 2) rfl)
theorem oX12_read : ∀ q ∈ kX12_read, zSnd zty false RX12 cX12_read 8 (some .int) false q := List.forall_mem_append.mpr ⟨oX12_read_0, List.forall_mem_append.mpr ⟨oX12_read_1, List.forall_mem_append.mpr ⟨oX12_read_2, List.forall_mem_append.mpr ⟨oX12_read_3, List.forall_mem_append.mpr ⟨oX12_read_4, List.forall_mem_append.mpr ⟨oX12_read_5, List.forall_mem_append.mpr ⟨oX12_read_6, oX12_read_7⟩⟩⟩⟩⟩⟩⟩
theorem dX12_namesIn_0 : decode cX12_namesIn 0 = .ok (.iconst 0, 1) := by decide +kernel
theorem dX12_namesIn_1 : decode cX12_namesIn 1 = .ok (.istore_n 3, 1) := by decide +kernel
theorem dX12_namesIn_2 : decode cX12_namesIn 2 = .ok (.iconst 0, 1) := by decide +kernel
theorem dX12_namesIn_3 : decode cX12_namesIn 3 = .ok (.istore 4, 2) := by decide +kernel
theorem dX12_namesIn_5 : decode cX12_namesIn 5 = .ok (.iload 4, 2) := by decide +kernel
theorem dX12_namesIn_7 : decode cX12_namesIn 7 = .ok (.aload_n 0, 1) := by decide +kernel
theorem dX12_namesIn_8 : decode cX12_namesIn 8 = .ok (.getfield 22, 3) := by decide +kernel
theorem dX12_namesIn_11 : decode cX12_namesIn 11 = .ok (.bipush 19, 2) := by decide +kernel
theorem dX12_namesIn_13 : decode cX12_namesIn 13 = .ok (.iload_n 1, 1) := by decide +kernel
theorem dX12_namesIn_14 : decode cX12_namesIn 14 = .ok (.imul, 1) := by decide +kernel
theorem dX12_namesIn_15 : decode cX12_namesIn 15 = .ok (.iload_n 2, 1) := by decide +kernel
theorem dX12_namesIn_16 : decode cX12_namesIn 16 = .ok (.iadd, 1) := by decide +kernel
theorem dX12_namesIn_17 : decode cX12_namesIn 17 = .ok (.iaload, 1) := by decide +kernel
theorem dX12_namesIn_18 : decode cX12_namesIn 18 = .ok (.if_icmp .ge 62, 3) := by decide +kernel
theorem dX12_namesIn_21 : decode cX12_namesIn 21 = .ok (.aload_n 0, 1) := by decide +kernel
theorem dX12_namesIn_22 : decode cX12_namesIn 22 = .ok (.getfield 16, 3) := by decide +kernel
theorem dX12_namesIn_25 : decode cX12_namesIn 25 = .ok (.sipush 200, 3) := by decide +kernel
theorem dX12_namesIn_28 : decode cX12_namesIn 28 = .ok (.iload_n 1, 1) := by decide +kernel
theorem dX12_namesIn_29 : decode cX12_namesIn 29 = .ok (.imul, 1) := by decide +kernel
theorem dX12_namesIn_30 : decode cX12_namesIn 30 = .ok (.aload_n 0, 1) := by decide +kernel
theorem dX12_namesIn_31 : decode cX12_namesIn 31 = .ok (.getfield 19, 3) := by decide +kernel
theorem dX12_namesIn_34 : decode cX12_namesIn 34 = .ok (.bipush 19, 2) := by decide +kernel
theorem dX12_namesIn_36 : decode cX12_namesIn 36 = .ok (.iload_n 1, 1) := by decide +kernel
theorem dX12_namesIn_37 : decode cX12_namesIn 37 = .ok (.imul, 1) := by decide +kernel
theorem dX12_namesIn_38 : decode cX12_namesIn 38 = .ok (.iload_n 2, 1) := by decide +kernel
theorem dX12_namesIn_39 : decode cX12_namesIn 39 = .ok (.iadd, 1) := by decide +kernel
theorem dX12_namesIn_40 : decode cX12_namesIn 40 = .ok (.iaload, 1) := by decide +kernel
theorem dX12_namesIn_41 : decode cX12_namesIn 41 = .ok (.iadd, 1) := by decide +kernel
theorem dX12_namesIn_42 : decode cX12_namesIn 42 = .ok (.iload 4, 2) := by decide +kernel
theorem dX12_namesIn_44 : decode cX12_namesIn 44 = .ok (.iadd, 1) := by decide +kernel
theorem dX12_namesIn_45 : decode cX12_namesIn 45 = .ok (.iaload, 1) := by decide +kernel
theorem dX12_namesIn_46 : decode cX12_namesIn 46 = .ok (.istore 5, 2) := by decide +kernel
theorem dX12_namesIn_48 : decode cX12_namesIn 48 = .ok (.iload_n 3, 1) := by decide +kernel
theorem dX12_namesIn_49 : decode cX12_namesIn 49 = .ok (.iload 5, 2) := by decide +kernel
theorem dX12_namesIn_51 : decode cX12_namesIn 51 = .ok (.bipush 97, 2) := by decide +kernel
theorem dX12_namesIn_53 : decode cX12_namesIn 53 = .ok (.bipush 115, 2) := by decide +kernel
theorem dX12_namesIn_55 : decode cX12_namesIn 55 = .ok (.invokestatic 112, 3) := by decide +kernel
theorem dX12_namesIn_58 : decode cX12_namesIn 58 = .ok (.ifCond .eq 13, 3) := by decide +kernel
theorem dX12_namesIn_61 : decode cX12_namesIn 61 = .ok (.iconst 1, 1) := by decide +kernel
theorem dX12_namesIn_62 : decode cX12_namesIn 62 = .ok (.iload 5, 2) := by decide +kernel
theorem dX12_namesIn_64 : decode cX12_namesIn 64 = .ok (.bipush 97, 2) := by decide +kernel
theorem dX12_namesIn_66 : decode cX12_namesIn 66 = .ok (.isub, 1) := by decide +kernel
theorem dX12_namesIn_67 : decode cX12_namesIn 67 = .ok (.ishl, 1) := by decide +kernel
theorem dX12_namesIn_68 : decode cX12_namesIn 68 = .ok (.goto 4, 3) := by decide +kernel
theorem dX12_namesIn_71 : decode cX12_namesIn 71 = .ok (.iconst 0, 1) := by decide +kernel
theorem dX12_namesIn_72 : decode cX12_namesIn 72 = .ok (.ior, 1) := by decide +kernel
theorem dX12_namesIn_73 : decode cX12_namesIn 73 = .ok (.istore_n 3, 1) := by decide +kernel
theorem dX12_namesIn_74 : decode cX12_namesIn 74 = .ok (.iinc 4 1, 3) := by decide +kernel
theorem dX12_namesIn_77 : decode cX12_namesIn 77 = .ok (.goto (-72), 3) := by decide +kernel
theorem dX12_namesIn_80 : decode cX12_namesIn 80 = .ok (.iload_n 3, 1) := by decide +kernel
theorem dX12_namesIn_81 : decode cX12_namesIn 81 = .ok (.ireturn, 1) := by decide +kernel
def kX12_namesIn_0 : List (Nat × zT) := [(0, a_i 0 1), (1, a_istore 3 2), (2, a_i 0 3), (3, a_istore 4 5), (5, a_iload 4 7), (7, a_aload 0 8), (8, a_getR 12 4 11), (11, a_i 19 13), (13, a_iload 1 14), (14, a_ii (fun x y => x * y) 15), (15, a_iload 2 16), (16, a_ii (fun x y => x + y) 17), (17, a_iald 18), (18, a_ic_ge 80 21), (21, a_aload 0 22), (22, a_getR 12 2 25), (25, a_i 200 28), (28, a_iload 1 29), (29, a_ii (fun x y => x * y) 30), (30, a_aload 0 31), (31, a_getR 12 3 34), (34, a_i 19 36), (36, a_iload 1 37), (37, a_ii (fun x y => x * y) 38)]
theorem oX12_namesIn_0 : ∀ q ∈ kX12_namesIn_0, zSnd zty false RX12 cX12_namesIn 6 (some .int) false q := List.forall_mem_cons.mpr ⟨ok_iconst dX12_namesIn_0 (by decide), List.forall_mem_cons.mpr ⟨ok_istore_n dX12_namesIn_1 rfl (by decide), List.forall_mem_cons.mpr ⟨ok_iconst dX12_namesIn_2 (by decide), List.forall_mem_cons.mpr ⟨ok_istore dX12_namesIn_3 (by decide), List.forall_mem_cons.mpr ⟨ok_iload dX12_namesIn_5, List.forall_mem_cons.mpr ⟨ok_aload_n dX12_namesIn_7 rfl, List.forall_mem_cons.mpr ⟨ok_getR dX12_namesIn_8 rfl in12 (by decide) rfl w961, List.forall_mem_cons.mpr ⟨ok_bipush dX12_namesIn_11 (by decide), List.forall_mem_cons.mpr ⟨ok_iload_n dX12_namesIn_13 rfl, List.forall_mem_cons.mpr ⟨ok_imul dX12_namesIn_14, List.forall_mem_cons.mpr ⟨ok_iload_n dX12_namesIn_15 rfl, List.forall_mem_cons.mpr ⟨ok_iadd dX12_namesIn_16, List.forall_mem_cons.mpr ⟨ok_iald dX12_namesIn_17, List.forall_mem_cons.mpr ⟨ok_ic_ge dX12_namesIn_18 (by decide), List.forall_mem_cons.mpr ⟨ok_aload_n dX12_namesIn_21 rfl, List.forall_mem_cons.mpr ⟨ok_getR dX12_namesIn_22 rfl in12 (by decide) rfl w959, List.forall_mem_cons.mpr ⟨ok_sipush dX12_namesIn_25 (by decide), List.forall_mem_cons.mpr ⟨ok_iload_n dX12_namesIn_28 rfl, List.forall_mem_cons.mpr ⟨ok_imul dX12_namesIn_29, List.forall_mem_cons.mpr ⟨ok_aload_n dX12_namesIn_30 rfl, List.forall_mem_cons.mpr ⟨ok_getR dX12_namesIn_31 rfl in12 (by decide) rfl w960, List.forall_mem_cons.mpr ⟨ok_bipush dX12_namesIn_34 (by decide), List.forall_mem_cons.mpr ⟨ok_iload_n dX12_namesIn_36 rfl, List.forall_mem_cons.mpr ⟨ok_imul dX12_namesIn_37, fun _ h => absurd h List.not_mem_nil⟩⟩⟩⟩⟩⟩⟩⟩⟩⟩⟩⟩⟩⟩⟩⟩⟩⟩⟩⟩⟩⟩⟩⟩
def kX12_namesIn_1 : List (Nat × zT) := [(38, a_iload 2 39), (39, a_ii (fun x y => x + y) 40), (40, a_iald 41), (41, a_ii (fun x y => x + y) 42), (42, a_iload 4 44), (44, a_ii (fun x y => x + y) 45), (45, a_iald 46), (46, a_istore 5 48), (48, a_iload 3 49), (49, a_iload 5 51), (51, a_i 97 53), (53, a_i 115 55), (55, a_call 138 3 58 0 0), (58, a_if_eq 71 61), (61, a_i 1 62), (62, a_iload 5 64), (64, a_i 97 66), (66, a_ii (fun x y => x - y) 67), (67, a_ii (fun x y => x <<< (y &&& 31)) 68), (68, a_goto 72), (71, a_i 0 72), (72, a_ii (fun x y => x ||| y) 73), (73, a_istore 3 74), (74, a_iinc 4 1 77)]
theorem oX12_namesIn_1 : ∀ q ∈ kX12_namesIn_1, zSnd zty false RX12 cX12_namesIn 6 (some .int) false q := List.forall_mem_cons.mpr ⟨ok_iload_n dX12_namesIn_38 rfl, List.forall_mem_cons.mpr ⟨ok_iadd dX12_namesIn_39, List.forall_mem_cons.mpr ⟨ok_iald dX12_namesIn_40, List.forall_mem_cons.mpr ⟨ok_iadd dX12_namesIn_41, List.forall_mem_cons.mpr ⟨ok_iload dX12_namesIn_42, List.forall_mem_cons.mpr ⟨ok_iadd dX12_namesIn_44, List.forall_mem_cons.mpr ⟨ok_iald dX12_namesIn_45, List.forall_mem_cons.mpr ⟨ok_istore dX12_namesIn_46 (by decide), List.forall_mem_cons.mpr ⟨ok_iload_n dX12_namesIn_48 rfl, List.forall_mem_cons.mpr ⟨ok_iload dX12_namesIn_49, List.forall_mem_cons.mpr ⟨ok_bipush dX12_namesIn_51 (by decide), List.forall_mem_cons.mpr ⟨ok_bipush dX12_namesIn_53 (by decide), List.forall_mem_cons.mpr ⟨ok_callS dX12_namesIn_55 rfl w1084 w1082 w1083 w13 (by decide +kernel) (by decide), List.forall_mem_cons.mpr ⟨ok_if_eq dX12_namesIn_58 (by decide), List.forall_mem_cons.mpr ⟨ok_iconst dX12_namesIn_61 (by decide), List.forall_mem_cons.mpr ⟨ok_iload dX12_namesIn_62, List.forall_mem_cons.mpr ⟨ok_bipush dX12_namesIn_64 (by decide), List.forall_mem_cons.mpr ⟨ok_isub dX12_namesIn_66, List.forall_mem_cons.mpr ⟨ok_ishl dX12_namesIn_67, List.forall_mem_cons.mpr ⟨ok_goto dX12_namesIn_68 (by decide), List.forall_mem_cons.mpr ⟨ok_iconst dX12_namesIn_71 (by decide), List.forall_mem_cons.mpr ⟨ok_ior dX12_namesIn_72, List.forall_mem_cons.mpr ⟨ok_istore_n dX12_namesIn_73 rfl (by decide), List.forall_mem_cons.mpr ⟨ok_iinc dX12_namesIn_74 (by decide) (by decide), fun _ h => absurd h List.not_mem_nil⟩⟩⟩⟩⟩⟩⟩⟩⟩⟩⟩⟩⟩⟩⟩⟩⟩⟩⟩⟩⟩⟩⟩⟩
def kX12_namesIn_2 : List (Nat × zT) := [(77, a_goto 5), (80, a_iload 3 81), (81, a_iret false)]
theorem oX12_namesIn_2 : ∀ q ∈ kX12_namesIn_2, zSnd zty false RX12 cX12_namesIn 6 (some .int) false q := List.forall_mem_cons.mpr ⟨ok_goto dX12_namesIn_77 (by decide), List.forall_mem_cons.mpr ⟨ok_iload_n dX12_namesIn_80 rfl, List.forall_mem_cons.mpr ⟨ok_iret (bz := false) dX12_namesIn_81 rfl, fun _ h => absurd h List.not_mem_nil⟩⟩⟩
def kX12_namesIn : List (Nat × zT) := kX12_namesIn_0 ++ (kX12_namesIn_1 ++ (kX12_namesIn_2))
theorem qX12_namesIn_0 : ∀ q ∈ kX12_namesIn_0, q ∈ kX12_namesIn := fun _ h => (List.mem_append_left _ h)
theorem tX12_namesIn_0 : (0, a_i 0 1) ∈ kX12_namesIn := qX12_namesIn_0 _ (List.mem_of_getElem? (i := 0) rfl)
theorem tX12_namesIn_1 : (1, a_istore 3 2) ∈ kX12_namesIn := qX12_namesIn_0 _ (List.mem_of_getElem? (i := 1) rfl)
theorem tX12_namesIn_2 : (2, a_i 0 3) ∈ kX12_namesIn := qX12_namesIn_0 _ (List.mem_of_getElem? (i := 2) rfl)
theorem tX12_namesIn_3 : (3, a_istore 4 5) ∈ kX12_namesIn := qX12_namesIn_0 _ (List.mem_of_getElem? (i := 3) rfl)
theorem tX12_namesIn_5 : (5, a_iload 4 7) ∈ kX12_namesIn := qX12_namesIn_0 _ (List.mem_of_getElem? (i := 4) rfl)
theorem tX12_namesIn_7 : (7, a_aload 0 8) ∈ kX12_namesIn := qX12_namesIn_0 _ (List.mem_of_getElem? (i := 5) rfl)
theorem tX12_namesIn_8 : (8, a_getR 12 4 11) ∈ kX12_namesIn := qX12_namesIn_0 _ (List.mem_of_getElem? (i := 6) rfl)
theorem tX12_namesIn_11 : (11, a_i 19 13) ∈ kX12_namesIn := qX12_namesIn_0 _ (List.mem_of_getElem? (i := 7) rfl)
theorem tX12_namesIn_13 : (13, a_iload 1 14) ∈ kX12_namesIn := qX12_namesIn_0 _ (List.mem_of_getElem? (i := 8) rfl)
theorem tX12_namesIn_14 : (14, a_ii (fun x y => x * y) 15) ∈ kX12_namesIn := qX12_namesIn_0 _ (List.mem_of_getElem? (i := 9) rfl)
theorem tX12_namesIn_15 : (15, a_iload 2 16) ∈ kX12_namesIn := qX12_namesIn_0 _ (List.mem_of_getElem? (i := 10) rfl)
theorem tX12_namesIn_16 : (16, a_ii (fun x y => x + y) 17) ∈ kX12_namesIn := qX12_namesIn_0 _ (List.mem_of_getElem? (i := 11) rfl)
theorem tX12_namesIn_17 : (17, a_iald 18) ∈ kX12_namesIn := qX12_namesIn_0 _ (List.mem_of_getElem? (i := 12) rfl)
theorem tX12_namesIn_18 : (18, a_ic_ge 80 21) ∈ kX12_namesIn := qX12_namesIn_0 _ (List.mem_of_getElem? (i := 13) rfl)
theorem tX12_namesIn_21 : (21, a_aload 0 22) ∈ kX12_namesIn := qX12_namesIn_0 _ (List.mem_of_getElem? (i := 14) rfl)
theorem tX12_namesIn_22 : (22, a_getR 12 2 25) ∈ kX12_namesIn := qX12_namesIn_0 _ (List.mem_of_getElem? (i := 15) rfl)
theorem tX12_namesIn_25 : (25, a_i 200 28) ∈ kX12_namesIn := qX12_namesIn_0 _ (List.mem_of_getElem? (i := 16) rfl)
theorem tX12_namesIn_28 : (28, a_iload 1 29) ∈ kX12_namesIn := qX12_namesIn_0 _ (List.mem_of_getElem? (i := 17) rfl)
theorem tX12_namesIn_29 : (29, a_ii (fun x y => x * y) 30) ∈ kX12_namesIn := qX12_namesIn_0 _ (List.mem_of_getElem? (i := 18) rfl)
theorem tX12_namesIn_30 : (30, a_aload 0 31) ∈ kX12_namesIn := qX12_namesIn_0 _ (List.mem_of_getElem? (i := 19) rfl)
theorem tX12_namesIn_31 : (31, a_getR 12 3 34) ∈ kX12_namesIn := qX12_namesIn_0 _ (List.mem_of_getElem? (i := 20) rfl)
theorem tX12_namesIn_34 : (34, a_i 19 36) ∈ kX12_namesIn := qX12_namesIn_0 _ (List.mem_of_getElem? (i := 21) rfl)
theorem tX12_namesIn_36 : (36, a_iload 1 37) ∈ kX12_namesIn := qX12_namesIn_0 _ (List.mem_of_getElem? (i := 22) rfl)
theorem tX12_namesIn_37 : (37, a_ii (fun x y => x * y) 38) ∈ kX12_namesIn := qX12_namesIn_0 _ (List.mem_of_getElem? (i := 23) rfl)
theorem qX12_namesIn_1 : ∀ q ∈ kX12_namesIn_1, q ∈ kX12_namesIn := fun _ h => (List.mem_append_right _ (List.mem_append_left _ h))
theorem tX12_namesIn_38 : (38, a_iload 2 39) ∈ kX12_namesIn := qX12_namesIn_1 _ (List.mem_of_getElem? (i := 0) rfl)
theorem tX12_namesIn_39 : (39, a_ii (fun x y => x + y) 40) ∈ kX12_namesIn := qX12_namesIn_1 _ (List.mem_of_getElem? (i := 1) rfl)
theorem tX12_namesIn_40 : (40, a_iald 41) ∈ kX12_namesIn := qX12_namesIn_1 _ (List.mem_of_getElem? (i := 2) rfl)
theorem tX12_namesIn_41 : (41, a_ii (fun x y => x + y) 42) ∈ kX12_namesIn := qX12_namesIn_1 _ (List.mem_of_getElem? (i := 3) rfl)
theorem tX12_namesIn_42 : (42, a_iload 4 44) ∈ kX12_namesIn := qX12_namesIn_1 _ (List.mem_of_getElem? (i := 4) rfl)
theorem tX12_namesIn_44 : (44, a_ii (fun x y => x + y) 45) ∈ kX12_namesIn := qX12_namesIn_1 _ (List.mem_of_getElem? (i := 5) rfl)
theorem tX12_namesIn_45 : (45, a_iald 46) ∈ kX12_namesIn := qX12_namesIn_1 _ (List.mem_of_getElem? (i := 6) rfl)
theorem tX12_namesIn_46 : (46, a_istore 5 48) ∈ kX12_namesIn := qX12_namesIn_1 _ (List.mem_of_getElem? (i := 7) rfl)
theorem tX12_namesIn_48 : (48, a_iload 3 49) ∈ kX12_namesIn := qX12_namesIn_1 _ (List.mem_of_getElem? (i := 8) rfl)
theorem tX12_namesIn_49 : (49, a_iload 5 51) ∈ kX12_namesIn := qX12_namesIn_1 _ (List.mem_of_getElem? (i := 9) rfl)
theorem tX12_namesIn_51 : (51, a_i 97 53) ∈ kX12_namesIn := qX12_namesIn_1 _ (List.mem_of_getElem? (i := 10) rfl)
theorem tX12_namesIn_53 : (53, a_i 115 55) ∈ kX12_namesIn := qX12_namesIn_1 _ (List.mem_of_getElem? (i := 11) rfl)
theorem tX12_namesIn_55 : (55, a_call 138 3 58 0 0) ∈ kX12_namesIn := qX12_namesIn_1 _ (List.mem_of_getElem? (i := 12) rfl)
theorem tX12_namesIn_58 : (58, a_if_eq 71 61) ∈ kX12_namesIn := qX12_namesIn_1 _ (List.mem_of_getElem? (i := 13) rfl)
theorem tX12_namesIn_61 : (61, a_i 1 62) ∈ kX12_namesIn := qX12_namesIn_1 _ (List.mem_of_getElem? (i := 14) rfl)
theorem tX12_namesIn_62 : (62, a_iload 5 64) ∈ kX12_namesIn := qX12_namesIn_1 _ (List.mem_of_getElem? (i := 15) rfl)
theorem tX12_namesIn_64 : (64, a_i 97 66) ∈ kX12_namesIn := qX12_namesIn_1 _ (List.mem_of_getElem? (i := 16) rfl)
theorem tX12_namesIn_66 : (66, a_ii (fun x y => x - y) 67) ∈ kX12_namesIn := qX12_namesIn_1 _ (List.mem_of_getElem? (i := 17) rfl)
theorem tX12_namesIn_67 : (67, a_ii (fun x y => x <<< (y &&& 31)) 68) ∈ kX12_namesIn := qX12_namesIn_1 _ (List.mem_of_getElem? (i := 18) rfl)
theorem tX12_namesIn_68 : (68, a_goto 72) ∈ kX12_namesIn := qX12_namesIn_1 _ (List.mem_of_getElem? (i := 19) rfl)
theorem tX12_namesIn_71 : (71, a_i 0 72) ∈ kX12_namesIn := qX12_namesIn_1 _ (List.mem_of_getElem? (i := 20) rfl)
theorem tX12_namesIn_72 : (72, a_ii (fun x y => x ||| y) 73) ∈ kX12_namesIn := qX12_namesIn_1 _ (List.mem_of_getElem? (i := 21) rfl)
theorem tX12_namesIn_73 : (73, a_istore 3 74) ∈ kX12_namesIn := qX12_namesIn_1 _ (List.mem_of_getElem? (i := 22) rfl)
theorem tX12_namesIn_74 : (74, a_iinc 4 1 77) ∈ kX12_namesIn := qX12_namesIn_1 _ (List.mem_of_getElem? (i := 23) rfl)
theorem qX12_namesIn_2 : ∀ q ∈ kX12_namesIn_2, q ∈ kX12_namesIn := fun _ h => (List.mem_append_right _ (List.mem_append_right _ h))
theorem tX12_namesIn_77 : (77, a_goto 5) ∈ kX12_namesIn := qX12_namesIn_2 _ (List.mem_of_getElem? (i := 0) rfl)
theorem tX12_namesIn_80 : (80, a_iload 3 81) ∈ kX12_namesIn := qX12_namesIn_2 _ (List.mem_of_getElem? (i := 1) rfl)
theorem tX12_namesIn_81 : (81, a_iret false) ∈ kX12_namesIn := qX12_namesIn_2 _ (List.mem_of_getElem? (i := 2) rfl)
theorem oX12_namesIn : ∀ q ∈ kX12_namesIn, zSnd zty false RX12 cX12_namesIn 6 (some .int) false q := List.forall_mem_append.mpr ⟨oX12_namesIn_0, List.forall_mem_append.mpr ⟨oX12_namesIn_1, oX12_namesIn_2⟩⟩
theorem dX12_leans_0 : decode cX12_leans 0 = .ok (.aload_n 0, 1) := by decide +kernel
theorem dX12_leans_1 : decode cX12_leans 1 = .ok (.iload_n 1, 1) := by decide +kernel
theorem dX12_leans_2 : decode cX12_leans 2 = .ok (.iload_n 2, 1) := by decide +kernel
theorem dX12_leans_3 : decode cX12_leans 3 = .ok (.invokevirtual 122, 3) := by decide +kernel
theorem dX12_leans_6 : decode cX12_leans 6 = .ok (.istore_n 3, 1) := by decide +kernel
theorem dX12_leans_7 : decode cX12_leans 7 = .ok (.iconst 0, 1) := by decide +kernel
theorem dX12_leans_8 : decode cX12_leans 8 = .ok (.istore 4, 2) := by decide +kernel
theorem dX12_leans_10 : decode cX12_leans 10 = .ok (.iload_n 3, 1) := by decide +kernel
theorem dX12_leans_11 : decode cX12_leans 11 = .ok (.iload 4, 2) := by decide +kernel
theorem dX12_leans_13 : decode cX12_leans 13 = .ok (.if_icmp .eq 51, 3) := by decide +kernel
theorem dX12_leans_16 : decode cX12_leans 16 = .ok (.iload_n 3, 1) := by decide +kernel
theorem dX12_leans_17 : decode cX12_leans 17 = .ok (.istore 4, 2) := by decide +kernel
theorem dX12_leans_19 : decode cX12_leans 19 = .ok (.bipush 6, 2) := by decide +kernel
theorem dX12_leans_21 : decode cX12_leans 21 = .ok (.istore 5, 2) := by decide +kernel
theorem dX12_leans_23 : decode cX12_leans 23 = .ok (.iload 5, 2) := by decide +kernel
theorem dX12_leans_25 : decode cX12_leans 25 = .ok (.bipush 15, 2) := by decide +kernel
theorem dX12_leans_27 : decode cX12_leans 27 = .ok (.if_icmp .ge 34, 3) := by decide +kernel
theorem dX12_leans_30 : decode cX12_leans 30 = .ok (.iload_n 3, 1) := by decide +kernel
theorem dX12_leans_31 : decode cX12_leans 31 = .ok (.iload 4, 2) := by decide +kernel
theorem dX12_leans_33 : decode cX12_leans 33 = .ok (.iload 5, 2) := by decide +kernel
theorem dX12_leans_35 : decode cX12_leans 35 = .ok (.ishr, 1) := by decide +kernel
theorem dX12_leans_36 : decode cX12_leans 36 = .ok (.iconst 1, 1) := by decide +kernel
theorem dX12_leans_37 : decode cX12_leans 37 = .ok (.iand, 1) := by decide +kernel
theorem dX12_leans_38 : decode cX12_leans 38 = .ok (.iconst 1, 1) := by decide +kernel
theorem dX12_leans_39 : decode cX12_leans 39 = .ok (.if_icmp .ne 13, 3) := by decide +kernel
theorem dX12_leans_42 : decode cX12_leans 42 = .ok (.aload_n 0, 1) := by decide +kernel
theorem dX12_leans_43 : decode cX12_leans 43 = .ok (.iload_n 1, 1) := by decide +kernel
theorem dX12_leans_44 : decode cX12_leans 44 = .ok (.iload 5, 2) := by decide +kernel
theorem dX12_leans_46 : decode cX12_leans 46 = .ok (.invokevirtual 122, 3) := by decide +kernel
theorem dX12_leans_49 : decode cX12_leans 49 = .ok (.goto 4, 3) := by decide +kernel
theorem dX12_leans_52 : decode cX12_leans 52 = .ok (.iconst 0, 1) := by decide +kernel
theorem dX12_leans_53 : decode cX12_leans 53 = .ok (.ior, 1) := by decide +kernel
theorem dX12_leans_54 : decode cX12_leans 54 = .ok (.istore_n 3, 1) := by decide +kernel
theorem dX12_leans_55 : decode cX12_leans 55 = .ok (.iinc 5 1, 3) := by decide +kernel
theorem dX12_leans_58 : decode cX12_leans 58 = .ok (.goto (-35), 3) := by decide +kernel
theorem dX12_leans_61 : decode cX12_leans 61 = .ok (.goto (-51), 3) := by decide +kernel
theorem dX12_leans_64 : decode cX12_leans 64 = .ok (.iload_n 3, 1) := by decide +kernel
theorem dX12_leans_65 : decode cX12_leans 65 = .ok (.ireturn, 1) := by decide +kernel
def kX12_leans_0 : List (Nat × zT) := [(0, a_aload 0 1), (1, a_iload 1 2), (2, a_iload 2 3), (3, a_callV 12 143 3 6 0 0), (6, a_istore 3 7), (7, a_i 0 8), (8, a_istore 4 10), (10, a_iload 3 11), (11, a_iload 4 13), (13, a_ic_eq 64 16), (16, a_iload 3 17), (17, a_istore 4 19), (19, a_i 6 21), (21, a_istore 5 23), (23, a_iload 5 25), (25, a_i 15 27), (27, a_ic_ge 61 30), (30, a_iload 3 31), (31, a_iload 4 33), (33, a_iload 5 35), (35, a_ii (fun x y => x >>> (y &&& 31)) 36), (36, a_i 1 37), (37, a_ii (fun x y => x &&& y) 38), (38, a_i 1 39)]
theorem oX12_leans_0 : ∀ q ∈ kX12_leans_0, zSnd zty false RX12 cX12_leans 6 (some .int) false q := List.forall_mem_cons.mpr ⟨ok_aload_n dX12_leans_0 rfl, List.forall_mem_cons.mpr ⟨ok_iload_n dX12_leans_1 rfl, List.forall_mem_cons.mpr ⟨ok_iload_n dX12_leans_2 rfl, List.forall_mem_cons.mpr ⟨ok_callV dX12_leans_3 rfl rfl w1116 w1113 w1115 w13 s25 (by decide +kernel) (by decide), List.forall_mem_cons.mpr ⟨ok_istore_n dX12_leans_6 rfl (by decide), List.forall_mem_cons.mpr ⟨ok_iconst dX12_leans_7 (by decide), List.forall_mem_cons.mpr ⟨ok_istore dX12_leans_8 (by decide), List.forall_mem_cons.mpr ⟨ok_iload_n dX12_leans_10 rfl, List.forall_mem_cons.mpr ⟨ok_iload dX12_leans_11, List.forall_mem_cons.mpr ⟨ok_ic_eq dX12_leans_13 (by decide), List.forall_mem_cons.mpr ⟨ok_iload_n dX12_leans_16 rfl, List.forall_mem_cons.mpr ⟨ok_istore dX12_leans_17 (by decide), List.forall_mem_cons.mpr ⟨ok_bipush dX12_leans_19 (by decide), List.forall_mem_cons.mpr ⟨ok_istore dX12_leans_21 (by decide), List.forall_mem_cons.mpr ⟨ok_iload dX12_leans_23, List.forall_mem_cons.mpr ⟨ok_bipush dX12_leans_25 (by decide), List.forall_mem_cons.mpr ⟨ok_ic_ge dX12_leans_27 (by decide), List.forall_mem_cons.mpr ⟨ok_iload_n dX12_leans_30 rfl, List.forall_mem_cons.mpr ⟨ok_iload dX12_leans_31, List.forall_mem_cons.mpr ⟨ok_iload dX12_leans_33, List.forall_mem_cons.mpr ⟨ok_ishr dX12_leans_35, List.forall_mem_cons.mpr ⟨ok_iconst dX12_leans_36 (by decide), List.forall_mem_cons.mpr ⟨ok_iand dX12_leans_37, List.forall_mem_cons.mpr ⟨ok_iconst dX12_leans_38 (by decide), fun _ h => absurd h List.not_mem_nil⟩⟩⟩⟩⟩⟩⟩⟩⟩⟩⟩⟩⟩⟩⟩⟩⟩⟩⟩⟩⟩⟩⟩⟩
def kX12_leans_1 : List (Nat × zT) := [(39, a_ic_ne 52 42), (42, a_aload 0 43), (43, a_iload 1 44), (44, a_iload 5 46), (46, a_callV 12 143 3 49 0 0), (49, a_goto 53), (52, a_i 0 53), (53, a_ii (fun x y => x ||| y) 54), (54, a_istore 3 55), (55, a_iinc 5 1 58), (58, a_goto 23), (61, a_goto 10), (64, a_iload 3 65), (65, a_iret false)]
theorem oX12_leans_1 : ∀ q ∈ kX12_leans_1, zSnd zty false RX12 cX12_leans 6 (some .int) false q := List.forall_mem_cons.mpr ⟨ok_ic_ne dX12_leans_39 (by decide), List.forall_mem_cons.mpr ⟨ok_aload_n dX12_leans_42 rfl, List.forall_mem_cons.mpr ⟨ok_iload_n dX12_leans_43 rfl, List.forall_mem_cons.mpr ⟨ok_iload dX12_leans_44, List.forall_mem_cons.mpr ⟨ok_callV dX12_leans_46 rfl rfl w1116 w1113 w1115 w13 s25 (by decide +kernel) (by decide), List.forall_mem_cons.mpr ⟨ok_goto dX12_leans_49 (by decide), List.forall_mem_cons.mpr ⟨ok_iconst dX12_leans_52 (by decide), List.forall_mem_cons.mpr ⟨ok_ior dX12_leans_53, List.forall_mem_cons.mpr ⟨ok_istore_n dX12_leans_54 rfl (by decide), List.forall_mem_cons.mpr ⟨ok_iinc dX12_leans_55 (by decide) (by decide), List.forall_mem_cons.mpr ⟨ok_goto dX12_leans_58 (by decide), List.forall_mem_cons.mpr ⟨ok_goto dX12_leans_61 (by decide), List.forall_mem_cons.mpr ⟨ok_iload_n dX12_leans_64 rfl, List.forall_mem_cons.mpr ⟨ok_iret (bz := false) dX12_leans_65 rfl, fun _ h => absurd h List.not_mem_nil⟩⟩⟩⟩⟩⟩⟩⟩⟩⟩⟩⟩⟩⟩
def kX12_leans : List (Nat × zT) := kX12_leans_0 ++ (kX12_leans_1)
theorem qX12_leans_0 : ∀ q ∈ kX12_leans_0, q ∈ kX12_leans := fun _ h => (List.mem_append_left _ h)
theorem tX12_leans_0 : (0, a_aload 0 1) ∈ kX12_leans := qX12_leans_0 _ (List.mem_of_getElem? (i := 0) rfl)
theorem tX12_leans_1 : (1, a_iload 1 2) ∈ kX12_leans := qX12_leans_0 _ (List.mem_of_getElem? (i := 1) rfl)
theorem tX12_leans_2 : (2, a_iload 2 3) ∈ kX12_leans := qX12_leans_0 _ (List.mem_of_getElem? (i := 2) rfl)
theorem tX12_leans_3 : (3, a_callV 12 143 3 6 0 0) ∈ kX12_leans := qX12_leans_0 _ (List.mem_of_getElem? (i := 3) rfl)
theorem tX12_leans_6 : (6, a_istore 3 7) ∈ kX12_leans := qX12_leans_0 _ (List.mem_of_getElem? (i := 4) rfl)
theorem tX12_leans_7 : (7, a_i 0 8) ∈ kX12_leans := qX12_leans_0 _ (List.mem_of_getElem? (i := 5) rfl)
theorem tX12_leans_8 : (8, a_istore 4 10) ∈ kX12_leans := qX12_leans_0 _ (List.mem_of_getElem? (i := 6) rfl)
theorem tX12_leans_10 : (10, a_iload 3 11) ∈ kX12_leans := qX12_leans_0 _ (List.mem_of_getElem? (i := 7) rfl)
theorem tX12_leans_11 : (11, a_iload 4 13) ∈ kX12_leans := qX12_leans_0 _ (List.mem_of_getElem? (i := 8) rfl)
theorem tX12_leans_13 : (13, a_ic_eq 64 16) ∈ kX12_leans := qX12_leans_0 _ (List.mem_of_getElem? (i := 9) rfl)
theorem tX12_leans_16 : (16, a_iload 3 17) ∈ kX12_leans := qX12_leans_0 _ (List.mem_of_getElem? (i := 10) rfl)
theorem tX12_leans_17 : (17, a_istore 4 19) ∈ kX12_leans := qX12_leans_0 _ (List.mem_of_getElem? (i := 11) rfl)
theorem tX12_leans_19 : (19, a_i 6 21) ∈ kX12_leans := qX12_leans_0 _ (List.mem_of_getElem? (i := 12) rfl)
theorem tX12_leans_21 : (21, a_istore 5 23) ∈ kX12_leans := qX12_leans_0 _ (List.mem_of_getElem? (i := 13) rfl)
theorem tX12_leans_23 : (23, a_iload 5 25) ∈ kX12_leans := qX12_leans_0 _ (List.mem_of_getElem? (i := 14) rfl)
theorem tX12_leans_25 : (25, a_i 15 27) ∈ kX12_leans := qX12_leans_0 _ (List.mem_of_getElem? (i := 15) rfl)
theorem tX12_leans_27 : (27, a_ic_ge 61 30) ∈ kX12_leans := qX12_leans_0 _ (List.mem_of_getElem? (i := 16) rfl)
theorem tX12_leans_30 : (30, a_iload 3 31) ∈ kX12_leans := qX12_leans_0 _ (List.mem_of_getElem? (i := 17) rfl)
theorem tX12_leans_31 : (31, a_iload 4 33) ∈ kX12_leans := qX12_leans_0 _ (List.mem_of_getElem? (i := 18) rfl)
theorem tX12_leans_33 : (33, a_iload 5 35) ∈ kX12_leans := qX12_leans_0 _ (List.mem_of_getElem? (i := 19) rfl)
theorem tX12_leans_35 : (35, a_ii (fun x y => x >>> (y &&& 31)) 36) ∈ kX12_leans := qX12_leans_0 _ (List.mem_of_getElem? (i := 20) rfl)
theorem tX12_leans_36 : (36, a_i 1 37) ∈ kX12_leans := qX12_leans_0 _ (List.mem_of_getElem? (i := 21) rfl)
theorem tX12_leans_37 : (37, a_ii (fun x y => x &&& y) 38) ∈ kX12_leans := qX12_leans_0 _ (List.mem_of_getElem? (i := 22) rfl)
theorem tX12_leans_38 : (38, a_i 1 39) ∈ kX12_leans := qX12_leans_0 _ (List.mem_of_getElem? (i := 23) rfl)
theorem qX12_leans_1 : ∀ q ∈ kX12_leans_1, q ∈ kX12_leans := fun _ h => (List.mem_append_right _ h)
theorem tX12_leans_39 : (39, a_ic_ne 52 42) ∈ kX12_leans := qX12_leans_1 _ (List.mem_of_getElem? (i := 0) rfl)
theorem tX12_leans_42 : (42, a_aload 0 43) ∈ kX12_leans := qX12_leans_1 _ (List.mem_of_getElem? (i := 1) rfl)
theorem tX12_leans_43 : (43, a_iload 1 44) ∈ kX12_leans := qX12_leans_1 _ (List.mem_of_getElem? (i := 2) rfl)
theorem tX12_leans_44 : (44, a_iload 5 46) ∈ kX12_leans := qX12_leans_1 _ (List.mem_of_getElem? (i := 3) rfl)
theorem tX12_leans_46 : (46, a_callV 12 143 3 49 0 0) ∈ kX12_leans := qX12_leans_1 _ (List.mem_of_getElem? (i := 4) rfl)
theorem tX12_leans_49 : (49, a_goto 53) ∈ kX12_leans := qX12_leans_1 _ (List.mem_of_getElem? (i := 5) rfl)
theorem tX12_leans_52 : (52, a_i 0 53) ∈ kX12_leans := qX12_leans_1 _ (List.mem_of_getElem? (i := 6) rfl)
theorem tX12_leans_53 : (53, a_ii (fun x y => x ||| y) 54) ∈ kX12_leans := qX12_leans_1 _ (List.mem_of_getElem? (i := 7) rfl)
theorem tX12_leans_54 : (54, a_istore 3 55) ∈ kX12_leans := qX12_leans_1 _ (List.mem_of_getElem? (i := 8) rfl)
theorem tX12_leans_55 : (55, a_iinc 5 1 58) ∈ kX12_leans := qX12_leans_1 _ (List.mem_of_getElem? (i := 9) rfl)
theorem tX12_leans_58 : (58, a_goto 23) ∈ kX12_leans := qX12_leans_1 _ (List.mem_of_getElem? (i := 10) rfl)
theorem tX12_leans_61 : (61, a_goto 10) ∈ kX12_leans := qX12_leans_1 _ (List.mem_of_getElem? (i := 11) rfl)
theorem tX12_leans_64 : (64, a_iload 3 65) ∈ kX12_leans := qX12_leans_1 _ (List.mem_of_getElem? (i := 12) rfl)
theorem tX12_leans_65 : (65, a_iret false) ∈ kX12_leans := qX12_leans_1 _ (List.mem_of_getElem? (i := 13) rfl)
theorem oX12_leans : ∀ q ∈ kX12_leans, zSnd zty false RX12 cX12_leans 6 (some .int) false q := List.forall_mem_append.mpr ⟨oX12_leans_0, oX12_leans_1⟩
theorem dX12_ringOf_0 : decode cX12_ringOf 0 = .ok (.bipush 6, 2) := by decide +kernel
theorem dX12_ringOf_2 : decode cX12_ringOf 2 = .ok (.istore_n 2, 1) := by decide +kernel
theorem dX12_ringOf_3 : decode cX12_ringOf 3 = .ok (.iload_n 2, 1) := by decide +kernel
theorem dX12_ringOf_4 : decode cX12_ringOf 4 = .ok (.bipush 15, 2) := by decide +kernel
theorem dX12_ringOf_6 : decode cX12_ringOf 6 = .ok (.if_icmp .ge 25, 3) := by decide +kernel
theorem dX12_ringOf_9 : decode cX12_ringOf 9 = .ok (.aload_n 0, 1) := by decide +kernel
theorem dX12_ringOf_10 : decode cX12_ringOf 10 = .ok (.iload_n 1, 1) := by decide +kernel
theorem dX12_ringOf_11 : decode cX12_ringOf 11 = .ok (.iload_n 2, 1) := by decide +kernel
theorem dX12_ringOf_12 : decode cX12_ringOf 12 = .ok (.invokevirtual 126, 3) := by decide +kernel
theorem dX12_ringOf_15 : decode cX12_ringOf 15 = .ok (.iload_n 2, 1) := by decide +kernel
theorem dX12_ringOf_16 : decode cX12_ringOf 16 = .ok (.ishr, 1) := by decide +kernel
theorem dX12_ringOf_17 : decode cX12_ringOf 17 = .ok (.iconst 1, 1) := by decide +kernel
theorem dX12_ringOf_18 : decode cX12_ringOf 18 = .ok (.iand, 1) := by decide +kernel
theorem dX12_ringOf_19 : decode cX12_ringOf 19 = .ok (.iconst 1, 1) := by decide +kernel
theorem dX12_ringOf_20 : decode cX12_ringOf 20 = .ok (.if_icmp .ne 5, 3) := by decide +kernel
theorem dX12_ringOf_23 : decode cX12_ringOf 23 = .ok (.iload_n 2, 1) := by decide +kernel
theorem dX12_ringOf_24 : decode cX12_ringOf 24 = .ok (.ireturn, 1) := by decide +kernel
theorem dX12_ringOf_25 : decode cX12_ringOf 25 = .ok (.iinc 2 1, 3) := by decide +kernel
theorem dX12_ringOf_28 : decode cX12_ringOf 28 = .ok (.goto (-25), 3) := by decide +kernel
theorem dX12_ringOf_31 : decode cX12_ringOf 31 = .ok (.bipush (-4), 2) := by decide +kernel
theorem dX12_ringOf_33 : decode cX12_ringOf 33 = .ok (.ireturn, 1) := by decide +kernel
def kX12_ringOf_0 : List (Nat × zT) := [(0, a_i 6 2), (2, a_istore 2 3), (3, a_iload 2 4), (4, a_i 15 6), (6, a_ic_ge 31 9), (9, a_aload 0 10), (10, a_iload 1 11), (11, a_iload 2 12), (12, a_callV 12 144 3 15 0 0), (15, a_iload 2 16), (16, a_ii (fun x y => x >>> (y &&& 31)) 17), (17, a_i 1 18), (18, a_ii (fun x y => x &&& y) 19), (19, a_i 1 20), (20, a_ic_ne 25 23), (23, a_iload 2 24), (24, a_iret false), (25, a_iinc 2 1 28), (28, a_goto 3), (31, a_i (-4) 33), (33, a_iret false)]
theorem oX12_ringOf_0 : ∀ q ∈ kX12_ringOf_0, zSnd zty false RX12 cX12_ringOf 3 (some .int) false q := List.forall_mem_cons.mpr ⟨ok_bipush dX12_ringOf_0 (by decide), List.forall_mem_cons.mpr ⟨ok_istore_n dX12_ringOf_2 rfl (by decide), List.forall_mem_cons.mpr ⟨ok_iload_n dX12_ringOf_3 rfl, List.forall_mem_cons.mpr ⟨ok_bipush dX12_ringOf_4 (by decide), List.forall_mem_cons.mpr ⟨ok_ic_ge dX12_ringOf_6 (by decide), List.forall_mem_cons.mpr ⟨ok_aload_n dX12_ringOf_9 rfl, List.forall_mem_cons.mpr ⟨ok_iload_n dX12_ringOf_10 rfl, List.forall_mem_cons.mpr ⟨ok_iload_n dX12_ringOf_11 rfl, List.forall_mem_cons.mpr ⟨ok_callV dX12_ringOf_12 rfl rfl w1112 w1109 w1111 w13 s24 (by decide +kernel) (by decide), List.forall_mem_cons.mpr ⟨ok_iload_n dX12_ringOf_15 rfl, List.forall_mem_cons.mpr ⟨ok_ishr dX12_ringOf_16, List.forall_mem_cons.mpr ⟨ok_iconst dX12_ringOf_17 (by decide), List.forall_mem_cons.mpr ⟨ok_iand dX12_ringOf_18, List.forall_mem_cons.mpr ⟨ok_iconst dX12_ringOf_19 (by decide), List.forall_mem_cons.mpr ⟨ok_ic_ne dX12_ringOf_20 (by decide), List.forall_mem_cons.mpr ⟨ok_iload_n dX12_ringOf_23 rfl, List.forall_mem_cons.mpr ⟨ok_iret (bz := false) dX12_ringOf_24 rfl, List.forall_mem_cons.mpr ⟨ok_iinc dX12_ringOf_25 (by decide) (by decide), List.forall_mem_cons.mpr ⟨ok_goto dX12_ringOf_28 (by decide), List.forall_mem_cons.mpr ⟨ok_bipush dX12_ringOf_31 (by decide), List.forall_mem_cons.mpr ⟨ok_iret (bz := false) dX12_ringOf_33 rfl, fun _ h => absurd h List.not_mem_nil⟩⟩⟩⟩⟩⟩⟩⟩⟩⟩⟩⟩⟩⟩⟩⟩⟩⟩⟩⟩⟩
def kX12_ringOf : List (Nat × zT) := kX12_ringOf_0
theorem qX12_ringOf_0 : ∀ q ∈ kX12_ringOf_0, q ∈ kX12_ringOf := fun _ h => h
theorem tX12_ringOf_0 : (0, a_i 6 2) ∈ kX12_ringOf := qX12_ringOf_0 _ (List.mem_of_getElem? (i := 0) rfl)
theorem tX12_ringOf_2 : (2, a_istore 2 3) ∈ kX12_ringOf := qX12_ringOf_0 _ (List.mem_of_getElem? (i := 1) rfl)
theorem tX12_ringOf_3 : (3, a_iload 2 4) ∈ kX12_ringOf := qX12_ringOf_0 _ (List.mem_of_getElem? (i := 2) rfl)
theorem tX12_ringOf_4 : (4, a_i 15 6) ∈ kX12_ringOf := qX12_ringOf_0 _ (List.mem_of_getElem? (i := 3) rfl)
theorem tX12_ringOf_6 : (6, a_ic_ge 31 9) ∈ kX12_ringOf := qX12_ringOf_0 _ (List.mem_of_getElem? (i := 4) rfl)
theorem tX12_ringOf_9 : (9, a_aload 0 10) ∈ kX12_ringOf := qX12_ringOf_0 _ (List.mem_of_getElem? (i := 5) rfl)
theorem tX12_ringOf_10 : (10, a_iload 1 11) ∈ kX12_ringOf := qX12_ringOf_0 _ (List.mem_of_getElem? (i := 6) rfl)
theorem tX12_ringOf_11 : (11, a_iload 2 12) ∈ kX12_ringOf := qX12_ringOf_0 _ (List.mem_of_getElem? (i := 7) rfl)
theorem tX12_ringOf_12 : (12, a_callV 12 144 3 15 0 0) ∈ kX12_ringOf := qX12_ringOf_0 _ (List.mem_of_getElem? (i := 8) rfl)
theorem tX12_ringOf_15 : (15, a_iload 2 16) ∈ kX12_ringOf := qX12_ringOf_0 _ (List.mem_of_getElem? (i := 9) rfl)
theorem tX12_ringOf_16 : (16, a_ii (fun x y => x >>> (y &&& 31)) 17) ∈ kX12_ringOf := qX12_ringOf_0 _ (List.mem_of_getElem? (i := 10) rfl)
theorem tX12_ringOf_17 : (17, a_i 1 18) ∈ kX12_ringOf := qX12_ringOf_0 _ (List.mem_of_getElem? (i := 11) rfl)
theorem tX12_ringOf_18 : (18, a_ii (fun x y => x &&& y) 19) ∈ kX12_ringOf := qX12_ringOf_0 _ (List.mem_of_getElem? (i := 12) rfl)
theorem tX12_ringOf_19 : (19, a_i 1 20) ∈ kX12_ringOf := qX12_ringOf_0 _ (List.mem_of_getElem? (i := 13) rfl)
theorem tX12_ringOf_20 : (20, a_ic_ne 25 23) ∈ kX12_ringOf := qX12_ringOf_0 _ (List.mem_of_getElem? (i := 14) rfl)
theorem tX12_ringOf_23 : (23, a_iload 2 24) ∈ kX12_ringOf := qX12_ringOf_0 _ (List.mem_of_getElem? (i := 15) rfl)
theorem tX12_ringOf_24 : (24, a_iret false) ∈ kX12_ringOf := qX12_ringOf_0 _ (List.mem_of_getElem? (i := 16) rfl)
theorem tX12_ringOf_25 : (25, a_iinc 2 1 28) ∈ kX12_ringOf := qX12_ringOf_0 _ (List.mem_of_getElem? (i := 17) rfl)
theorem tX12_ringOf_28 : (28, a_goto 3) ∈ kX12_ringOf := qX12_ringOf_0 _ (List.mem_of_getElem? (i := 18) rfl)
theorem tX12_ringOf_31 : (31, a_i (-4) 33) ∈ kX12_ringOf := qX12_ringOf_0 _ (List.mem_of_getElem? (i := 19) rfl)
theorem tX12_ringOf_33 : (33, a_iret false) ∈ kX12_ringOf := qX12_ringOf_0 _ (List.mem_of_getElem? (i := 20) rfl)
theorem oX12_ringOf : ∀ q ∈ kX12_ringOf, zSnd zty false RX12 cX12_ringOf 3 (some .int) false q := oX12_ringOf_0
theorem dX12_lackOf_0 : decode cX12_lackOf 0 = .ok (.iconst 0, 1) := by decide +kernel
theorem dX12_lackOf_1 : decode cX12_lackOf 1 = .ok (.istore_n 2, 1) := by decide +kernel
theorem dX12_lackOf_2 : decode cX12_lackOf 2 = .ok (.bipush 6, 2) := by decide +kernel
theorem dX12_lackOf_4 : decode cX12_lackOf 4 = .ok (.istore_n 3, 1) := by decide +kernel
theorem dX12_lackOf_5 : decode cX12_lackOf 5 = .ok (.iload_n 3, 1) := by decide +kernel
theorem dX12_lackOf_6 : decode cX12_lackOf 6 = .ok (.bipush 19, 2) := by decide +kernel
theorem dX12_lackOf_8 : decode cX12_lackOf 8 = .ok (.if_icmp .ge 18, 3) := by decide +kernel
theorem dX12_lackOf_11 : decode cX12_lackOf 11 = .ok (.iload_n 2, 1) := by decide +kernel
theorem dX12_lackOf_12 : decode cX12_lackOf 12 = .ok (.aload_n 0, 1) := by decide +kernel
theorem dX12_lackOf_13 : decode cX12_lackOf 13 = .ok (.iload_n 1, 1) := by decide +kernel
theorem dX12_lackOf_14 : decode cX12_lackOf 14 = .ok (.iload_n 3, 1) := by decide +kernel
theorem dX12_lackOf_15 : decode cX12_lackOf 15 = .ok (.invokevirtual 122, 3) := by decide +kernel
theorem dX12_lackOf_18 : decode cX12_lackOf 18 = .ok (.ior, 1) := by decide +kernel
theorem dX12_lackOf_19 : decode cX12_lackOf 19 = .ok (.istore_n 2, 1) := by decide +kernel
theorem dX12_lackOf_20 : decode cX12_lackOf 20 = .ok (.iinc 3 1, 3) := by decide +kernel
theorem dX12_lackOf_23 : decode cX12_lackOf 23 = .ok (.goto (-18), 3) := by decide +kernel
theorem dX12_lackOf_26 : decode cX12_lackOf 26 = .ok (.bipush 6, 2) := by decide +kernel
theorem dX12_lackOf_28 : decode cX12_lackOf 28 = .ok (.istore_n 3, 1) := by decide +kernel
theorem dX12_lackOf_29 : decode cX12_lackOf 29 = .ok (.iload_n 3, 1) := by decide +kernel
theorem dX12_lackOf_30 : decode cX12_lackOf 30 = .ok (.bipush 15, 2) := by decide +kernel
theorem dX12_lackOf_32 : decode cX12_lackOf 32 = .ok (.if_icmp .ge 36, 3) := by decide +kernel
theorem dX12_lackOf_35 : decode cX12_lackOf 35 = .ok (.iload_n 2, 1) := by decide +kernel
theorem dX12_lackOf_36 : decode cX12_lackOf 36 = .ok (.iload_n 3, 1) := by decide +kernel
theorem dX12_lackOf_37 : decode cX12_lackOf 37 = .ok (.ishr, 1) := by decide +kernel
theorem dX12_lackOf_38 : decode cX12_lackOf 38 = .ok (.iconst 1, 1) := by decide +kernel
theorem dX12_lackOf_39 : decode cX12_lackOf 39 = .ok (.iand, 1) := by decide +kernel
theorem dX12_lackOf_40 : decode cX12_lackOf 40 = .ok (.iconst 1, 1) := by decide +kernel
theorem dX12_lackOf_41 : decode cX12_lackOf 41 = .ok (.if_icmp .ne 21, 3) := by decide +kernel
theorem dX12_lackOf_44 : decode cX12_lackOf 44 = .ok (.aload_n 0, 1) := by decide +kernel
theorem dX12_lackOf_45 : decode cX12_lackOf 45 = .ok (.getfield 22, 3) := by decide +kernel
theorem dX12_lackOf_48 : decode cX12_lackOf 48 = .ok (.bipush 19, 2) := by decide +kernel
theorem dX12_lackOf_50 : decode cX12_lackOf 50 = .ok (.iload_n 1, 1) := by decide +kernel
theorem dX12_lackOf_51 : decode cX12_lackOf 51 = .ok (.imul, 1) := by decide +kernel
theorem dX12_lackOf_52 : decode cX12_lackOf 52 = .ok (.iload_n 3, 1) := by decide +kernel
theorem dX12_lackOf_53 : decode cX12_lackOf 53 = .ok (.iadd, 1) := by decide +kernel
theorem dX12_lackOf_54 : decode cX12_lackOf 54 = .ok (.iaload, 1) := by decide +kernel
theorem dX12_lackOf_55 : decode cX12_lackOf 55 = .ok (.bipush (-4), 2) := by decide +kernel
theorem dX12_lackOf_57 : decode cX12_lackOf 57 = .ok (.if_icmp .ne 5, 3) := by decide +kernel
theorem dX12_lackOf_60 : decode cX12_lackOf 60 = .ok (.iload_n 3, 1) := by decide +kernel
theorem dX12_lackOf_61 : decode cX12_lackOf 61 = .ok (.ireturn, 1) := by decide +kernel
theorem dX12_lackOf_62 : decode cX12_lackOf 62 = .ok (.iinc 3 1, 3) := by decide +kernel
theorem dX12_lackOf_65 : decode cX12_lackOf 65 = .ok (.goto (-36), 3) := by decide +kernel
theorem dX12_lackOf_68 : decode cX12_lackOf 68 = .ok (.bipush (-4), 2) := by decide +kernel
theorem dX12_lackOf_70 : decode cX12_lackOf 70 = .ok (.ireturn, 1) := by decide +kernel
def kX12_lackOf_0 : List (Nat × zT) := [(0, a_i 0 1), (1, a_istore 2 2), (2, a_i 6 4), (4, a_istore 3 5), (5, a_iload 3 6), (6, a_i 19 8), (8, a_ic_ge 26 11), (11, a_iload 2 12), (12, a_aload 0 13), (13, a_iload 1 14), (14, a_iload 3 15), (15, a_callV 12 143 3 18 0 0), (18, a_ii (fun x y => x ||| y) 19), (19, a_istore 2 20), (20, a_iinc 3 1 23), (23, a_goto 5), (26, a_i 6 28), (28, a_istore 3 29), (29, a_iload 3 30), (30, a_i 15 32), (32, a_ic_ge 68 35), (35, a_iload 2 36), (36, a_iload 3 37), (37, a_ii (fun x y => x >>> (y &&& 31)) 38)]
theorem oX12_lackOf_0 : ∀ q ∈ kX12_lackOf_0, zSnd zty false RX12 cX12_lackOf 4 (some .int) false q := List.forall_mem_cons.mpr ⟨ok_iconst dX12_lackOf_0 (by decide), List.forall_mem_cons.mpr ⟨ok_istore_n dX12_lackOf_1 rfl (by decide), List.forall_mem_cons.mpr ⟨ok_bipush dX12_lackOf_2 (by decide), List.forall_mem_cons.mpr ⟨ok_istore_n dX12_lackOf_4 rfl (by decide), List.forall_mem_cons.mpr ⟨ok_iload_n dX12_lackOf_5 rfl, List.forall_mem_cons.mpr ⟨ok_bipush dX12_lackOf_6 (by decide), List.forall_mem_cons.mpr ⟨ok_ic_ge dX12_lackOf_8 (by decide), List.forall_mem_cons.mpr ⟨ok_iload_n dX12_lackOf_11 rfl, List.forall_mem_cons.mpr ⟨ok_aload_n dX12_lackOf_12 rfl, List.forall_mem_cons.mpr ⟨ok_iload_n dX12_lackOf_13 rfl, List.forall_mem_cons.mpr ⟨ok_iload_n dX12_lackOf_14 rfl, List.forall_mem_cons.mpr ⟨ok_callV dX12_lackOf_15 rfl rfl w1116 w1113 w1115 w13 s25 (by decide +kernel) (by decide), List.forall_mem_cons.mpr ⟨ok_ior dX12_lackOf_18, List.forall_mem_cons.mpr ⟨ok_istore_n dX12_lackOf_19 rfl (by decide), List.forall_mem_cons.mpr ⟨ok_iinc dX12_lackOf_20 (by decide) (by decide), List.forall_mem_cons.mpr ⟨ok_goto dX12_lackOf_23 (by decide), List.forall_mem_cons.mpr ⟨ok_bipush dX12_lackOf_26 (by decide), List.forall_mem_cons.mpr ⟨ok_istore_n dX12_lackOf_28 rfl (by decide), List.forall_mem_cons.mpr ⟨ok_iload_n dX12_lackOf_29 rfl, List.forall_mem_cons.mpr ⟨ok_bipush dX12_lackOf_30 (by decide), List.forall_mem_cons.mpr ⟨ok_ic_ge dX12_lackOf_32 (by decide), List.forall_mem_cons.mpr ⟨ok_iload_n dX12_lackOf_35 rfl, List.forall_mem_cons.mpr ⟨ok_iload_n dX12_lackOf_36 rfl, List.forall_mem_cons.mpr ⟨ok_ishr dX12_lackOf_37, fun _ h => absurd h List.not_mem_nil⟩⟩⟩⟩⟩⟩⟩⟩⟩⟩⟩⟩⟩⟩⟩⟩⟩⟩⟩⟩⟩⟩⟩⟩
def kX12_lackOf_1 : List (Nat × zT) := [(38, a_i 1 39), (39, a_ii (fun x y => x &&& y) 40), (40, a_i 1 41), (41, a_ic_ne 62 44), (44, a_aload 0 45), (45, a_getR 12 4 48), (48, a_i 19 50), (50, a_iload 1 51), (51, a_ii (fun x y => x * y) 52), (52, a_iload 3 53), (53, a_ii (fun x y => x + y) 54), (54, a_iald 55), (55, a_i (-4) 57), (57, a_ic_ne 62 60), (60, a_iload 3 61), (61, a_iret false), (62, a_iinc 3 1 65), (65, a_goto 29), (68, a_i (-4) 70), (70, a_iret false)]
theorem oX12_lackOf_1 : ∀ q ∈ kX12_lackOf_1, zSnd zty false RX12 cX12_lackOf 4 (some .int) false q := List.forall_mem_cons.mpr ⟨ok_iconst dX12_lackOf_38 (by decide), List.forall_mem_cons.mpr ⟨ok_iand dX12_lackOf_39, List.forall_mem_cons.mpr ⟨ok_iconst dX12_lackOf_40 (by decide), List.forall_mem_cons.mpr ⟨ok_ic_ne dX12_lackOf_41 (by decide), List.forall_mem_cons.mpr ⟨ok_aload_n dX12_lackOf_44 rfl, List.forall_mem_cons.mpr ⟨ok_getR dX12_lackOf_45 rfl in12 (by decide) rfl w961, List.forall_mem_cons.mpr ⟨ok_bipush dX12_lackOf_48 (by decide), List.forall_mem_cons.mpr ⟨ok_iload_n dX12_lackOf_50 rfl, List.forall_mem_cons.mpr ⟨ok_imul dX12_lackOf_51, List.forall_mem_cons.mpr ⟨ok_iload_n dX12_lackOf_52 rfl, List.forall_mem_cons.mpr ⟨ok_iadd dX12_lackOf_53, List.forall_mem_cons.mpr ⟨ok_iald dX12_lackOf_54, List.forall_mem_cons.mpr ⟨ok_bipush dX12_lackOf_55 (by decide), List.forall_mem_cons.mpr ⟨ok_ic_ne dX12_lackOf_57 (by decide), List.forall_mem_cons.mpr ⟨ok_iload_n dX12_lackOf_60 rfl, List.forall_mem_cons.mpr ⟨ok_iret (bz := false) dX12_lackOf_61 rfl, List.forall_mem_cons.mpr ⟨ok_iinc dX12_lackOf_62 (by decide) (by decide), List.forall_mem_cons.mpr ⟨ok_goto dX12_lackOf_65 (by decide), List.forall_mem_cons.mpr ⟨ok_bipush dX12_lackOf_68 (by decide), List.forall_mem_cons.mpr ⟨ok_iret (bz := false) dX12_lackOf_70 rfl, fun _ h => absurd h List.not_mem_nil⟩⟩⟩⟩⟩⟩⟩⟩⟩⟩⟩⟩⟩⟩⟩⟩⟩⟩⟩⟩
def kX12_lackOf : List (Nat × zT) := kX12_lackOf_0 ++ (kX12_lackOf_1)
theorem qX12_lackOf_0 : ∀ q ∈ kX12_lackOf_0, q ∈ kX12_lackOf := fun _ h => (List.mem_append_left _ h)
theorem tX12_lackOf_0 : (0, a_i 0 1) ∈ kX12_lackOf := qX12_lackOf_0 _ (List.mem_of_getElem? (i := 0) rfl)
theorem tX12_lackOf_1 : (1, a_istore 2 2) ∈ kX12_lackOf := qX12_lackOf_0 _ (List.mem_of_getElem? (i := 1) rfl)
theorem tX12_lackOf_2 : (2, a_i 6 4) ∈ kX12_lackOf := qX12_lackOf_0 _ (List.mem_of_getElem? (i := 2) rfl)
theorem tX12_lackOf_4 : (4, a_istore 3 5) ∈ kX12_lackOf := qX12_lackOf_0 _ (List.mem_of_getElem? (i := 3) rfl)
theorem tX12_lackOf_5 : (5, a_iload 3 6) ∈ kX12_lackOf := qX12_lackOf_0 _ (List.mem_of_getElem? (i := 4) rfl)
theorem tX12_lackOf_6 : (6, a_i 19 8) ∈ kX12_lackOf := qX12_lackOf_0 _ (List.mem_of_getElem? (i := 5) rfl)
theorem tX12_lackOf_8 : (8, a_ic_ge 26 11) ∈ kX12_lackOf := qX12_lackOf_0 _ (List.mem_of_getElem? (i := 6) rfl)
theorem tX12_lackOf_11 : (11, a_iload 2 12) ∈ kX12_lackOf := qX12_lackOf_0 _ (List.mem_of_getElem? (i := 7) rfl)
theorem tX12_lackOf_12 : (12, a_aload 0 13) ∈ kX12_lackOf := qX12_lackOf_0 _ (List.mem_of_getElem? (i := 8) rfl)
theorem tX12_lackOf_13 : (13, a_iload 1 14) ∈ kX12_lackOf := qX12_lackOf_0 _ (List.mem_of_getElem? (i := 9) rfl)
theorem tX12_lackOf_14 : (14, a_iload 3 15) ∈ kX12_lackOf := qX12_lackOf_0 _ (List.mem_of_getElem? (i := 10) rfl)
theorem tX12_lackOf_15 : (15, a_callV 12 143 3 18 0 0) ∈ kX12_lackOf := qX12_lackOf_0 _ (List.mem_of_getElem? (i := 11) rfl)
theorem tX12_lackOf_18 : (18, a_ii (fun x y => x ||| y) 19) ∈ kX12_lackOf := qX12_lackOf_0 _ (List.mem_of_getElem? (i := 12) rfl)
theorem tX12_lackOf_19 : (19, a_istore 2 20) ∈ kX12_lackOf := qX12_lackOf_0 _ (List.mem_of_getElem? (i := 13) rfl)
theorem tX12_lackOf_20 : (20, a_iinc 3 1 23) ∈ kX12_lackOf := qX12_lackOf_0 _ (List.mem_of_getElem? (i := 14) rfl)
theorem tX12_lackOf_23 : (23, a_goto 5) ∈ kX12_lackOf := qX12_lackOf_0 _ (List.mem_of_getElem? (i := 15) rfl)
theorem tX12_lackOf_26 : (26, a_i 6 28) ∈ kX12_lackOf := qX12_lackOf_0 _ (List.mem_of_getElem? (i := 16) rfl)
theorem tX12_lackOf_28 : (28, a_istore 3 29) ∈ kX12_lackOf := qX12_lackOf_0 _ (List.mem_of_getElem? (i := 17) rfl)
theorem tX12_lackOf_29 : (29, a_iload 3 30) ∈ kX12_lackOf := qX12_lackOf_0 _ (List.mem_of_getElem? (i := 18) rfl)
theorem tX12_lackOf_30 : (30, a_i 15 32) ∈ kX12_lackOf := qX12_lackOf_0 _ (List.mem_of_getElem? (i := 19) rfl)
theorem tX12_lackOf_32 : (32, a_ic_ge 68 35) ∈ kX12_lackOf := qX12_lackOf_0 _ (List.mem_of_getElem? (i := 20) rfl)
theorem tX12_lackOf_35 : (35, a_iload 2 36) ∈ kX12_lackOf := qX12_lackOf_0 _ (List.mem_of_getElem? (i := 21) rfl)
theorem tX12_lackOf_36 : (36, a_iload 3 37) ∈ kX12_lackOf := qX12_lackOf_0 _ (List.mem_of_getElem? (i := 22) rfl)
theorem tX12_lackOf_37 : (37, a_ii (fun x y => x >>> (y &&& 31)) 38) ∈ kX12_lackOf := qX12_lackOf_0 _ (List.mem_of_getElem? (i := 23) rfl)
theorem qX12_lackOf_1 : ∀ q ∈ kX12_lackOf_1, q ∈ kX12_lackOf := fun _ h => (List.mem_append_right _ h)
theorem tX12_lackOf_38 : (38, a_i 1 39) ∈ kX12_lackOf := qX12_lackOf_1 _ (List.mem_of_getElem? (i := 0) rfl)
theorem tX12_lackOf_39 : (39, a_ii (fun x y => x &&& y) 40) ∈ kX12_lackOf := qX12_lackOf_1 _ (List.mem_of_getElem? (i := 1) rfl)
theorem tX12_lackOf_40 : (40, a_i 1 41) ∈ kX12_lackOf := qX12_lackOf_1 _ (List.mem_of_getElem? (i := 2) rfl)
theorem tX12_lackOf_41 : (41, a_ic_ne 62 44) ∈ kX12_lackOf := qX12_lackOf_1 _ (List.mem_of_getElem? (i := 3) rfl)
theorem tX12_lackOf_44 : (44, a_aload 0 45) ∈ kX12_lackOf := qX12_lackOf_1 _ (List.mem_of_getElem? (i := 4) rfl)
theorem tX12_lackOf_45 : (45, a_getR 12 4 48) ∈ kX12_lackOf := qX12_lackOf_1 _ (List.mem_of_getElem? (i := 5) rfl)
theorem tX12_lackOf_48 : (48, a_i 19 50) ∈ kX12_lackOf := qX12_lackOf_1 _ (List.mem_of_getElem? (i := 6) rfl)
theorem tX12_lackOf_50 : (50, a_iload 1 51) ∈ kX12_lackOf := qX12_lackOf_1 _ (List.mem_of_getElem? (i := 7) rfl)
theorem tX12_lackOf_51 : (51, a_ii (fun x y => x * y) 52) ∈ kX12_lackOf := qX12_lackOf_1 _ (List.mem_of_getElem? (i := 8) rfl)
theorem tX12_lackOf_52 : (52, a_iload 3 53) ∈ kX12_lackOf := qX12_lackOf_1 _ (List.mem_of_getElem? (i := 9) rfl)
theorem tX12_lackOf_53 : (53, a_ii (fun x y => x + y) 54) ∈ kX12_lackOf := qX12_lackOf_1 _ (List.mem_of_getElem? (i := 10) rfl)
theorem tX12_lackOf_54 : (54, a_iald 55) ∈ kX12_lackOf := qX12_lackOf_1 _ (List.mem_of_getElem? (i := 11) rfl)
theorem tX12_lackOf_55 : (55, a_i (-4) 57) ∈ kX12_lackOf := qX12_lackOf_1 _ (List.mem_of_getElem? (i := 12) rfl)
theorem tX12_lackOf_57 : (57, a_ic_ne 62 60) ∈ kX12_lackOf := qX12_lackOf_1 _ (List.mem_of_getElem? (i := 13) rfl)
theorem tX12_lackOf_60 : (60, a_iload 3 61) ∈ kX12_lackOf := qX12_lackOf_1 _ (List.mem_of_getElem? (i := 14) rfl)
theorem tX12_lackOf_61 : (61, a_iret false) ∈ kX12_lackOf := qX12_lackOf_1 _ (List.mem_of_getElem? (i := 15) rfl)
theorem tX12_lackOf_62 : (62, a_iinc 3 1 65) ∈ kX12_lackOf := qX12_lackOf_1 _ (List.mem_of_getElem? (i := 16) rfl)
theorem tX12_lackOf_65 : (65, a_goto 29) ∈ kX12_lackOf := qX12_lackOf_1 _ (List.mem_of_getElem? (i := 17) rfl)
theorem tX12_lackOf_68 : (68, a_i (-4) 70) ∈ kX12_lackOf := qX12_lackOf_1 _ (List.mem_of_getElem? (i := 18) rfl)
theorem tX12_lackOf_70 : (70, a_iret false) ∈ kX12_lackOf := qX12_lackOf_1 _ (List.mem_of_getElem? (i := 19) rfl)
theorem oX12_lackOf : ∀ q ∈ kX12_lackOf, zSnd zty false RX12 cX12_lackOf 4 (some .int) false q := List.forall_mem_append.mpr ⟨oX12_lackOf_0, oX12_lackOf_1⟩
theorem dX12_fault_0 : decode cX12_fault 0 = .ok (.iload_n 1, 1) := by decide +kernel
theorem dX12_fault_1 : decode cX12_fault 1 = .ok (.iconst 0, 1) := by decide +kernel
theorem dX12_fault_2 : decode cX12_fault 2 = .ok (.iconst 1, 1) := by decide +kernel
theorem dX12_fault_3 : decode cX12_fault 3 = .ok (.invokestatic 112, 3) := by decide +kernel
theorem dX12_fault_6 : decode cX12_fault 6 = .ok (.ifCond .eq 11, 3) := by decide +kernel
theorem dX12_fault_9 : decode cX12_fault 9 = .ok (.aload_n 0, 1) := by decide +kernel
theorem dX12_fault_10 : decode cX12_fault 10 = .ok (.iload_n 1, 1) := by decide +kernel
theorem dX12_fault_11 : decode cX12_fault 11 = .ok (.invokevirtual 129, 3) := by decide +kernel
theorem dX12_fault_14 : decode cX12_fault 14 = .ok (.goto 4, 3) := by decide +kernel
theorem dX12_fault_17 : decode cX12_fault 17 = .ok (.iconst (-1), 1) := by decide +kernel
theorem dX12_fault_18 : decode cX12_fault 18 = .ok (.ireturn, 1) := by decide +kernel
def kX12_fault_0 : List (Nat × zT) := [(0, a_iload 1 1), (1, a_i 0 2), (2, a_i 1 3), (3, a_call 138 3 6 0 0), (6, a_if_eq 17 9), (9, a_aload 0 10), (10, a_iload 1 11), (11, a_callV 12 142 2 14 0 0), (14, a_goto 18), (17, a_i (-1) 18), (18, a_iret false)]
theorem oX12_fault_0 : ∀ q ∈ kX12_fault_0, zSnd zty false RX12 cX12_fault 2 (some .int) false q := List.forall_mem_cons.mpr ⟨ok_iload_n dX12_fault_0 rfl, List.forall_mem_cons.mpr ⟨ok_iconst dX12_fault_1 (by decide), List.forall_mem_cons.mpr ⟨ok_iconst dX12_fault_2 (by decide), List.forall_mem_cons.mpr ⟨ok_callS dX12_fault_3 rfl w1084 w1082 w1083 w13 (by decide +kernel) (by decide), List.forall_mem_cons.mpr ⟨ok_if_eq dX12_fault_6 (by decide), List.forall_mem_cons.mpr ⟨ok_aload_n dX12_fault_9 rfl, List.forall_mem_cons.mpr ⟨ok_iload_n dX12_fault_10 rfl, List.forall_mem_cons.mpr ⟨ok_callV dX12_fault_11 rfl rfl w1097 w1094 w1096 w13 s22 (by decide +kernel) (by decide), List.forall_mem_cons.mpr ⟨ok_goto dX12_fault_14 (by decide), List.forall_mem_cons.mpr ⟨ok_iconst dX12_fault_17 (by decide), List.forall_mem_cons.mpr ⟨ok_iret (bz := false) dX12_fault_18 rfl, fun _ h => absurd h List.not_mem_nil⟩⟩⟩⟩⟩⟩⟩⟩⟩⟩⟩
def kX12_fault : List (Nat × zT) := kX12_fault_0
theorem qX12_fault_0 : ∀ q ∈ kX12_fault_0, q ∈ kX12_fault := fun _ h => h
theorem tX12_fault_0 : (0, a_iload 1 1) ∈ kX12_fault := qX12_fault_0 _ (List.mem_of_getElem? (i := 0) rfl)
theorem tX12_fault_1 : (1, a_i 0 2) ∈ kX12_fault := qX12_fault_0 _ (List.mem_of_getElem? (i := 1) rfl)
theorem tX12_fault_2 : (2, a_i 1 3) ∈ kX12_fault := qX12_fault_0 _ (List.mem_of_getElem? (i := 2) rfl)
theorem tX12_fault_3 : (3, a_call 138 3 6 0 0) ∈ kX12_fault := qX12_fault_0 _ (List.mem_of_getElem? (i := 3) rfl)
theorem tX12_fault_6 : (6, a_if_eq 17 9) ∈ kX12_fault := qX12_fault_0 _ (List.mem_of_getElem? (i := 4) rfl)
theorem tX12_fault_9 : (9, a_aload 0 10) ∈ kX12_fault := qX12_fault_0 _ (List.mem_of_getElem? (i := 5) rfl)
theorem tX12_fault_10 : (10, a_iload 1 11) ∈ kX12_fault := qX12_fault_0 _ (List.mem_of_getElem? (i := 6) rfl)
theorem tX12_fault_11 : (11, a_callV 12 142 2 14 0 0) ∈ kX12_fault := qX12_fault_0 _ (List.mem_of_getElem? (i := 7) rfl)
theorem tX12_fault_14 : (14, a_goto 18) ∈ kX12_fault := qX12_fault_0 _ (List.mem_of_getElem? (i := 8) rfl)
theorem tX12_fault_17 : (17, a_i (-1) 18) ∈ kX12_fault := qX12_fault_0 _ (List.mem_of_getElem? (i := 9) rfl)
theorem tX12_fault_18 : (18, a_iret false) ∈ kX12_fault := qX12_fault_0 _ (List.mem_of_getElem? (i := 10) rfl)
theorem oX12_fault : ∀ q ∈ kX12_fault, zSnd zty false RX12 cX12_fault 2 (some .int) false q := oX12_fault_0
theorem dX12_ring_0 : decode cX12_ring 0 = .ok (.iload_n 1, 1) := by decide +kernel
theorem dX12_ring_1 : decode cX12_ring 1 = .ok (.iconst 0, 1) := by decide +kernel
theorem dX12_ring_2 : decode cX12_ring 2 = .ok (.iconst 1, 1) := by decide +kernel
theorem dX12_ring_3 : decode cX12_ring 3 = .ok (.invokestatic 112, 3) := by decide +kernel
theorem dX12_ring_6 : decode cX12_ring 6 = .ok (.ifCond .eq 12, 3) := by decide +kernel
theorem dX12_ring_9 : decode cX12_ring 9 = .ok (.iload_n 2, 1) := by decide +kernel
theorem dX12_ring_10 : decode cX12_ring 10 = .ok (.iconst 0, 1) := by decide +kernel
theorem dX12_ring_11 : decode cX12_ring 11 = .ok (.iconst 1, 1) := by decide +kernel
theorem dX12_ring_12 : decode cX12_ring 12 = .ok (.invokestatic 112, 3) := by decide +kernel
theorem dX12_ring_15 : decode cX12_ring 15 = .ok (.ifCond .ne 5, 3) := by decide +kernel
theorem dX12_ring_18 : decode cX12_ring 18 = .ok (.iconst (-1), 1) := by decide +kernel
theorem dX12_ring_19 : decode cX12_ring 19 = .ok (.ireturn, 1) := by decide +kernel
theorem dX12_ring_20 : decode cX12_ring 20 = .ok (.aload_n 0, 1) := by decide +kernel
theorem dX12_ring_21 : decode cX12_ring 21 = .ok (.iload_n 1, 1) := by decide +kernel
theorem dX12_ring_22 : decode cX12_ring 22 = .ok (.invokevirtual 129, 3) := by decide +kernel
theorem dX12_ring_25 : decode cX12_ring 25 = .ok (.bipush (-4), 2) := by decide +kernel
theorem dX12_ring_27 : decode cX12_ring 27 = .ok (.if_icmp .eq 6, 3) := by decide +kernel
theorem dX12_ring_30 : decode cX12_ring 30 = .ok (.bipush (-2), 2) := by decide +kernel
theorem dX12_ring_32 : decode cX12_ring 32 = .ok (.ireturn, 1) := by decide +kernel
theorem dX12_ring_33 : decode cX12_ring 33 = .ok (.iload_n 2, 1) := by decide +kernel
theorem dX12_ring_34 : decode cX12_ring 34 = .ok (.ifCond .ne 11, 3) := by decide +kernel
theorem dX12_ring_37 : decode cX12_ring 37 = .ok (.aload_n 0, 1) := by decide +kernel
theorem dX12_ring_38 : decode cX12_ring 38 = .ok (.iconst 2, 1) := by decide +kernel
theorem dX12_ring_39 : decode cX12_ring 39 = .ok (.invokevirtual 132, 3) := by decide +kernel
theorem dX12_ring_42 : decode cX12_ring 42 = .ok (.goto 8, 3) := by decide +kernel
theorem dX12_ring_45 : decode cX12_ring 45 = .ok (.aload_n 0, 1) := by decide +kernel
theorem dX12_ring_46 : decode cX12_ring 46 = .ok (.iconst 2, 1) := by decide +kernel
theorem dX12_ring_47 : decode cX12_ring 47 = .ok (.invokevirtual 135, 3) := by decide +kernel
theorem dX12_ring_50 : decode cX12_ring 50 = .ok (.ireturn, 1) := by decide +kernel
def kX12_ring_0 : List (Nat × zT) := [(0, a_iload 1 1), (1, a_i 0 2), (2, a_i 1 3), (3, a_call 138 3 6 0 0), (6, a_if_eq 18 9), (9, a_iload 2 10), (10, a_i 0 11), (11, a_i 1 12), (12, a_call 138 3 15 0 0), (15, a_if_ne 20 18), (18, a_i (-1) 19), (19, a_iret false), (20, a_aload 0 21), (21, a_iload 1 22), (22, a_callV 12 142 2 25 0 0), (25, a_i (-4) 27), (27, a_ic_eq 33 30), (30, a_i (-2) 32), (32, a_iret false), (33, a_iload 2 34), (34, a_if_ne 45 37), (37, a_aload 0 38), (38, a_i 2 39), (39, a_callV 12 145 2 42 0 0)]
theorem oX12_ring_0 : ∀ q ∈ kX12_ring_0, zSnd zty false RX12 cX12_ring 3 (some .int) false q := List.forall_mem_cons.mpr ⟨ok_iload_n dX12_ring_0 rfl, List.forall_mem_cons.mpr ⟨ok_iconst dX12_ring_1 (by decide), List.forall_mem_cons.mpr ⟨ok_iconst dX12_ring_2 (by decide), List.forall_mem_cons.mpr ⟨ok_callS dX12_ring_3 rfl w1084 w1082 w1083 w13 (by decide +kernel) (by decide), List.forall_mem_cons.mpr ⟨ok_if_eq dX12_ring_6 (by decide), List.forall_mem_cons.mpr ⟨ok_iload_n dX12_ring_9 rfl, List.forall_mem_cons.mpr ⟨ok_iconst dX12_ring_10 (by decide), List.forall_mem_cons.mpr ⟨ok_iconst dX12_ring_11 (by decide), List.forall_mem_cons.mpr ⟨ok_callS dX12_ring_12 rfl w1084 w1082 w1083 w13 (by decide +kernel) (by decide), List.forall_mem_cons.mpr ⟨ok_if_ne dX12_ring_15 (by decide), List.forall_mem_cons.mpr ⟨ok_iconst dX12_ring_18 (by decide), List.forall_mem_cons.mpr ⟨ok_iret (bz := false) dX12_ring_19 rfl, List.forall_mem_cons.mpr ⟨ok_aload_n dX12_ring_20 rfl, List.forall_mem_cons.mpr ⟨ok_iload_n dX12_ring_21 rfl, List.forall_mem_cons.mpr ⟨ok_callV dX12_ring_22 rfl rfl w1097 w1094 w1096 w13 s22 (by decide +kernel) (by decide), List.forall_mem_cons.mpr ⟨ok_bipush dX12_ring_25 (by decide), List.forall_mem_cons.mpr ⟨ok_ic_eq dX12_ring_27 (by decide), List.forall_mem_cons.mpr ⟨ok_bipush dX12_ring_30 (by decide), List.forall_mem_cons.mpr ⟨ok_iret (bz := false) dX12_ring_32 rfl, List.forall_mem_cons.mpr ⟨ok_iload_n dX12_ring_33 rfl, List.forall_mem_cons.mpr ⟨ok_if_ne dX12_ring_34 (by decide), List.forall_mem_cons.mpr ⟨ok_aload_n dX12_ring_37 rfl, List.forall_mem_cons.mpr ⟨ok_iconst dX12_ring_38 (by decide), List.forall_mem_cons.mpr ⟨ok_callV dX12_ring_39 rfl rfl w1108 w1105 w1107 w13 s23 (by decide +kernel) (by decide), fun _ h => absurd h List.not_mem_nil⟩⟩⟩⟩⟩⟩⟩⟩⟩⟩⟩⟩⟩⟩⟩⟩⟩⟩⟩⟩⟩⟩⟩⟩
def kX12_ring_1 : List (Nat × zT) := [(42, a_goto 50), (45, a_aload 0 46), (46, a_i 2 47), (47, a_callV 12 146 2 50 0 0), (50, a_iret false)]
theorem oX12_ring_1 : ∀ q ∈ kX12_ring_1, zSnd zty false RX12 cX12_ring 3 (some .int) false q := List.forall_mem_cons.mpr ⟨ok_goto dX12_ring_42 (by decide), List.forall_mem_cons.mpr ⟨ok_aload_n dX12_ring_45 rfl, List.forall_mem_cons.mpr ⟨ok_iconst dX12_ring_46 (by decide), List.forall_mem_cons.mpr ⟨ok_callV dX12_ring_47 rfl rfl w1120 w1117 w1119 w13 s26 (by decide +kernel) (by decide), List.forall_mem_cons.mpr ⟨ok_iret (bz := false) dX12_ring_50 rfl, fun _ h => absurd h List.not_mem_nil⟩⟩⟩⟩⟩
def kX12_ring : List (Nat × zT) := kX12_ring_0 ++ (kX12_ring_1)
theorem qX12_ring_0 : ∀ q ∈ kX12_ring_0, q ∈ kX12_ring := fun _ h => (List.mem_append_left _ h)
theorem tX12_ring_0 : (0, a_iload 1 1) ∈ kX12_ring := qX12_ring_0 _ (List.mem_of_getElem? (i := 0) rfl)
theorem tX12_ring_1 : (1, a_i 0 2) ∈ kX12_ring := qX12_ring_0 _ (List.mem_of_getElem? (i := 1) rfl)
theorem tX12_ring_2 : (2, a_i 1 3) ∈ kX12_ring := qX12_ring_0 _ (List.mem_of_getElem? (i := 2) rfl)
theorem tX12_ring_3 : (3, a_call 138 3 6 0 0) ∈ kX12_ring := qX12_ring_0 _ (List.mem_of_getElem? (i := 3) rfl)
theorem tX12_ring_6 : (6, a_if_eq 18 9) ∈ kX12_ring := qX12_ring_0 _ (List.mem_of_getElem? (i := 4) rfl)
theorem tX12_ring_9 : (9, a_iload 2 10) ∈ kX12_ring := qX12_ring_0 _ (List.mem_of_getElem? (i := 5) rfl)
theorem tX12_ring_10 : (10, a_i 0 11) ∈ kX12_ring := qX12_ring_0 _ (List.mem_of_getElem? (i := 6) rfl)
theorem tX12_ring_11 : (11, a_i 1 12) ∈ kX12_ring := qX12_ring_0 _ (List.mem_of_getElem? (i := 7) rfl)
theorem tX12_ring_12 : (12, a_call 138 3 15 0 0) ∈ kX12_ring := qX12_ring_0 _ (List.mem_of_getElem? (i := 8) rfl)
theorem tX12_ring_15 : (15, a_if_ne 20 18) ∈ kX12_ring := qX12_ring_0 _ (List.mem_of_getElem? (i := 9) rfl)
theorem tX12_ring_18 : (18, a_i (-1) 19) ∈ kX12_ring := qX12_ring_0 _ (List.mem_of_getElem? (i := 10) rfl)
theorem tX12_ring_19 : (19, a_iret false) ∈ kX12_ring := qX12_ring_0 _ (List.mem_of_getElem? (i := 11) rfl)
theorem tX12_ring_20 : (20, a_aload 0 21) ∈ kX12_ring := qX12_ring_0 _ (List.mem_of_getElem? (i := 12) rfl)
theorem tX12_ring_21 : (21, a_iload 1 22) ∈ kX12_ring := qX12_ring_0 _ (List.mem_of_getElem? (i := 13) rfl)
theorem tX12_ring_22 : (22, a_callV 12 142 2 25 0 0) ∈ kX12_ring := qX12_ring_0 _ (List.mem_of_getElem? (i := 14) rfl)
theorem tX12_ring_25 : (25, a_i (-4) 27) ∈ kX12_ring := qX12_ring_0 _ (List.mem_of_getElem? (i := 15) rfl)
theorem tX12_ring_27 : (27, a_ic_eq 33 30) ∈ kX12_ring := qX12_ring_0 _ (List.mem_of_getElem? (i := 16) rfl)
theorem tX12_ring_30 : (30, a_i (-2) 32) ∈ kX12_ring := qX12_ring_0 _ (List.mem_of_getElem? (i := 17) rfl)
theorem tX12_ring_32 : (32, a_iret false) ∈ kX12_ring := qX12_ring_0 _ (List.mem_of_getElem? (i := 18) rfl)
theorem tX12_ring_33 : (33, a_iload 2 34) ∈ kX12_ring := qX12_ring_0 _ (List.mem_of_getElem? (i := 19) rfl)
theorem tX12_ring_34 : (34, a_if_ne 45 37) ∈ kX12_ring := qX12_ring_0 _ (List.mem_of_getElem? (i := 20) rfl)
theorem tX12_ring_37 : (37, a_aload 0 38) ∈ kX12_ring := qX12_ring_0 _ (List.mem_of_getElem? (i := 21) rfl)
theorem tX12_ring_38 : (38, a_i 2 39) ∈ kX12_ring := qX12_ring_0 _ (List.mem_of_getElem? (i := 22) rfl)
theorem tX12_ring_39 : (39, a_callV 12 145 2 42 0 0) ∈ kX12_ring := qX12_ring_0 _ (List.mem_of_getElem? (i := 23) rfl)
theorem qX12_ring_1 : ∀ q ∈ kX12_ring_1, q ∈ kX12_ring := fun _ h => (List.mem_append_right _ h)
theorem tX12_ring_42 : (42, a_goto 50) ∈ kX12_ring := qX12_ring_1 _ (List.mem_of_getElem? (i := 0) rfl)
theorem tX12_ring_45 : (45, a_aload 0 46) ∈ kX12_ring := qX12_ring_1 _ (List.mem_of_getElem? (i := 1) rfl)
theorem tX12_ring_46 : (46, a_i 2 47) ∈ kX12_ring := qX12_ring_1 _ (List.mem_of_getElem? (i := 2) rfl)
theorem tX12_ring_47 : (47, a_callV 12 146 2 50 0 0) ∈ kX12_ring := qX12_ring_1 _ (List.mem_of_getElem? (i := 3) rfl)
theorem tX12_ring_50 : (50, a_iret false) ∈ kX12_ring := qX12_ring_1 _ (List.mem_of_getElem? (i := 4) rfl)
theorem oX12_ring : ∀ q ∈ kX12_ring, zSnd zty false RX12 cX12_ring 3 (some .int) false q := List.forall_mem_append.mpr ⟨oX12_ring_0, oX12_ring_1⟩
theorem dX12_layOrder_0 : decode cX12_layOrder 0 = .ok (.iconst 0, 1) := by decide +kernel
theorem dX12_layOrder_1 : decode cX12_layOrder 1 = .ok (.istore_n 2, 1) := by decide +kernel
theorem dX12_layOrder_2 : decode cX12_layOrder 2 = .ok (.aload_n 0, 1) := by decide +kernel
theorem dX12_layOrder_3 : decode cX12_layOrder 3 = .ok (.getfield 31, 3) := by decide +kernel
theorem dX12_layOrder_6 : decode cX12_layOrder 6 = .ok (.iload_n 1, 1) := by decide +kernel
theorem dX12_layOrder_7 : decode cX12_layOrder 7 = .ok (.iconst 0, 1) := by decide +kernel
theorem dX12_layOrder_8 : decode cX12_layOrder 8 = .ok (.iastore, 1) := by decide +kernel
theorem dX12_layOrder_9 : decode cX12_layOrder 9 = .ok (.iconst 1, 1) := by decide +kernel
theorem dX12_layOrder_10 : decode cX12_layOrder 10 = .ok (.istore_n 3, 1) := by decide +kernel
theorem dX12_layOrder_11 : decode cX12_layOrder 11 = .ok (.iload_n 3, 1) := by decide +kernel
theorem dX12_layOrder_12 : decode cX12_layOrder 12 = .ok (.ifCond .eq 118, 3) := by decide +kernel
theorem dX12_layOrder_15 : decode cX12_layOrder 15 = .ok (.iconst 0, 1) := by decide +kernel
theorem dX12_layOrder_16 : decode cX12_layOrder 16 = .ok (.istore_n 3, 1) := by decide +kernel
theorem dX12_layOrder_17 : decode cX12_layOrder 17 = .ok (.bipush 6, 2) := by decide +kernel
theorem dX12_layOrder_19 : decode cX12_layOrder 19 = .ok (.istore 4, 2) := by decide +kernel
theorem dX12_layOrder_21 : decode cX12_layOrder 21 = .ok (.iload 4, 2) := by decide +kernel
theorem dX12_layOrder_23 : decode cX12_layOrder 23 = .ok (.bipush 15, 2) := by decide +kernel
theorem dX12_layOrder_25 : decode cX12_layOrder 25 = .ok (.if_icmp .ge 102, 3) := by decide +kernel
theorem dX12_layOrder_28 : decode cX12_layOrder 28 = .ok (.aload_n 0, 1) := by decide +kernel
theorem dX12_layOrder_29 : decode cX12_layOrder 29 = .ok (.getfield 22, 3) := by decide +kernel
theorem dX12_layOrder_32 : decode cX12_layOrder 32 = .ok (.bipush 19, 2) := by decide +kernel
theorem dX12_layOrder_34 : decode cX12_layOrder 34 = .ok (.iload_n 1, 1) := by decide +kernel
theorem dX12_layOrder_35 : decode cX12_layOrder 35 = .ok (.imul, 1) := by decide +kernel
theorem dX12_layOrder_36 : decode cX12_layOrder 36 = .ok (.iload 4, 2) := by decide +kernel
theorem dX12_layOrder_38 : decode cX12_layOrder 38 = .ok (.iadd, 1) := by decide +kernel
theorem dX12_layOrder_39 : decode cX12_layOrder 39 = .ok (.iaload, 1) := by decide +kernel
theorem dX12_layOrder_40 : decode cX12_layOrder 40 = .ok (.bipush (-4), 2) := by decide +kernel
theorem dX12_layOrder_42 : decode cX12_layOrder 42 = .ok (.if_icmp .eq 34, 3) := by decide +kernel
theorem dX12_layOrder_45 : decode cX12_layOrder 45 = .ok (.iload_n 2, 1) := by decide +kernel
theorem dX12_layOrder_46 : decode cX12_layOrder 46 = .ok (.iload 4, 2) := by decide +kernel
theorem dX12_layOrder_48 : decode cX12_layOrder 48 = .ok (.ishr, 1) := by decide +kernel
theorem dX12_layOrder_49 : decode cX12_layOrder 49 = .ok (.iconst 1, 1) := by decide +kernel
theorem dX12_layOrder_50 : decode cX12_layOrder 50 = .ok (.iand, 1) := by decide +kernel
theorem dX12_layOrder_51 : decode cX12_layOrder 51 = .ok (.ifCond .ne 25, 3) := by decide +kernel
theorem dX12_layOrder_54 : decode cX12_layOrder 54 = .ok (.aload_n 0, 1) := by decide +kernel
theorem dX12_layOrder_55 : decode cX12_layOrder 55 = .ok (.iload_n 1, 1) := by decide +kernel
theorem dX12_layOrder_56 : decode cX12_layOrder 56 = .ok (.iload 4, 2) := by decide +kernel
theorem dX12_layOrder_58 : decode cX12_layOrder 58 = .ok (.invokevirtual 122, 3) := by decide +kernel
theorem dX12_layOrder_61 : decode cX12_layOrder 61 = .ok (.sipush 32704, 3) := by decide +kernel
theorem dX12_layOrder_64 : decode cX12_layOrder 64 = .ok (.iand, 1) := by decide +kernel
theorem dX12_layOrder_65 : decode cX12_layOrder 65 = .ok (.iload_n 2, 1) := by decide +kernel
theorem dX12_layOrder_66 : decode cX12_layOrder 66 = .ok (.iconst (-1), 1) := by decide +kernel
theorem dX12_layOrder_67 : decode cX12_layOrder 67 = .ok (.ixor, 1) := by decide +kernel
theorem dX12_layOrder_68 : decode cX12_layOrder 68 = .ok (.iand, 1) := by decide +kernel
theorem dX12_layOrder_69 : decode cX12_layOrder 69 = .ok (.ifCond .ne 7, 3) := by decide +kernel
theorem dX12_layOrder_72 : decode cX12_layOrder 72 = .ok (.iconst 1, 1) := by decide +kernel
theorem dX12_layOrder_73 : decode cX12_layOrder 73 = .ok (.goto 4, 3) := by decide +kernel
theorem dX12_layOrder_76 : decode cX12_layOrder 76 = .ok (.iconst 0, 1) := by decide +kernel
theorem dX12_layOrder_77 : decode cX12_layOrder 77 = .ok (.istore 5, 2) := by decide +kernel
theorem dX12_layOrder_79 : decode cX12_layOrder 79 = .ok (.iload 5, 2) := by decide +kernel
theorem dX12_layOrder_81 : decode cX12_layOrder 81 = .ok (.ifCond .eq 40, 3) := by decide +kernel
theorem dX12_layOrder_84 : decode cX12_layOrder 84 = .ok (.aload_n 0, 1) := by decide +kernel
theorem dX12_layOrder_85 : decode cX12_layOrder 85 = .ok (.getfield 28, 3) := by decide +kernel
theorem dX12_layOrder_88 : decode cX12_layOrder 88 = .ok (.bipush 9, 2) := by decide +kernel
theorem dX12_layOrder_90 : decode cX12_layOrder 90 = .ok (.iload_n 1, 1) := by decide +kernel
theorem dX12_layOrder_91 : decode cX12_layOrder 91 = .ok (.imul, 1) := by decide +kernel
theorem dX12_layOrder_92 : decode cX12_layOrder 92 = .ok (.aload_n 0, 1) := by decide +kernel
theorem dX12_layOrder_93 : decode cX12_layOrder 93 = .ok (.getfield 31, 3) := by decide +kernel
theorem dX12_layOrder_96 : decode cX12_layOrder 96 = .ok (.iload_n 1, 1) := by decide +kernel
theorem dX12_layOrder_97 : decode cX12_layOrder 97 = .ok (.iaload, 1) := by decide +kernel
theorem dX12_layOrder_98 : decode cX12_layOrder 98 = .ok (.iadd, 1) := by decide +kernel
theorem dX12_layOrder_99 : decode cX12_layOrder 99 = .ok (.iload 4, 2) := by decide +kernel
theorem dX12_layOrder_101 : decode cX12_layOrder 101 = .ok (.iastore, 1) := by decide +kernel
theorem dX12_layOrder_102 : decode cX12_layOrder 102 = .ok (.aload_n 0, 1) := by decide +kernel
theorem dX12_layOrder_103 : decode cX12_layOrder 103 = .ok (.getfield 31, 3) := by decide +kernel
theorem dX12_layOrder_106 : decode cX12_layOrder 106 = .ok (.iload_n 1, 1) := by decide +kernel
theorem dX12_layOrder_107 : decode cX12_layOrder 107 = .ok (.dup2, 1) := by decide +kernel
theorem dX12_layOrder_108 : decode cX12_layOrder 108 = .ok (.iaload, 1) := by decide +kernel
theorem dX12_layOrder_109 : decode cX12_layOrder 109 = .ok (.iconst 1, 1) := by decide +kernel
theorem dX12_layOrder_110 : decode cX12_layOrder 110 = .ok (.iadd, 1) := by decide +kernel
theorem dX12_layOrder_111 : decode cX12_layOrder 111 = .ok (.iastore, 1) := by decide +kernel
theorem dX12_layOrder_112 : decode cX12_layOrder 112 = .ok (.iload_n 2, 1) := by decide +kernel
theorem dX12_layOrder_113 : decode cX12_layOrder 113 = .ok (.iconst 1, 1) := by decide +kernel
theorem dX12_layOrder_114 : decode cX12_layOrder 114 = .ok (.iload 4, 2) := by decide +kernel
theorem dX12_layOrder_116 : decode cX12_layOrder 116 = .ok (.ishl, 1) := by decide +kernel
theorem dX12_layOrder_117 : decode cX12_layOrder 117 = .ok (.ior, 1) := by decide +kernel
theorem dX12_layOrder_118 : decode cX12_layOrder 118 = .ok (.istore_n 2, 1) := by decide +kernel
theorem dX12_layOrder_119 : decode cX12_layOrder 119 = .ok (.iconst 1, 1) := by decide +kernel
theorem dX12_layOrder_120 : decode cX12_layOrder 120 = .ok (.istore_n 3, 1) := by decide +kernel
theorem dX12_layOrder_121 : decode cX12_layOrder 121 = .ok (.iinc 4 1, 3) := by decide +kernel
theorem dX12_layOrder_124 : decode cX12_layOrder 124 = .ok (.goto (-103), 3) := by decide +kernel
theorem dX12_layOrder_127 : decode cX12_layOrder 127 = .ok (.goto (-116), 3) := by decide +kernel
theorem dX12_layOrder_130 : decode cX12_layOrder 130 = .ok (.return_, 1) := by decide +kernel
def kX12_layOrder_0 : List (Nat × zT) := [(0, a_i 0 1), (1, a_istore 2 2), (2, a_aload 0 3), (3, a_getR 12 7 6), (6, a_iload 1 7), (7, a_i 0 8), (8, a_iast 9), (9, a_i 1 10), (10, a_istore 3 11), (11, a_iload 3 12), (12, a_if_eq 130 15), (15, a_i 0 16), (16, a_istore 3 17), (17, a_i 6 19), (19, a_istore 4 21), (21, a_iload 4 23), (23, a_i 15 25), (25, a_ic_ge 127 28), (28, a_aload 0 29), (29, a_getR 12 4 32), (32, a_i 19 34), (34, a_iload 1 35), (35, a_ii (fun x y => x * y) 36), (36, a_iload 4 38)]
theorem oX12_layOrder_0 : ∀ q ∈ kX12_layOrder_0, zSnd zty false RX12 cX12_layOrder 6 none false q := List.forall_mem_cons.mpr ⟨ok_iconst dX12_layOrder_0 (by decide), List.forall_mem_cons.mpr ⟨ok_istore_n dX12_layOrder_1 rfl (by decide), List.forall_mem_cons.mpr ⟨ok_aload_n dX12_layOrder_2 rfl, List.forall_mem_cons.mpr ⟨ok_getR dX12_layOrder_3 rfl in12 (by decide) rfl w964, List.forall_mem_cons.mpr ⟨ok_iload_n dX12_layOrder_6 rfl, List.forall_mem_cons.mpr ⟨ok_iconst dX12_layOrder_7 (by decide), List.forall_mem_cons.mpr ⟨ok_iast dX12_layOrder_8, List.forall_mem_cons.mpr ⟨ok_iconst dX12_layOrder_9 (by decide), List.forall_mem_cons.mpr ⟨ok_istore_n dX12_layOrder_10 rfl (by decide), List.forall_mem_cons.mpr ⟨ok_iload_n dX12_layOrder_11 rfl, List.forall_mem_cons.mpr ⟨ok_if_eq dX12_layOrder_12 (by decide), List.forall_mem_cons.mpr ⟨ok_iconst dX12_layOrder_15 (by decide), List.forall_mem_cons.mpr ⟨ok_istore_n dX12_layOrder_16 rfl (by decide), List.forall_mem_cons.mpr ⟨ok_bipush dX12_layOrder_17 (by decide), List.forall_mem_cons.mpr ⟨ok_istore dX12_layOrder_19 (by decide), List.forall_mem_cons.mpr ⟨ok_iload dX12_layOrder_21, List.forall_mem_cons.mpr ⟨ok_bipush dX12_layOrder_23 (by decide), List.forall_mem_cons.mpr ⟨ok_ic_ge dX12_layOrder_25 (by decide), List.forall_mem_cons.mpr ⟨ok_aload_n dX12_layOrder_28 rfl, List.forall_mem_cons.mpr ⟨ok_getR dX12_layOrder_29 rfl in12 (by decide) rfl w961, List.forall_mem_cons.mpr ⟨ok_bipush dX12_layOrder_32 (by decide), List.forall_mem_cons.mpr ⟨ok_iload_n dX12_layOrder_34 rfl, List.forall_mem_cons.mpr ⟨ok_imul dX12_layOrder_35, List.forall_mem_cons.mpr ⟨ok_iload dX12_layOrder_36, fun _ h => absurd h List.not_mem_nil⟩⟩⟩⟩⟩⟩⟩⟩⟩⟩⟩⟩⟩⟩⟩⟩⟩⟩⟩⟩⟩⟩⟩⟩
def kX12_layOrder_1 : List (Nat × zT) := [(38, a_ii (fun x y => x + y) 39), (39, a_iald 40), (40, a_i (-4) 42), (42, a_ic_eq 76 45), (45, a_iload 2 46), (46, a_iload 4 48), (48, a_ii (fun x y => x >>> (y &&& 31)) 49), (49, a_i 1 50), (50, a_ii (fun x y => x &&& y) 51), (51, a_if_ne 76 54), (54, a_aload 0 55), (55, a_iload 1 56), (56, a_iload 4 58), (58, a_callV 12 143 3 61 0 0), (61, a_i 32704 64), (64, a_ii (fun x y => x &&& y) 65), (65, a_iload 2 66), (66, a_i (-1) 67), (67, a_ii (fun x y => x ^^^ y) 68), (68, a_ii (fun x y => x &&& y) 69), (69, a_if_ne 76 72), (72, a_i 1 73), (73, a_goto 77), (76, a_i 0 77)]
theorem oX12_layOrder_1 : ∀ q ∈ kX12_layOrder_1, zSnd zty false RX12 cX12_layOrder 6 none false q := List.forall_mem_cons.mpr ⟨ok_iadd dX12_layOrder_38, List.forall_mem_cons.mpr ⟨ok_iald dX12_layOrder_39, List.forall_mem_cons.mpr ⟨ok_bipush dX12_layOrder_40 (by decide), List.forall_mem_cons.mpr ⟨ok_ic_eq dX12_layOrder_42 (by decide), List.forall_mem_cons.mpr ⟨ok_iload_n dX12_layOrder_45 rfl, List.forall_mem_cons.mpr ⟨ok_iload dX12_layOrder_46, List.forall_mem_cons.mpr ⟨ok_ishr dX12_layOrder_48, List.forall_mem_cons.mpr ⟨ok_iconst dX12_layOrder_49 (by decide), List.forall_mem_cons.mpr ⟨ok_iand dX12_layOrder_50, List.forall_mem_cons.mpr ⟨ok_if_ne dX12_layOrder_51 (by decide), List.forall_mem_cons.mpr ⟨ok_aload_n dX12_layOrder_54 rfl, List.forall_mem_cons.mpr ⟨ok_iload_n dX12_layOrder_55 rfl, List.forall_mem_cons.mpr ⟨ok_iload dX12_layOrder_56, List.forall_mem_cons.mpr ⟨ok_callV dX12_layOrder_58 rfl rfl w1116 w1113 w1115 w13 s25 (by decide +kernel) (by decide), List.forall_mem_cons.mpr ⟨ok_sipush dX12_layOrder_61 (by decide), List.forall_mem_cons.mpr ⟨ok_iand dX12_layOrder_64, List.forall_mem_cons.mpr ⟨ok_iload_n dX12_layOrder_65 rfl, List.forall_mem_cons.mpr ⟨ok_iconst dX12_layOrder_66 (by decide), List.forall_mem_cons.mpr ⟨ok_ixor dX12_layOrder_67, List.forall_mem_cons.mpr ⟨ok_iand dX12_layOrder_68, List.forall_mem_cons.mpr ⟨ok_if_ne dX12_layOrder_69 (by decide), List.forall_mem_cons.mpr ⟨ok_iconst dX12_layOrder_72 (by decide), List.forall_mem_cons.mpr ⟨ok_goto dX12_layOrder_73 (by decide), List.forall_mem_cons.mpr ⟨ok_iconst dX12_layOrder_76 (by decide), fun _ h => absurd h List.not_mem_nil⟩⟩⟩⟩⟩⟩⟩⟩⟩⟩⟩⟩⟩⟩⟩⟩⟩⟩⟩⟩⟩⟩⟩⟩
def kX12_layOrder_2 : List (Nat × zT) := [(77, a_istore 5 79), (79, a_iload 5 81), (81, a_if_eq 121 84), (84, a_aload 0 85), (85, a_getR 12 6 88), (88, a_i 9 90), (90, a_iload 1 91), (91, a_ii (fun x y => x * y) 92), (92, a_aload 0 93), (93, a_getR 12 7 96), (96, a_iload 1 97), (97, a_iald 98), (98, a_ii (fun x y => x + y) 99), (99, a_iload 4 101), (101, a_iast 102), (102, a_aload 0 103), (103, a_getR 12 7 106), (106, a_iload 1 107), (107, a_dup2 108), (108, a_iald 109), (109, a_i 1 110), (110, a_ii (fun x y => x + y) 111), (111, a_iast 112), (112, a_iload 2 113)]
theorem oX12_layOrder_2 : ∀ q ∈ kX12_layOrder_2, zSnd zty false RX12 cX12_layOrder 6 none false q := List.forall_mem_cons.mpr ⟨ok_istore dX12_layOrder_77 (by decide), List.forall_mem_cons.mpr ⟨ok_iload dX12_layOrder_79, List.forall_mem_cons.mpr ⟨ok_if_eq dX12_layOrder_81 (by decide), List.forall_mem_cons.mpr ⟨ok_aload_n dX12_layOrder_84 rfl, List.forall_mem_cons.mpr ⟨ok_getR dX12_layOrder_85 rfl in12 (by decide) rfl w963, List.forall_mem_cons.mpr ⟨ok_bipush dX12_layOrder_88 (by decide), List.forall_mem_cons.mpr ⟨ok_iload_n dX12_layOrder_90 rfl, List.forall_mem_cons.mpr ⟨ok_imul dX12_layOrder_91, List.forall_mem_cons.mpr ⟨ok_aload_n dX12_layOrder_92 rfl, List.forall_mem_cons.mpr ⟨ok_getR dX12_layOrder_93 rfl in12 (by decide) rfl w964, List.forall_mem_cons.mpr ⟨ok_iload_n dX12_layOrder_96 rfl, List.forall_mem_cons.mpr ⟨ok_iald dX12_layOrder_97, List.forall_mem_cons.mpr ⟨ok_iadd dX12_layOrder_98, List.forall_mem_cons.mpr ⟨ok_iload dX12_layOrder_99, List.forall_mem_cons.mpr ⟨ok_iast dX12_layOrder_101, List.forall_mem_cons.mpr ⟨ok_aload_n dX12_layOrder_102 rfl, List.forall_mem_cons.mpr ⟨ok_getR dX12_layOrder_103 rfl in12 (by decide) rfl w964, List.forall_mem_cons.mpr ⟨ok_iload_n dX12_layOrder_106 rfl, List.forall_mem_cons.mpr ⟨ok_dup2 dX12_layOrder_107, List.forall_mem_cons.mpr ⟨ok_iald dX12_layOrder_108, List.forall_mem_cons.mpr ⟨ok_iconst dX12_layOrder_109 (by decide), List.forall_mem_cons.mpr ⟨ok_iadd dX12_layOrder_110, List.forall_mem_cons.mpr ⟨ok_iast dX12_layOrder_111, List.forall_mem_cons.mpr ⟨ok_iload_n dX12_layOrder_112 rfl, fun _ h => absurd h List.not_mem_nil⟩⟩⟩⟩⟩⟩⟩⟩⟩⟩⟩⟩⟩⟩⟩⟩⟩⟩⟩⟩⟩⟩⟩⟩
def kX12_layOrder_3 : List (Nat × zT) := [(113, a_i 1 114), (114, a_iload 4 116), (116, a_ii (fun x y => x <<< (y &&& 31)) 117), (117, a_ii (fun x y => x ||| y) 118), (118, a_istore 2 119), (119, a_i 1 120), (120, a_istore 3 121), (121, a_iinc 4 1 124), (124, a_goto 21), (127, a_goto 11), (130, a_vret)]
theorem oX12_layOrder_3 : ∀ q ∈ kX12_layOrder_3, zSnd zty false RX12 cX12_layOrder 6 none false q := List.forall_mem_cons.mpr ⟨ok_iconst dX12_layOrder_113 (by decide), List.forall_mem_cons.mpr ⟨ok_iload dX12_layOrder_114, List.forall_mem_cons.mpr ⟨ok_ishl dX12_layOrder_116, List.forall_mem_cons.mpr ⟨ok_ior dX12_layOrder_117, List.forall_mem_cons.mpr ⟨ok_istore_n dX12_layOrder_118 rfl (by decide), List.forall_mem_cons.mpr ⟨ok_iconst dX12_layOrder_119 (by decide), List.forall_mem_cons.mpr ⟨ok_istore_n dX12_layOrder_120 rfl (by decide), List.forall_mem_cons.mpr ⟨ok_iinc dX12_layOrder_121 (by decide) (by decide), List.forall_mem_cons.mpr ⟨ok_goto dX12_layOrder_124 (by decide), List.forall_mem_cons.mpr ⟨ok_goto dX12_layOrder_127 (by decide), List.forall_mem_cons.mpr ⟨ok_vret dX12_layOrder_130 rfl, fun _ h => absurd h List.not_mem_nil⟩⟩⟩⟩⟩⟩⟩⟩⟩⟩⟩
def kX12_layOrder : List (Nat × zT) := kX12_layOrder_0 ++ (kX12_layOrder_1 ++ (kX12_layOrder_2 ++ (kX12_layOrder_3)))
theorem qX12_layOrder_0 : ∀ q ∈ kX12_layOrder_0, q ∈ kX12_layOrder := fun _ h => (List.mem_append_left _ h)
theorem tX12_layOrder_0 : (0, a_i 0 1) ∈ kX12_layOrder := qX12_layOrder_0 _ (List.mem_of_getElem? (i := 0) rfl)
theorem tX12_layOrder_1 : (1, a_istore 2 2) ∈ kX12_layOrder := qX12_layOrder_0 _ (List.mem_of_getElem? (i := 1) rfl)
theorem tX12_layOrder_2 : (2, a_aload 0 3) ∈ kX12_layOrder := qX12_layOrder_0 _ (List.mem_of_getElem? (i := 2) rfl)
theorem tX12_layOrder_3 : (3, a_getR 12 7 6) ∈ kX12_layOrder := qX12_layOrder_0 _ (List.mem_of_getElem? (i := 3) rfl)
theorem tX12_layOrder_6 : (6, a_iload 1 7) ∈ kX12_layOrder := qX12_layOrder_0 _ (List.mem_of_getElem? (i := 4) rfl)
theorem tX12_layOrder_7 : (7, a_i 0 8) ∈ kX12_layOrder := qX12_layOrder_0 _ (List.mem_of_getElem? (i := 5) rfl)
theorem tX12_layOrder_8 : (8, a_iast 9) ∈ kX12_layOrder := qX12_layOrder_0 _ (List.mem_of_getElem? (i := 6) rfl)
theorem tX12_layOrder_9 : (9, a_i 1 10) ∈ kX12_layOrder := qX12_layOrder_0 _ (List.mem_of_getElem? (i := 7) rfl)
theorem tX12_layOrder_10 : (10, a_istore 3 11) ∈ kX12_layOrder := qX12_layOrder_0 _ (List.mem_of_getElem? (i := 8) rfl)
theorem tX12_layOrder_11 : (11, a_iload 3 12) ∈ kX12_layOrder := qX12_layOrder_0 _ (List.mem_of_getElem? (i := 9) rfl)
theorem tX12_layOrder_12 : (12, a_if_eq 130 15) ∈ kX12_layOrder := qX12_layOrder_0 _ (List.mem_of_getElem? (i := 10) rfl)
theorem tX12_layOrder_15 : (15, a_i 0 16) ∈ kX12_layOrder := qX12_layOrder_0 _ (List.mem_of_getElem? (i := 11) rfl)
theorem tX12_layOrder_16 : (16, a_istore 3 17) ∈ kX12_layOrder := qX12_layOrder_0 _ (List.mem_of_getElem? (i := 12) rfl)
theorem tX12_layOrder_17 : (17, a_i 6 19) ∈ kX12_layOrder := qX12_layOrder_0 _ (List.mem_of_getElem? (i := 13) rfl)
theorem tX12_layOrder_19 : (19, a_istore 4 21) ∈ kX12_layOrder := qX12_layOrder_0 _ (List.mem_of_getElem? (i := 14) rfl)
theorem tX12_layOrder_21 : (21, a_iload 4 23) ∈ kX12_layOrder := qX12_layOrder_0 _ (List.mem_of_getElem? (i := 15) rfl)
theorem tX12_layOrder_23 : (23, a_i 15 25) ∈ kX12_layOrder := qX12_layOrder_0 _ (List.mem_of_getElem? (i := 16) rfl)
theorem tX12_layOrder_25 : (25, a_ic_ge 127 28) ∈ kX12_layOrder := qX12_layOrder_0 _ (List.mem_of_getElem? (i := 17) rfl)
theorem tX12_layOrder_28 : (28, a_aload 0 29) ∈ kX12_layOrder := qX12_layOrder_0 _ (List.mem_of_getElem? (i := 18) rfl)
theorem tX12_layOrder_29 : (29, a_getR 12 4 32) ∈ kX12_layOrder := qX12_layOrder_0 _ (List.mem_of_getElem? (i := 19) rfl)
theorem tX12_layOrder_32 : (32, a_i 19 34) ∈ kX12_layOrder := qX12_layOrder_0 _ (List.mem_of_getElem? (i := 20) rfl)
theorem tX12_layOrder_34 : (34, a_iload 1 35) ∈ kX12_layOrder := qX12_layOrder_0 _ (List.mem_of_getElem? (i := 21) rfl)
theorem tX12_layOrder_35 : (35, a_ii (fun x y => x * y) 36) ∈ kX12_layOrder := qX12_layOrder_0 _ (List.mem_of_getElem? (i := 22) rfl)
theorem tX12_layOrder_36 : (36, a_iload 4 38) ∈ kX12_layOrder := qX12_layOrder_0 _ (List.mem_of_getElem? (i := 23) rfl)
theorem qX12_layOrder_1 : ∀ q ∈ kX12_layOrder_1, q ∈ kX12_layOrder := fun _ h => (List.mem_append_right _ (List.mem_append_left _ h))
theorem tX12_layOrder_38 : (38, a_ii (fun x y => x + y) 39) ∈ kX12_layOrder := qX12_layOrder_1 _ (List.mem_of_getElem? (i := 0) rfl)
theorem tX12_layOrder_39 : (39, a_iald 40) ∈ kX12_layOrder := qX12_layOrder_1 _ (List.mem_of_getElem? (i := 1) rfl)
theorem tX12_layOrder_40 : (40, a_i (-4) 42) ∈ kX12_layOrder := qX12_layOrder_1 _ (List.mem_of_getElem? (i := 2) rfl)
theorem tX12_layOrder_42 : (42, a_ic_eq 76 45) ∈ kX12_layOrder := qX12_layOrder_1 _ (List.mem_of_getElem? (i := 3) rfl)
theorem tX12_layOrder_45 : (45, a_iload 2 46) ∈ kX12_layOrder := qX12_layOrder_1 _ (List.mem_of_getElem? (i := 4) rfl)
theorem tX12_layOrder_46 : (46, a_iload 4 48) ∈ kX12_layOrder := qX12_layOrder_1 _ (List.mem_of_getElem? (i := 5) rfl)
theorem tX12_layOrder_48 : (48, a_ii (fun x y => x >>> (y &&& 31)) 49) ∈ kX12_layOrder := qX12_layOrder_1 _ (List.mem_of_getElem? (i := 6) rfl)
theorem tX12_layOrder_49 : (49, a_i 1 50) ∈ kX12_layOrder := qX12_layOrder_1 _ (List.mem_of_getElem? (i := 7) rfl)
theorem tX12_layOrder_50 : (50, a_ii (fun x y => x &&& y) 51) ∈ kX12_layOrder := qX12_layOrder_1 _ (List.mem_of_getElem? (i := 8) rfl)
theorem tX12_layOrder_51 : (51, a_if_ne 76 54) ∈ kX12_layOrder := qX12_layOrder_1 _ (List.mem_of_getElem? (i := 9) rfl)
theorem tX12_layOrder_54 : (54, a_aload 0 55) ∈ kX12_layOrder := qX12_layOrder_1 _ (List.mem_of_getElem? (i := 10) rfl)
theorem tX12_layOrder_55 : (55, a_iload 1 56) ∈ kX12_layOrder := qX12_layOrder_1 _ (List.mem_of_getElem? (i := 11) rfl)
theorem tX12_layOrder_56 : (56, a_iload 4 58) ∈ kX12_layOrder := qX12_layOrder_1 _ (List.mem_of_getElem? (i := 12) rfl)
theorem tX12_layOrder_58 : (58, a_callV 12 143 3 61 0 0) ∈ kX12_layOrder := qX12_layOrder_1 _ (List.mem_of_getElem? (i := 13) rfl)
theorem tX12_layOrder_61 : (61, a_i 32704 64) ∈ kX12_layOrder := qX12_layOrder_1 _ (List.mem_of_getElem? (i := 14) rfl)
theorem tX12_layOrder_64 : (64, a_ii (fun x y => x &&& y) 65) ∈ kX12_layOrder := qX12_layOrder_1 _ (List.mem_of_getElem? (i := 15) rfl)
theorem tX12_layOrder_65 : (65, a_iload 2 66) ∈ kX12_layOrder := qX12_layOrder_1 _ (List.mem_of_getElem? (i := 16) rfl)
theorem tX12_layOrder_66 : (66, a_i (-1) 67) ∈ kX12_layOrder := qX12_layOrder_1 _ (List.mem_of_getElem? (i := 17) rfl)
theorem tX12_layOrder_67 : (67, a_ii (fun x y => x ^^^ y) 68) ∈ kX12_layOrder := qX12_layOrder_1 _ (List.mem_of_getElem? (i := 18) rfl)
theorem tX12_layOrder_68 : (68, a_ii (fun x y => x &&& y) 69) ∈ kX12_layOrder := qX12_layOrder_1 _ (List.mem_of_getElem? (i := 19) rfl)
theorem tX12_layOrder_69 : (69, a_if_ne 76 72) ∈ kX12_layOrder := qX12_layOrder_1 _ (List.mem_of_getElem? (i := 20) rfl)
theorem tX12_layOrder_72 : (72, a_i 1 73) ∈ kX12_layOrder := qX12_layOrder_1 _ (List.mem_of_getElem? (i := 21) rfl)
theorem tX12_layOrder_73 : (73, a_goto 77) ∈ kX12_layOrder := qX12_layOrder_1 _ (List.mem_of_getElem? (i := 22) rfl)
theorem tX12_layOrder_76 : (76, a_i 0 77) ∈ kX12_layOrder := qX12_layOrder_1 _ (List.mem_of_getElem? (i := 23) rfl)
theorem qX12_layOrder_2 : ∀ q ∈ kX12_layOrder_2, q ∈ kX12_layOrder := fun _ h => (List.mem_append_right _ (List.mem_append_right _ (List.mem_append_left _ h)))
theorem tX12_layOrder_77 : (77, a_istore 5 79) ∈ kX12_layOrder := qX12_layOrder_2 _ (List.mem_of_getElem? (i := 0) rfl)
theorem tX12_layOrder_79 : (79, a_iload 5 81) ∈ kX12_layOrder := qX12_layOrder_2 _ (List.mem_of_getElem? (i := 1) rfl)
theorem tX12_layOrder_81 : (81, a_if_eq 121 84) ∈ kX12_layOrder := qX12_layOrder_2 _ (List.mem_of_getElem? (i := 2) rfl)
theorem tX12_layOrder_84 : (84, a_aload 0 85) ∈ kX12_layOrder := qX12_layOrder_2 _ (List.mem_of_getElem? (i := 3) rfl)
theorem tX12_layOrder_85 : (85, a_getR 12 6 88) ∈ kX12_layOrder := qX12_layOrder_2 _ (List.mem_of_getElem? (i := 4) rfl)
theorem tX12_layOrder_88 : (88, a_i 9 90) ∈ kX12_layOrder := qX12_layOrder_2 _ (List.mem_of_getElem? (i := 5) rfl)
theorem tX12_layOrder_90 : (90, a_iload 1 91) ∈ kX12_layOrder := qX12_layOrder_2 _ (List.mem_of_getElem? (i := 6) rfl)
theorem tX12_layOrder_91 : (91, a_ii (fun x y => x * y) 92) ∈ kX12_layOrder := qX12_layOrder_2 _ (List.mem_of_getElem? (i := 7) rfl)
theorem tX12_layOrder_92 : (92, a_aload 0 93) ∈ kX12_layOrder := qX12_layOrder_2 _ (List.mem_of_getElem? (i := 8) rfl)
theorem tX12_layOrder_93 : (93, a_getR 12 7 96) ∈ kX12_layOrder := qX12_layOrder_2 _ (List.mem_of_getElem? (i := 9) rfl)
theorem tX12_layOrder_96 : (96, a_iload 1 97) ∈ kX12_layOrder := qX12_layOrder_2 _ (List.mem_of_getElem? (i := 10) rfl)
theorem tX12_layOrder_97 : (97, a_iald 98) ∈ kX12_layOrder := qX12_layOrder_2 _ (List.mem_of_getElem? (i := 11) rfl)
theorem tX12_layOrder_98 : (98, a_ii (fun x y => x + y) 99) ∈ kX12_layOrder := qX12_layOrder_2 _ (List.mem_of_getElem? (i := 12) rfl)
theorem tX12_layOrder_99 : (99, a_iload 4 101) ∈ kX12_layOrder := qX12_layOrder_2 _ (List.mem_of_getElem? (i := 13) rfl)
theorem tX12_layOrder_101 : (101, a_iast 102) ∈ kX12_layOrder := qX12_layOrder_2 _ (List.mem_of_getElem? (i := 14) rfl)
theorem tX12_layOrder_102 : (102, a_aload 0 103) ∈ kX12_layOrder := qX12_layOrder_2 _ (List.mem_of_getElem? (i := 15) rfl)
theorem tX12_layOrder_103 : (103, a_getR 12 7 106) ∈ kX12_layOrder := qX12_layOrder_2 _ (List.mem_of_getElem? (i := 16) rfl)
theorem tX12_layOrder_106 : (106, a_iload 1 107) ∈ kX12_layOrder := qX12_layOrder_2 _ (List.mem_of_getElem? (i := 17) rfl)
theorem tX12_layOrder_107 : (107, a_dup2 108) ∈ kX12_layOrder := qX12_layOrder_2 _ (List.mem_of_getElem? (i := 18) rfl)
theorem tX12_layOrder_108 : (108, a_iald 109) ∈ kX12_layOrder := qX12_layOrder_2 _ (List.mem_of_getElem? (i := 19) rfl)
theorem tX12_layOrder_109 : (109, a_i 1 110) ∈ kX12_layOrder := qX12_layOrder_2 _ (List.mem_of_getElem? (i := 20) rfl)
theorem tX12_layOrder_110 : (110, a_ii (fun x y => x + y) 111) ∈ kX12_layOrder := qX12_layOrder_2 _ (List.mem_of_getElem? (i := 21) rfl)
theorem tX12_layOrder_111 : (111, a_iast 112) ∈ kX12_layOrder := qX12_layOrder_2 _ (List.mem_of_getElem? (i := 22) rfl)
theorem tX12_layOrder_112 : (112, a_iload 2 113) ∈ kX12_layOrder := qX12_layOrder_2 _ (List.mem_of_getElem? (i := 23) rfl)
theorem qX12_layOrder_3 : ∀ q ∈ kX12_layOrder_3, q ∈ kX12_layOrder := fun _ h => (List.mem_append_right _ (List.mem_append_right _ (List.mem_append_right _ h)))
theorem tX12_layOrder_113 : (113, a_i 1 114) ∈ kX12_layOrder := qX12_layOrder_3 _ (List.mem_of_getElem? (i := 0) rfl)
theorem tX12_layOrder_114 : (114, a_iload 4 116) ∈ kX12_layOrder := qX12_layOrder_3 _ (List.mem_of_getElem? (i := 1) rfl)
theorem tX12_layOrder_116 : (116, a_ii (fun x y => x <<< (y &&& 31)) 117) ∈ kX12_layOrder := qX12_layOrder_3 _ (List.mem_of_getElem? (i := 2) rfl)
theorem tX12_layOrder_117 : (117, a_ii (fun x y => x ||| y) 118) ∈ kX12_layOrder := qX12_layOrder_3 _ (List.mem_of_getElem? (i := 3) rfl)
theorem tX12_layOrder_118 : (118, a_istore 2 119) ∈ kX12_layOrder := qX12_layOrder_3 _ (List.mem_of_getElem? (i := 4) rfl)
theorem tX12_layOrder_119 : (119, a_i 1 120) ∈ kX12_layOrder := qX12_layOrder_3 _ (List.mem_of_getElem? (i := 5) rfl)
theorem tX12_layOrder_120 : (120, a_istore 3 121) ∈ kX12_layOrder := qX12_layOrder_3 _ (List.mem_of_getElem? (i := 6) rfl)
theorem tX12_layOrder_121 : (121, a_iinc 4 1 124) ∈ kX12_layOrder := qX12_layOrder_3 _ (List.mem_of_getElem? (i := 7) rfl)
theorem tX12_layOrder_124 : (124, a_goto 21) ∈ kX12_layOrder := qX12_layOrder_3 _ (List.mem_of_getElem? (i := 8) rfl)
theorem tX12_layOrder_127 : (127, a_goto 11) ∈ kX12_layOrder := qX12_layOrder_3 _ (List.mem_of_getElem? (i := 9) rfl)
theorem tX12_layOrder_130 : (130, a_vret) ∈ kX12_layOrder := qX12_layOrder_3 _ (List.mem_of_getElem? (i := 10) rfl)
theorem oX12_layOrder : ∀ q ∈ kX12_layOrder, zSnd zty false RX12 cX12_layOrder 6 none false q := List.forall_mem_append.mpr ⟨oX12_layOrder_0, List.forall_mem_append.mpr ⟨oX12_layOrder_1, List.forall_mem_append.mpr ⟨oX12_layOrder_2, oX12_layOrder_3⟩⟩⟩
theorem dX12_copyView_0 : decode cX12_copyView 0 = .ok (.iconst 0, 1) := by decide +kernel
theorem dX12_copyView_1 : decode cX12_copyView 1 = .ok (.istore_n 3, 1) := by decide +kernel
theorem dX12_copyView_2 : decode cX12_copyView 2 = .ok (.iload_n 3, 1) := by decide +kernel
theorem dX12_copyView_3 : decode cX12_copyView 3 = .ok (.sipush 200, 3) := by decide +kernel
theorem dX12_copyView_6 : decode cX12_copyView 6 = .ok (.if_icmp .ge 33, 3) := by decide +kernel
theorem dX12_copyView_9 : decode cX12_copyView 9 = .ok (.aload_n 0, 1) := by decide +kernel
theorem dX12_copyView_10 : decode cX12_copyView 10 = .ok (.getfield 16, 3) := by decide +kernel
theorem dX12_copyView_13 : decode cX12_copyView 13 = .ok (.sipush 200, 3) := by decide +kernel
theorem dX12_copyView_16 : decode cX12_copyView 16 = .ok (.iload_n 2, 1) := by decide +kernel
theorem dX12_copyView_17 : decode cX12_copyView 17 = .ok (.imul, 1) := by decide +kernel
theorem dX12_copyView_18 : decode cX12_copyView 18 = .ok (.iload_n 3, 1) := by decide +kernel
theorem dX12_copyView_19 : decode cX12_copyView 19 = .ok (.iadd, 1) := by decide +kernel
theorem dX12_copyView_20 : decode cX12_copyView 20 = .ok (.aload_n 0, 1) := by decide +kernel
theorem dX12_copyView_21 : decode cX12_copyView 21 = .ok (.getfield 16, 3) := by decide +kernel
theorem dX12_copyView_24 : decode cX12_copyView 24 = .ok (.sipush 200, 3) := by decide +kernel
theorem dX12_copyView_27 : decode cX12_copyView 27 = .ok (.iload_n 1, 1) := by decide +kernel
theorem dX12_copyView_28 : decode cX12_copyView 28 = .ok (.imul, 1) := by decide +kernel
theorem dX12_copyView_29 : decode cX12_copyView 29 = .ok (.iload_n 3, 1) := by decide +kernel
theorem dX12_copyView_30 : decode cX12_copyView 30 = .ok (.iadd, 1) := by decide +kernel
theorem dX12_copyView_31 : decode cX12_copyView 31 = .ok (.iaload, 1) := by decide +kernel
theorem dX12_copyView_32 : decode cX12_copyView 32 = .ok (.iastore, 1) := by decide +kernel
theorem dX12_copyView_33 : decode cX12_copyView 33 = .ok (.iinc 3 1, 3) := by decide +kernel
theorem dX12_copyView_36 : decode cX12_copyView 36 = .ok (.goto (-34), 3) := by decide +kernel
theorem dX12_copyView_39 : decode cX12_copyView 39 = .ok (.iconst 0, 1) := by decide +kernel
theorem dX12_copyView_40 : decode cX12_copyView 40 = .ok (.istore_n 3, 1) := by decide +kernel
theorem dX12_copyView_41 : decode cX12_copyView 41 = .ok (.iload_n 3, 1) := by decide +kernel
theorem dX12_copyView_42 : decode cX12_copyView 42 = .ok (.bipush 19, 2) := by decide +kernel
theorem dX12_copyView_44 : decode cX12_copyView 44 = .ok (.if_icmp .ge 53, 3) := by decide +kernel
theorem dX12_copyView_47 : decode cX12_copyView 47 = .ok (.aload_n 0, 1) := by decide +kernel
theorem dX12_copyView_48 : decode cX12_copyView 48 = .ok (.getfield 19, 3) := by decide +kernel
theorem dX12_copyView_51 : decode cX12_copyView 51 = .ok (.bipush 19, 2) := by decide +kernel
theorem dX12_copyView_53 : decode cX12_copyView 53 = .ok (.iload_n 2, 1) := by decide +kernel
theorem dX12_copyView_54 : decode cX12_copyView 54 = .ok (.imul, 1) := by decide +kernel
theorem dX12_copyView_55 : decode cX12_copyView 55 = .ok (.iload_n 3, 1) := by decide +kernel
theorem dX12_copyView_56 : decode cX12_copyView 56 = .ok (.iadd, 1) := by decide +kernel
theorem dX12_copyView_57 : decode cX12_copyView 57 = .ok (.aload_n 0, 1) := by decide +kernel
theorem dX12_copyView_58 : decode cX12_copyView 58 = .ok (.getfield 19, 3) := by decide +kernel
theorem dX12_copyView_61 : decode cX12_copyView 61 = .ok (.bipush 19, 2) := by decide +kernel
theorem dX12_copyView_63 : decode cX12_copyView 63 = .ok (.iload_n 1, 1) := by decide +kernel
theorem dX12_copyView_64 : decode cX12_copyView 64 = .ok (.imul, 1) := by decide +kernel
theorem dX12_copyView_65 : decode cX12_copyView 65 = .ok (.iload_n 3, 1) := by decide +kernel
theorem dX12_copyView_66 : decode cX12_copyView 66 = .ok (.iadd, 1) := by decide +kernel
theorem dX12_copyView_67 : decode cX12_copyView 67 = .ok (.iaload, 1) := by decide +kernel
theorem dX12_copyView_68 : decode cX12_copyView 68 = .ok (.iastore, 1) := by decide +kernel
theorem dX12_copyView_69 : decode cX12_copyView 69 = .ok (.aload_n 0, 1) := by decide +kernel
theorem dX12_copyView_70 : decode cX12_copyView 70 = .ok (.getfield 22, 3) := by decide +kernel
theorem dX12_copyView_73 : decode cX12_copyView 73 = .ok (.bipush 19, 2) := by decide +kernel
theorem dX12_copyView_75 : decode cX12_copyView 75 = .ok (.iload_n 2, 1) := by decide +kernel
theorem dX12_copyView_76 : decode cX12_copyView 76 = .ok (.imul, 1) := by decide +kernel
theorem dX12_copyView_77 : decode cX12_copyView 77 = .ok (.iload_n 3, 1) := by decide +kernel
theorem dX12_copyView_78 : decode cX12_copyView 78 = .ok (.iadd, 1) := by decide +kernel
theorem dX12_copyView_79 : decode cX12_copyView 79 = .ok (.aload_n 0, 1) := by decide +kernel
theorem dX12_copyView_80 : decode cX12_copyView 80 = .ok (.getfield 22, 3) := by decide +kernel
theorem dX12_copyView_83 : decode cX12_copyView 83 = .ok (.bipush 19, 2) := by decide +kernel
theorem dX12_copyView_85 : decode cX12_copyView 85 = .ok (.iload_n 1, 1) := by decide +kernel
theorem dX12_copyView_86 : decode cX12_copyView 86 = .ok (.imul, 1) := by decide +kernel
theorem dX12_copyView_87 : decode cX12_copyView 87 = .ok (.iload_n 3, 1) := by decide +kernel
theorem dX12_copyView_88 : decode cX12_copyView 88 = .ok (.iadd, 1) := by decide +kernel
theorem dX12_copyView_89 : decode cX12_copyView 89 = .ok (.iaload, 1) := by decide +kernel
theorem dX12_copyView_90 : decode cX12_copyView 90 = .ok (.iastore, 1) := by decide +kernel
theorem dX12_copyView_91 : decode cX12_copyView 91 = .ok (.iinc 3 1, 3) := by decide +kernel
theorem dX12_copyView_94 : decode cX12_copyView 94 = .ok (.goto (-53), 3) := by decide +kernel
theorem dX12_copyView_97 : decode cX12_copyView 97 = .ok (.iconst 0, 1) := by decide +kernel
theorem dX12_copyView_98 : decode cX12_copyView 98 = .ok (.istore_n 3, 1) := by decide +kernel
theorem dX12_copyView_99 : decode cX12_copyView 99 = .ok (.iload_n 3, 1) := by decide +kernel
theorem dX12_copyView_100 : decode cX12_copyView 100 = .ok (.bipush 9, 2) := by decide +kernel
theorem dX12_copyView_102 : decode cX12_copyView 102 = .ok (.if_icmp .ge 31, 3) := by decide +kernel
theorem dX12_copyView_105 : decode cX12_copyView 105 = .ok (.aload_n 0, 1) := by decide +kernel
theorem dX12_copyView_106 : decode cX12_copyView 106 = .ok (.getfield 28, 3) := by decide +kernel
theorem dX12_copyView_109 : decode cX12_copyView 109 = .ok (.bipush 9, 2) := by decide +kernel
theorem dX12_copyView_111 : decode cX12_copyView 111 = .ok (.iload_n 2, 1) := by decide +kernel
theorem dX12_copyView_112 : decode cX12_copyView 112 = .ok (.imul, 1) := by decide +kernel
theorem dX12_copyView_113 : decode cX12_copyView 113 = .ok (.iload_n 3, 1) := by decide +kernel
theorem dX12_copyView_114 : decode cX12_copyView 114 = .ok (.iadd, 1) := by decide +kernel
theorem dX12_copyView_115 : decode cX12_copyView 115 = .ok (.aload_n 0, 1) := by decide +kernel
theorem dX12_copyView_116 : decode cX12_copyView 116 = .ok (.getfield 28, 3) := by decide +kernel
theorem dX12_copyView_119 : decode cX12_copyView 119 = .ok (.bipush 9, 2) := by decide +kernel
theorem dX12_copyView_121 : decode cX12_copyView 121 = .ok (.iload_n 1, 1) := by decide +kernel
theorem dX12_copyView_122 : decode cX12_copyView 122 = .ok (.imul, 1) := by decide +kernel
theorem dX12_copyView_123 : decode cX12_copyView 123 = .ok (.iload_n 3, 1) := by decide +kernel
theorem dX12_copyView_124 : decode cX12_copyView 124 = .ok (.iadd, 1) := by decide +kernel
theorem dX12_copyView_125 : decode cX12_copyView 125 = .ok (.iaload, 1) := by decide +kernel
theorem dX12_copyView_126 : decode cX12_copyView 126 = .ok (.iastore, 1) := by decide +kernel
theorem dX12_copyView_127 : decode cX12_copyView 127 = .ok (.iinc 3 1, 3) := by decide +kernel
theorem dX12_copyView_130 : decode cX12_copyView 130 = .ok (.goto (-31), 3) := by decide +kernel
theorem dX12_copyView_133 : decode cX12_copyView 133 = .ok (.aload_n 0, 1) := by decide +kernel
theorem dX12_copyView_134 : decode cX12_copyView 134 = .ok (.getfield 31, 3) := by decide +kernel
theorem dX12_copyView_137 : decode cX12_copyView 137 = .ok (.iload_n 2, 1) := by decide +kernel
theorem dX12_copyView_138 : decode cX12_copyView 138 = .ok (.aload_n 0, 1) := by decide +kernel
theorem dX12_copyView_139 : decode cX12_copyView 139 = .ok (.getfield 31, 3) := by decide +kernel
theorem dX12_copyView_142 : decode cX12_copyView 142 = .ok (.iload_n 1, 1) := by decide +kernel
theorem dX12_copyView_143 : decode cX12_copyView 143 = .ok (.iaload, 1) := by decide +kernel
theorem dX12_copyView_144 : decode cX12_copyView 144 = .ok (.iastore, 1) := by decide +kernel
theorem dX12_copyView_145 : decode cX12_copyView 145 = .ok (.aload_n 0, 1) := by decide +kernel
theorem dX12_copyView_146 : decode cX12_copyView 146 = .ok (.getfield 25, 3) := by decide +kernel
theorem dX12_copyView_149 : decode cX12_copyView 149 = .ok (.iload_n 2, 1) := by decide +kernel
theorem dX12_copyView_150 : decode cX12_copyView 150 = .ok (.aload_n 0, 1) := by decide +kernel
theorem dX12_copyView_151 : decode cX12_copyView 151 = .ok (.getfield 25, 3) := by decide +kernel
theorem dX12_copyView_154 : decode cX12_copyView 154 = .ok (.iload_n 1, 1) := by decide +kernel
theorem dX12_copyView_155 : decode cX12_copyView 155 = .ok (.iaload, 1) := by decide +kernel
theorem dX12_copyView_156 : decode cX12_copyView 156 = .ok (.iastore, 1) := by decide +kernel
theorem dX12_copyView_157 : decode cX12_copyView 157 = .ok (.return_, 1) := by decide +kernel
def kX12_copyView_0 : List (Nat × zT) := [(0, a_i 0 1), (1, a_istore 3 2), (2, a_iload 3 3), (3, a_i 200 6), (6, a_ic_ge 39 9), (9, a_aload 0 10), (10, a_getR 12 2 13), (13, a_i 200 16), (16, a_iload 2 17), (17, a_ii (fun x y => x * y) 18), (18, a_iload 3 19), (19, a_ii (fun x y => x + y) 20), (20, a_aload 0 21), (21, a_getR 12 2 24), (24, a_i 200 27), (27, a_iload 1 28), (28, a_ii (fun x y => x * y) 29), (29, a_iload 3 30), (30, a_ii (fun x y => x + y) 31), (31, a_iald 32), (32, a_iast 33), (33, a_iinc 3 1 36), (36, a_goto 2), (39, a_i 0 40)]
theorem oX12_copyView_0 : ∀ q ∈ kX12_copyView_0, zSnd zty false RX12 cX12_copyView 4 none false q := List.forall_mem_cons.mpr ⟨ok_iconst dX12_copyView_0 (by decide), List.forall_mem_cons.mpr ⟨ok_istore_n dX12_copyView_1 rfl (by decide), List.forall_mem_cons.mpr ⟨ok_iload_n dX12_copyView_2 rfl, List.forall_mem_cons.mpr ⟨ok_sipush dX12_copyView_3 (by decide), List.forall_mem_cons.mpr ⟨ok_ic_ge dX12_copyView_6 (by decide), List.forall_mem_cons.mpr ⟨ok_aload_n dX12_copyView_9 rfl, List.forall_mem_cons.mpr ⟨ok_getR dX12_copyView_10 rfl in12 (by decide) rfl w959, List.forall_mem_cons.mpr ⟨ok_sipush dX12_copyView_13 (by decide), List.forall_mem_cons.mpr ⟨ok_iload_n dX12_copyView_16 rfl, List.forall_mem_cons.mpr ⟨ok_imul dX12_copyView_17, List.forall_mem_cons.mpr ⟨ok_iload_n dX12_copyView_18 rfl, List.forall_mem_cons.mpr ⟨ok_iadd dX12_copyView_19, List.forall_mem_cons.mpr ⟨ok_aload_n dX12_copyView_20 rfl, List.forall_mem_cons.mpr ⟨ok_getR dX12_copyView_21 rfl in12 (by decide) rfl w959, List.forall_mem_cons.mpr ⟨ok_sipush dX12_copyView_24 (by decide), List.forall_mem_cons.mpr ⟨ok_iload_n dX12_copyView_27 rfl, List.forall_mem_cons.mpr ⟨ok_imul dX12_copyView_28, List.forall_mem_cons.mpr ⟨ok_iload_n dX12_copyView_29 rfl, List.forall_mem_cons.mpr ⟨ok_iadd dX12_copyView_30, List.forall_mem_cons.mpr ⟨ok_iald dX12_copyView_31, List.forall_mem_cons.mpr ⟨ok_iast dX12_copyView_32, List.forall_mem_cons.mpr ⟨ok_iinc dX12_copyView_33 (by decide) (by decide), List.forall_mem_cons.mpr ⟨ok_goto dX12_copyView_36 (by decide), List.forall_mem_cons.mpr ⟨ok_iconst dX12_copyView_39 (by decide), fun _ h => absurd h List.not_mem_nil⟩⟩⟩⟩⟩⟩⟩⟩⟩⟩⟩⟩⟩⟩⟩⟩⟩⟩⟩⟩⟩⟩⟩⟩
def kX12_copyView_1 : List (Nat × zT) := [(40, a_istore 3 41), (41, a_iload 3 42), (42, a_i 19 44), (44, a_ic_ge 97 47), (47, a_aload 0 48), (48, a_getR 12 3 51), (51, a_i 19 53), (53, a_iload 2 54), (54, a_ii (fun x y => x * y) 55), (55, a_iload 3 56), (56, a_ii (fun x y => x + y) 57), (57, a_aload 0 58), (58, a_getR 12 3 61), (61, a_i 19 63), (63, a_iload 1 64), (64, a_ii (fun x y => x * y) 65), (65, a_iload 3 66), (66, a_ii (fun x y => x + y) 67), (67, a_iald 68), (68, a_iast 69), (69, a_aload 0 70), (70, a_getR 12 4 73), (73, a_i 19 75), (75, a_iload 2 76)]
theorem oX12_copyView_1 : ∀ q ∈ kX12_copyView_1, zSnd zty false RX12 cX12_copyView 4 none false q := List.forall_mem_cons.mpr ⟨ok_istore_n dX12_copyView_40 rfl (by decide), List.forall_mem_cons.mpr ⟨ok_iload_n dX12_copyView_41 rfl, List.forall_mem_cons.mpr ⟨ok_bipush dX12_copyView_42 (by decide), List.forall_mem_cons.mpr ⟨ok_ic_ge dX12_copyView_44 (by decide), List.forall_mem_cons.mpr ⟨ok_aload_n dX12_copyView_47 rfl, List.forall_mem_cons.mpr ⟨ok_getR dX12_copyView_48 rfl in12 (by decide) rfl w960, List.forall_mem_cons.mpr ⟨ok_bipush dX12_copyView_51 (by decide), List.forall_mem_cons.mpr ⟨ok_iload_n dX12_copyView_53 rfl, List.forall_mem_cons.mpr ⟨ok_imul dX12_copyView_54, List.forall_mem_cons.mpr ⟨ok_iload_n dX12_copyView_55 rfl, List.forall_mem_cons.mpr ⟨ok_iadd dX12_copyView_56, List.forall_mem_cons.mpr ⟨ok_aload_n dX12_copyView_57 rfl, List.forall_mem_cons.mpr ⟨ok_getR dX12_copyView_58 rfl in12 (by decide) rfl w960, List.forall_mem_cons.mpr ⟨ok_bipush dX12_copyView_61 (by decide), List.forall_mem_cons.mpr ⟨ok_iload_n dX12_copyView_63 rfl, List.forall_mem_cons.mpr ⟨ok_imul dX12_copyView_64, List.forall_mem_cons.mpr ⟨ok_iload_n dX12_copyView_65 rfl, List.forall_mem_cons.mpr ⟨ok_iadd dX12_copyView_66, List.forall_mem_cons.mpr ⟨ok_iald dX12_copyView_67, List.forall_mem_cons.mpr ⟨ok_iast dX12_copyView_68, List.forall_mem_cons.mpr ⟨ok_aload_n dX12_copyView_69 rfl, List.forall_mem_cons.mpr ⟨ok_getR dX12_copyView_70 rfl in12 (by decide) rfl w961, List.forall_mem_cons.mpr ⟨ok_bipush dX12_copyView_73 (by decide), List.forall_mem_cons.mpr ⟨ok_iload_n dX12_copyView_75 rfl, fun _ h => absurd h List.not_mem_nil⟩⟩⟩⟩⟩⟩⟩⟩⟩⟩⟩⟩⟩⟩⟩⟩⟩⟩⟩⟩⟩⟩⟩⟩
def kX12_copyView_2 : List (Nat × zT) := [(76, a_ii (fun x y => x * y) 77), (77, a_iload 3 78), (78, a_ii (fun x y => x + y) 79), (79, a_aload 0 80), (80, a_getR 12 4 83), (83, a_i 19 85), (85, a_iload 1 86), (86, a_ii (fun x y => x * y) 87), (87, a_iload 3 88), (88, a_ii (fun x y => x + y) 89), (89, a_iald 90), (90, a_iast 91), (91, a_iinc 3 1 94), (94, a_goto 41), (97, a_i 0 98), (98, a_istore 3 99), (99, a_iload 3 100), (100, a_i 9 102), (102, a_ic_ge 133 105), (105, a_aload 0 106), (106, a_getR 12 6 109), (109, a_i 9 111), (111, a_iload 2 112), (112, a_ii (fun x y => x * y) 113)]
theorem oX12_copyView_2 : ∀ q ∈ kX12_copyView_2, zSnd zty false RX12 cX12_copyView 4 none false q := List.forall_mem_cons.mpr ⟨ok_imul dX12_copyView_76, List.forall_mem_cons.mpr ⟨ok_iload_n dX12_copyView_77 rfl, List.forall_mem_cons.mpr ⟨ok_iadd dX12_copyView_78, List.forall_mem_cons.mpr ⟨ok_aload_n dX12_copyView_79 rfl, List.forall_mem_cons.mpr ⟨ok_getR dX12_copyView_80 rfl in12 (by decide) rfl w961, List.forall_mem_cons.mpr ⟨ok_bipush dX12_copyView_83 (by decide), List.forall_mem_cons.mpr ⟨ok_iload_n dX12_copyView_85 rfl, List.forall_mem_cons.mpr ⟨ok_imul dX12_copyView_86, List.forall_mem_cons.mpr ⟨ok_iload_n dX12_copyView_87 rfl, List.forall_mem_cons.mpr ⟨ok_iadd dX12_copyView_88, List.forall_mem_cons.mpr ⟨ok_iald dX12_copyView_89, List.forall_mem_cons.mpr ⟨ok_iast dX12_copyView_90, List.forall_mem_cons.mpr ⟨ok_iinc dX12_copyView_91 (by decide) (by decide), List.forall_mem_cons.mpr ⟨ok_goto dX12_copyView_94 (by decide), List.forall_mem_cons.mpr ⟨ok_iconst dX12_copyView_97 (by decide), List.forall_mem_cons.mpr ⟨ok_istore_n dX12_copyView_98 rfl (by decide), List.forall_mem_cons.mpr ⟨ok_iload_n dX12_copyView_99 rfl, List.forall_mem_cons.mpr ⟨ok_bipush dX12_copyView_100 (by decide), List.forall_mem_cons.mpr ⟨ok_ic_ge dX12_copyView_102 (by decide), List.forall_mem_cons.mpr ⟨ok_aload_n dX12_copyView_105 rfl, List.forall_mem_cons.mpr ⟨ok_getR dX12_copyView_106 rfl in12 (by decide) rfl w963, List.forall_mem_cons.mpr ⟨ok_bipush dX12_copyView_109 (by decide), List.forall_mem_cons.mpr ⟨ok_iload_n dX12_copyView_111 rfl, List.forall_mem_cons.mpr ⟨ok_imul dX12_copyView_112, fun _ h => absurd h List.not_mem_nil⟩⟩⟩⟩⟩⟩⟩⟩⟩⟩⟩⟩⟩⟩⟩⟩⟩⟩⟩⟩⟩⟩⟩⟩
def kX12_copyView_3 : List (Nat × zT) := [(113, a_iload 3 114), (114, a_ii (fun x y => x + y) 115), (115, a_aload 0 116), (116, a_getR 12 6 119), (119, a_i 9 121), (121, a_iload 1 122), (122, a_ii (fun x y => x * y) 123), (123, a_iload 3 124), (124, a_ii (fun x y => x + y) 125), (125, a_iald 126), (126, a_iast 127), (127, a_iinc 3 1 130), (130, a_goto 99), (133, a_aload 0 134), (134, a_getR 12 7 137), (137, a_iload 2 138), (138, a_aload 0 139), (139, a_getR 12 7 142), (142, a_iload 1 143), (143, a_iald 144), (144, a_iast 145), (145, a_aload 0 146), (146, a_getR 12 5 149), (149, a_iload 2 150)]
theorem oX12_copyView_3 : ∀ q ∈ kX12_copyView_3, zSnd zty false RX12 cX12_copyView 4 none false q := List.forall_mem_cons.mpr ⟨ok_iload_n dX12_copyView_113 rfl, List.forall_mem_cons.mpr ⟨ok_iadd dX12_copyView_114, List.forall_mem_cons.mpr ⟨ok_aload_n dX12_copyView_115 rfl, List.forall_mem_cons.mpr ⟨ok_getR dX12_copyView_116 rfl in12 (by decide) rfl w963, List.forall_mem_cons.mpr ⟨ok_bipush dX12_copyView_119 (by decide), List.forall_mem_cons.mpr ⟨ok_iload_n dX12_copyView_121 rfl, List.forall_mem_cons.mpr ⟨ok_imul dX12_copyView_122, List.forall_mem_cons.mpr ⟨ok_iload_n dX12_copyView_123 rfl, List.forall_mem_cons.mpr ⟨ok_iadd dX12_copyView_124, List.forall_mem_cons.mpr ⟨ok_iald dX12_copyView_125, List.forall_mem_cons.mpr ⟨ok_iast dX12_copyView_126, List.forall_mem_cons.mpr ⟨ok_iinc dX12_copyView_127 (by decide) (by decide), List.forall_mem_cons.mpr ⟨ok_goto dX12_copyView_130 (by decide), List.forall_mem_cons.mpr ⟨ok_aload_n dX12_copyView_133 rfl, List.forall_mem_cons.mpr ⟨ok_getR dX12_copyView_134 rfl in12 (by decide) rfl w964, List.forall_mem_cons.mpr ⟨ok_iload_n dX12_copyView_137 rfl, List.forall_mem_cons.mpr ⟨ok_aload_n dX12_copyView_138 rfl, List.forall_mem_cons.mpr ⟨ok_getR dX12_copyView_139 rfl in12 (by decide) rfl w964, List.forall_mem_cons.mpr ⟨ok_iload_n dX12_copyView_142 rfl, List.forall_mem_cons.mpr ⟨ok_iald dX12_copyView_143, List.forall_mem_cons.mpr ⟨ok_iast dX12_copyView_144, List.forall_mem_cons.mpr ⟨ok_aload_n dX12_copyView_145 rfl, List.forall_mem_cons.mpr ⟨ok_getR dX12_copyView_146 rfl in12 (by decide) rfl w962, List.forall_mem_cons.mpr ⟨ok_iload_n dX12_copyView_149 rfl, fun _ h => absurd h List.not_mem_nil⟩⟩⟩⟩⟩⟩⟩⟩⟩⟩⟩⟩⟩⟩⟩⟩⟩⟩⟩⟩⟩⟩⟩⟩
def kX12_copyView_4 : List (Nat × zT) := [(150, a_aload 0 151), (151, a_getR 12 5 154), (154, a_iload 1 155), (155, a_iald 156), (156, a_iast 157), (157, a_vret)]
theorem oX12_copyView_4 : ∀ q ∈ kX12_copyView_4, zSnd zty false RX12 cX12_copyView 4 none false q := List.forall_mem_cons.mpr ⟨ok_aload_n dX12_copyView_150 rfl, List.forall_mem_cons.mpr ⟨ok_getR dX12_copyView_151 rfl in12 (by decide) rfl w962, List.forall_mem_cons.mpr ⟨ok_iload_n dX12_copyView_154 rfl, List.forall_mem_cons.mpr ⟨ok_iald dX12_copyView_155, List.forall_mem_cons.mpr ⟨ok_iast dX12_copyView_156, List.forall_mem_cons.mpr ⟨ok_vret dX12_copyView_157 rfl, fun _ h => absurd h List.not_mem_nil⟩⟩⟩⟩⟩⟩
def kX12_copyView : List (Nat × zT) := kX12_copyView_0 ++ (kX12_copyView_1 ++ (kX12_copyView_2 ++ (kX12_copyView_3 ++ (kX12_copyView_4))))
theorem qX12_copyView_0 : ∀ q ∈ kX12_copyView_0, q ∈ kX12_copyView := fun _ h => (List.mem_append_left _ h)
theorem tX12_copyView_0 : (0, a_i 0 1) ∈ kX12_copyView := qX12_copyView_0 _ (List.mem_of_getElem? (i := 0) rfl)
theorem tX12_copyView_1 : (1, a_istore 3 2) ∈ kX12_copyView := qX12_copyView_0 _ (List.mem_of_getElem? (i := 1) rfl)
theorem tX12_copyView_2 : (2, a_iload 3 3) ∈ kX12_copyView := qX12_copyView_0 _ (List.mem_of_getElem? (i := 2) rfl)
theorem tX12_copyView_3 : (3, a_i 200 6) ∈ kX12_copyView := qX12_copyView_0 _ (List.mem_of_getElem? (i := 3) rfl)
theorem tX12_copyView_6 : (6, a_ic_ge 39 9) ∈ kX12_copyView := qX12_copyView_0 _ (List.mem_of_getElem? (i := 4) rfl)
theorem tX12_copyView_9 : (9, a_aload 0 10) ∈ kX12_copyView := qX12_copyView_0 _ (List.mem_of_getElem? (i := 5) rfl)
theorem tX12_copyView_10 : (10, a_getR 12 2 13) ∈ kX12_copyView := qX12_copyView_0 _ (List.mem_of_getElem? (i := 6) rfl)
theorem tX12_copyView_13 : (13, a_i 200 16) ∈ kX12_copyView := qX12_copyView_0 _ (List.mem_of_getElem? (i := 7) rfl)
theorem tX12_copyView_16 : (16, a_iload 2 17) ∈ kX12_copyView := qX12_copyView_0 _ (List.mem_of_getElem? (i := 8) rfl)
theorem tX12_copyView_17 : (17, a_ii (fun x y => x * y) 18) ∈ kX12_copyView := qX12_copyView_0 _ (List.mem_of_getElem? (i := 9) rfl)
theorem tX12_copyView_18 : (18, a_iload 3 19) ∈ kX12_copyView := qX12_copyView_0 _ (List.mem_of_getElem? (i := 10) rfl)
theorem tX12_copyView_19 : (19, a_ii (fun x y => x + y) 20) ∈ kX12_copyView := qX12_copyView_0 _ (List.mem_of_getElem? (i := 11) rfl)
theorem tX12_copyView_20 : (20, a_aload 0 21) ∈ kX12_copyView := qX12_copyView_0 _ (List.mem_of_getElem? (i := 12) rfl)
theorem tX12_copyView_21 : (21, a_getR 12 2 24) ∈ kX12_copyView := qX12_copyView_0 _ (List.mem_of_getElem? (i := 13) rfl)
theorem tX12_copyView_24 : (24, a_i 200 27) ∈ kX12_copyView := qX12_copyView_0 _ (List.mem_of_getElem? (i := 14) rfl)
theorem tX12_copyView_27 : (27, a_iload 1 28) ∈ kX12_copyView := qX12_copyView_0 _ (List.mem_of_getElem? (i := 15) rfl)
theorem tX12_copyView_28 : (28, a_ii (fun x y => x * y) 29) ∈ kX12_copyView := qX12_copyView_0 _ (List.mem_of_getElem? (i := 16) rfl)
theorem tX12_copyView_29 : (29, a_iload 3 30) ∈ kX12_copyView := qX12_copyView_0 _ (List.mem_of_getElem? (i := 17) rfl)
theorem tX12_copyView_30 : (30, a_ii (fun x y => x + y) 31) ∈ kX12_copyView := qX12_copyView_0 _ (List.mem_of_getElem? (i := 18) rfl)
theorem tX12_copyView_31 : (31, a_iald 32) ∈ kX12_copyView := qX12_copyView_0 _ (List.mem_of_getElem? (i := 19) rfl)
theorem tX12_copyView_32 : (32, a_iast 33) ∈ kX12_copyView := qX12_copyView_0 _ (List.mem_of_getElem? (i := 20) rfl)
theorem tX12_copyView_33 : (33, a_iinc 3 1 36) ∈ kX12_copyView := qX12_copyView_0 _ (List.mem_of_getElem? (i := 21) rfl)
theorem tX12_copyView_36 : (36, a_goto 2) ∈ kX12_copyView := qX12_copyView_0 _ (List.mem_of_getElem? (i := 22) rfl)
theorem tX12_copyView_39 : (39, a_i 0 40) ∈ kX12_copyView := qX12_copyView_0 _ (List.mem_of_getElem? (i := 23) rfl)
theorem qX12_copyView_1 : ∀ q ∈ kX12_copyView_1, q ∈ kX12_copyView := fun _ h => (List.mem_append_right _ (List.mem_append_left _ h))
theorem tX12_copyView_40 : (40, a_istore 3 41) ∈ kX12_copyView := qX12_copyView_1 _ (List.mem_of_getElem? (i := 0) rfl)
theorem tX12_copyView_41 : (41, a_iload 3 42) ∈ kX12_copyView := qX12_copyView_1 _ (List.mem_of_getElem? (i := 1) rfl)
theorem tX12_copyView_42 : (42, a_i 19 44) ∈ kX12_copyView := qX12_copyView_1 _ (List.mem_of_getElem? (i := 2) rfl)
theorem tX12_copyView_44 : (44, a_ic_ge 97 47) ∈ kX12_copyView := qX12_copyView_1 _ (List.mem_of_getElem? (i := 3) rfl)
theorem tX12_copyView_47 : (47, a_aload 0 48) ∈ kX12_copyView := qX12_copyView_1 _ (List.mem_of_getElem? (i := 4) rfl)
theorem tX12_copyView_48 : (48, a_getR 12 3 51) ∈ kX12_copyView := qX12_copyView_1 _ (List.mem_of_getElem? (i := 5) rfl)
theorem tX12_copyView_51 : (51, a_i 19 53) ∈ kX12_copyView := qX12_copyView_1 _ (List.mem_of_getElem? (i := 6) rfl)
theorem tX12_copyView_53 : (53, a_iload 2 54) ∈ kX12_copyView := qX12_copyView_1 _ (List.mem_of_getElem? (i := 7) rfl)
theorem tX12_copyView_54 : (54, a_ii (fun x y => x * y) 55) ∈ kX12_copyView := qX12_copyView_1 _ (List.mem_of_getElem? (i := 8) rfl)
theorem tX12_copyView_55 : (55, a_iload 3 56) ∈ kX12_copyView := qX12_copyView_1 _ (List.mem_of_getElem? (i := 9) rfl)
theorem tX12_copyView_56 : (56, a_ii (fun x y => x + y) 57) ∈ kX12_copyView := qX12_copyView_1 _ (List.mem_of_getElem? (i := 10) rfl)
theorem tX12_copyView_57 : (57, a_aload 0 58) ∈ kX12_copyView := qX12_copyView_1 _ (List.mem_of_getElem? (i := 11) rfl)
theorem tX12_copyView_58 : (58, a_getR 12 3 61) ∈ kX12_copyView := qX12_copyView_1 _ (List.mem_of_getElem? (i := 12) rfl)
theorem tX12_copyView_61 : (61, a_i 19 63) ∈ kX12_copyView := qX12_copyView_1 _ (List.mem_of_getElem? (i := 13) rfl)
theorem tX12_copyView_63 : (63, a_iload 1 64) ∈ kX12_copyView := qX12_copyView_1 _ (List.mem_of_getElem? (i := 14) rfl)
theorem tX12_copyView_64 : (64, a_ii (fun x y => x * y) 65) ∈ kX12_copyView := qX12_copyView_1 _ (List.mem_of_getElem? (i := 15) rfl)
theorem tX12_copyView_65 : (65, a_iload 3 66) ∈ kX12_copyView := qX12_copyView_1 _ (List.mem_of_getElem? (i := 16) rfl)
theorem tX12_copyView_66 : (66, a_ii (fun x y => x + y) 67) ∈ kX12_copyView := qX12_copyView_1 _ (List.mem_of_getElem? (i := 17) rfl)
theorem tX12_copyView_67 : (67, a_iald 68) ∈ kX12_copyView := qX12_copyView_1 _ (List.mem_of_getElem? (i := 18) rfl)
theorem tX12_copyView_68 : (68, a_iast 69) ∈ kX12_copyView := qX12_copyView_1 _ (List.mem_of_getElem? (i := 19) rfl)
theorem tX12_copyView_69 : (69, a_aload 0 70) ∈ kX12_copyView := qX12_copyView_1 _ (List.mem_of_getElem? (i := 20) rfl)
theorem tX12_copyView_70 : (70, a_getR 12 4 73) ∈ kX12_copyView := qX12_copyView_1 _ (List.mem_of_getElem? (i := 21) rfl)
theorem tX12_copyView_73 : (73, a_i 19 75) ∈ kX12_copyView := qX12_copyView_1 _ (List.mem_of_getElem? (i := 22) rfl)
theorem tX12_copyView_75 : (75, a_iload 2 76) ∈ kX12_copyView := qX12_copyView_1 _ (List.mem_of_getElem? (i := 23) rfl)
theorem qX12_copyView_2 : ∀ q ∈ kX12_copyView_2, q ∈ kX12_copyView := fun _ h => (List.mem_append_right _ (List.mem_append_right _ (List.mem_append_left _ h)))
theorem tX12_copyView_76 : (76, a_ii (fun x y => x * y) 77) ∈ kX12_copyView := qX12_copyView_2 _ (List.mem_of_getElem? (i := 0) rfl)
theorem tX12_copyView_77 : (77, a_iload 3 78) ∈ kX12_copyView := qX12_copyView_2 _ (List.mem_of_getElem? (i := 1) rfl)
theorem tX12_copyView_78 : (78, a_ii (fun x y => x + y) 79) ∈ kX12_copyView := qX12_copyView_2 _ (List.mem_of_getElem? (i := 2) rfl)
theorem tX12_copyView_79 : (79, a_aload 0 80) ∈ kX12_copyView := qX12_copyView_2 _ (List.mem_of_getElem? (i := 3) rfl)
theorem tX12_copyView_80 : (80, a_getR 12 4 83) ∈ kX12_copyView := qX12_copyView_2 _ (List.mem_of_getElem? (i := 4) rfl)
theorem tX12_copyView_83 : (83, a_i 19 85) ∈ kX12_copyView := qX12_copyView_2 _ (List.mem_of_getElem? (i := 5) rfl)
theorem tX12_copyView_85 : (85, a_iload 1 86) ∈ kX12_copyView := qX12_copyView_2 _ (List.mem_of_getElem? (i := 6) rfl)
theorem tX12_copyView_86 : (86, a_ii (fun x y => x * y) 87) ∈ kX12_copyView := qX12_copyView_2 _ (List.mem_of_getElem? (i := 7) rfl)
theorem tX12_copyView_87 : (87, a_iload 3 88) ∈ kX12_copyView := qX12_copyView_2 _ (List.mem_of_getElem? (i := 8) rfl)
theorem tX12_copyView_88 : (88, a_ii (fun x y => x + y) 89) ∈ kX12_copyView := qX12_copyView_2 _ (List.mem_of_getElem? (i := 9) rfl)
theorem tX12_copyView_89 : (89, a_iald 90) ∈ kX12_copyView := qX12_copyView_2 _ (List.mem_of_getElem? (i := 10) rfl)
theorem tX12_copyView_90 : (90, a_iast 91) ∈ kX12_copyView := qX12_copyView_2 _ (List.mem_of_getElem? (i := 11) rfl)
theorem tX12_copyView_91 : (91, a_iinc 3 1 94) ∈ kX12_copyView := qX12_copyView_2 _ (List.mem_of_getElem? (i := 12) rfl)
theorem tX12_copyView_94 : (94, a_goto 41) ∈ kX12_copyView := qX12_copyView_2 _ (List.mem_of_getElem? (i := 13) rfl)
theorem tX12_copyView_97 : (97, a_i 0 98) ∈ kX12_copyView := qX12_copyView_2 _ (List.mem_of_getElem? (i := 14) rfl)
theorem tX12_copyView_98 : (98, a_istore 3 99) ∈ kX12_copyView := qX12_copyView_2 _ (List.mem_of_getElem? (i := 15) rfl)
theorem tX12_copyView_99 : (99, a_iload 3 100) ∈ kX12_copyView := qX12_copyView_2 _ (List.mem_of_getElem? (i := 16) rfl)
theorem tX12_copyView_100 : (100, a_i 9 102) ∈ kX12_copyView := qX12_copyView_2 _ (List.mem_of_getElem? (i := 17) rfl)
theorem tX12_copyView_102 : (102, a_ic_ge 133 105) ∈ kX12_copyView := qX12_copyView_2 _ (List.mem_of_getElem? (i := 18) rfl)
theorem tX12_copyView_105 : (105, a_aload 0 106) ∈ kX12_copyView := qX12_copyView_2 _ (List.mem_of_getElem? (i := 19) rfl)
theorem tX12_copyView_106 : (106, a_getR 12 6 109) ∈ kX12_copyView := qX12_copyView_2 _ (List.mem_of_getElem? (i := 20) rfl)
theorem tX12_copyView_109 : (109, a_i 9 111) ∈ kX12_copyView := qX12_copyView_2 _ (List.mem_of_getElem? (i := 21) rfl)
theorem tX12_copyView_111 : (111, a_iload 2 112) ∈ kX12_copyView := qX12_copyView_2 _ (List.mem_of_getElem? (i := 22) rfl)
theorem tX12_copyView_112 : (112, a_ii (fun x y => x * y) 113) ∈ kX12_copyView := qX12_copyView_2 _ (List.mem_of_getElem? (i := 23) rfl)
theorem qX12_copyView_3 : ∀ q ∈ kX12_copyView_3, q ∈ kX12_copyView := fun _ h => (List.mem_append_right _ (List.mem_append_right _ (List.mem_append_right _ (List.mem_append_left _ h))))
theorem tX12_copyView_113 : (113, a_iload 3 114) ∈ kX12_copyView := qX12_copyView_3 _ (List.mem_of_getElem? (i := 0) rfl)
theorem tX12_copyView_114 : (114, a_ii (fun x y => x + y) 115) ∈ kX12_copyView := qX12_copyView_3 _ (List.mem_of_getElem? (i := 1) rfl)
theorem tX12_copyView_115 : (115, a_aload 0 116) ∈ kX12_copyView := qX12_copyView_3 _ (List.mem_of_getElem? (i := 2) rfl)
theorem tX12_copyView_116 : (116, a_getR 12 6 119) ∈ kX12_copyView := qX12_copyView_3 _ (List.mem_of_getElem? (i := 3) rfl)
theorem tX12_copyView_119 : (119, a_i 9 121) ∈ kX12_copyView := qX12_copyView_3 _ (List.mem_of_getElem? (i := 4) rfl)
theorem tX12_copyView_121 : (121, a_iload 1 122) ∈ kX12_copyView := qX12_copyView_3 _ (List.mem_of_getElem? (i := 5) rfl)
theorem tX12_copyView_122 : (122, a_ii (fun x y => x * y) 123) ∈ kX12_copyView := qX12_copyView_3 _ (List.mem_of_getElem? (i := 6) rfl)
theorem tX12_copyView_123 : (123, a_iload 3 124) ∈ kX12_copyView := qX12_copyView_3 _ (List.mem_of_getElem? (i := 7) rfl)
theorem tX12_copyView_124 : (124, a_ii (fun x y => x + y) 125) ∈ kX12_copyView := qX12_copyView_3 _ (List.mem_of_getElem? (i := 8) rfl)
theorem tX12_copyView_125 : (125, a_iald 126) ∈ kX12_copyView := qX12_copyView_3 _ (List.mem_of_getElem? (i := 9) rfl)
theorem tX12_copyView_126 : (126, a_iast 127) ∈ kX12_copyView := qX12_copyView_3 _ (List.mem_of_getElem? (i := 10) rfl)
theorem tX12_copyView_127 : (127, a_iinc 3 1 130) ∈ kX12_copyView := qX12_copyView_3 _ (List.mem_of_getElem? (i := 11) rfl)
theorem tX12_copyView_130 : (130, a_goto 99) ∈ kX12_copyView := qX12_copyView_3 _ (List.mem_of_getElem? (i := 12) rfl)
theorem tX12_copyView_133 : (133, a_aload 0 134) ∈ kX12_copyView := qX12_copyView_3 _ (List.mem_of_getElem? (i := 13) rfl)
theorem tX12_copyView_134 : (134, a_getR 12 7 137) ∈ kX12_copyView := qX12_copyView_3 _ (List.mem_of_getElem? (i := 14) rfl)
theorem tX12_copyView_137 : (137, a_iload 2 138) ∈ kX12_copyView := qX12_copyView_3 _ (List.mem_of_getElem? (i := 15) rfl)
theorem tX12_copyView_138 : (138, a_aload 0 139) ∈ kX12_copyView := qX12_copyView_3 _ (List.mem_of_getElem? (i := 16) rfl)
theorem tX12_copyView_139 : (139, a_getR 12 7 142) ∈ kX12_copyView := qX12_copyView_3 _ (List.mem_of_getElem? (i := 17) rfl)
theorem tX12_copyView_142 : (142, a_iload 1 143) ∈ kX12_copyView := qX12_copyView_3 _ (List.mem_of_getElem? (i := 18) rfl)
theorem tX12_copyView_143 : (143, a_iald 144) ∈ kX12_copyView := qX12_copyView_3 _ (List.mem_of_getElem? (i := 19) rfl)
theorem tX12_copyView_144 : (144, a_iast 145) ∈ kX12_copyView := qX12_copyView_3 _ (List.mem_of_getElem? (i := 20) rfl)
theorem tX12_copyView_145 : (145, a_aload 0 146) ∈ kX12_copyView := qX12_copyView_3 _ (List.mem_of_getElem? (i := 21) rfl)
theorem tX12_copyView_146 : (146, a_getR 12 5 149) ∈ kX12_copyView := qX12_copyView_3 _ (List.mem_of_getElem? (i := 22) rfl)
theorem tX12_copyView_149 : (149, a_iload 2 150) ∈ kX12_copyView := qX12_copyView_3 _ (List.mem_of_getElem? (i := 23) rfl)
theorem qX12_copyView_4 : ∀ q ∈ kX12_copyView_4, q ∈ kX12_copyView := fun _ h => (List.mem_append_right _ (List.mem_append_right _ (List.mem_append_right _ (List.mem_append_right _ h))))
theorem tX12_copyView_150 : (150, a_aload 0 151) ∈ kX12_copyView := qX12_copyView_4 _ (List.mem_of_getElem? (i := 0) rfl)
theorem tX12_copyView_151 : (151, a_getR 12 5 154) ∈ kX12_copyView := qX12_copyView_4 _ (List.mem_of_getElem? (i := 1) rfl)
theorem tX12_copyView_154 : (154, a_iload 1 155) ∈ kX12_copyView := qX12_copyView_4 _ (List.mem_of_getElem? (i := 2) rfl)
theorem tX12_copyView_155 : (155, a_iald 156) ∈ kX12_copyView := qX12_copyView_4 _ (List.mem_of_getElem? (i := 3) rfl)
theorem tX12_copyView_156 : (156, a_iast 157) ∈ kX12_copyView := qX12_copyView_4 _ (List.mem_of_getElem? (i := 4) rfl)
theorem tX12_copyView_157 : (157, a_vret) ∈ kX12_copyView := qX12_copyView_4 _ (List.mem_of_getElem? (i := 5) rfl)
theorem oX12_copyView : ∀ q ∈ kX12_copyView, zSnd zty false RX12 cX12_copyView 4 none false q := List.forall_mem_append.mpr ⟨oX12_copyView_0, List.forall_mem_append.mpr ⟨oX12_copyView_1, List.forall_mem_append.mpr ⟨oX12_copyView_2, List.forall_mem_append.mpr ⟨oX12_copyView_3, oX12_copyView_4⟩⟩⟩⟩
theorem dX12_reads_0 : decode cX12_reads 0 = .ok (.aload_n 0, 1) := by decide +kernel
theorem dX12_reads_1 : decode cX12_reads 1 = .ok (.iload_n 1, 1) := by decide +kernel
theorem dX12_reads_2 : decode cX12_reads 2 = .ok (.invokevirtual 129, 3) := by decide +kernel
theorem dX12_reads_5 : decode cX12_reads 5 = .ok (.bipush (-4), 2) := by decide +kernel
theorem dX12_reads_7 : decode cX12_reads 7 = .ok (.if_icmp .ne 23, 3) := by decide +kernel
theorem dX12_reads_10 : decode cX12_reads 10 = .ok (.aload_n 0, 1) := by decide +kernel
theorem dX12_reads_11 : decode cX12_reads 11 = .ok (.iconst 2, 1) := by decide +kernel
theorem dX12_reads_12 : decode cX12_reads 12 = .ok (.invokevirtual 132, 3) := by decide +kernel
theorem dX12_reads_15 : decode cX12_reads 15 = .ok (.bipush (-4), 2) := by decide +kernel
theorem dX12_reads_17 : decode cX12_reads 17 = .ok (.if_icmp .ne 13, 3) := by decide +kernel
theorem dX12_reads_20 : decode cX12_reads 20 = .ok (.aload_n 0, 1) := by decide +kernel
theorem dX12_reads_21 : decode cX12_reads 21 = .ok (.iconst 2, 1) := by decide +kernel
theorem dX12_reads_22 : decode cX12_reads 22 = .ok (.invokevirtual 135, 3) := by decide +kernel
theorem dX12_reads_25 : decode cX12_reads 25 = .ok (.bipush (-4), 2) := by decide +kernel
theorem dX12_reads_27 : decode cX12_reads 27 = .ok (.if_icmp .eq 5, 3) := by decide +kernel
theorem dX12_reads_30 : decode cX12_reads 30 = .ok (.iconst 0, 1) := by decide +kernel
theorem dX12_reads_31 : decode cX12_reads 31 = .ok (.ireturn, 1) := by decide +kernel
theorem dX12_reads_32 : decode cX12_reads 32 = .ok (.aload_n 0, 1) := by decide +kernel
theorem dX12_reads_33 : decode cX12_reads 33 = .ok (.iconst 2, 1) := by decide +kernel
theorem dX12_reads_34 : decode cX12_reads 34 = .ok (.invokevirtual 138, 3) := by decide +kernel
theorem dX12_reads_37 : decode cX12_reads 37 = .ok (.iconst 1, 1) := by decide +kernel
theorem dX12_reads_38 : decode cX12_reads 38 = .ok (.ireturn, 1) := by decide +kernel
def kX12_reads_0 : List (Nat × zT) := [(0, a_aload 0 1), (1, a_iload 1 2), (2, a_callV 12 142 2 5 0 0), (5, a_i (-4) 7), (7, a_ic_ne 30 10), (10, a_aload 0 11), (11, a_i 2 12), (12, a_callV 12 145 2 15 0 0), (15, a_i (-4) 17), (17, a_ic_ne 30 20), (20, a_aload 0 21), (21, a_i 2 22), (22, a_callV 12 146 2 25 0 0), (25, a_i (-4) 27), (27, a_ic_eq 32 30), (30, a_i 0 31), (31, a_iret true), (32, a_aload 0 33), (33, a_i 2 34), (34, a_callV 12 149 2 37 0 0), (37, a_i 1 38), (38, a_iret true)]
theorem oX12_reads_0 : ∀ q ∈ kX12_reads_0, zSnd zty false RX12 cX12_reads 2 (some .boolean) false q := List.forall_mem_cons.mpr ⟨ok_aload_n dX12_reads_0 rfl, List.forall_mem_cons.mpr ⟨ok_iload_n dX12_reads_1 rfl, List.forall_mem_cons.mpr ⟨ok_callV dX12_reads_2 rfl rfl w1097 w1094 w1096 w13 s22 (by decide +kernel) (by decide), List.forall_mem_cons.mpr ⟨ok_bipush dX12_reads_5 (by decide), List.forall_mem_cons.mpr ⟨ok_ic_ne dX12_reads_7 (by decide), List.forall_mem_cons.mpr ⟨ok_aload_n dX12_reads_10 rfl, List.forall_mem_cons.mpr ⟨ok_iconst dX12_reads_11 (by decide), List.forall_mem_cons.mpr ⟨ok_callV dX12_reads_12 rfl rfl w1108 w1105 w1107 w13 s23 (by decide +kernel) (by decide), List.forall_mem_cons.mpr ⟨ok_bipush dX12_reads_15 (by decide), List.forall_mem_cons.mpr ⟨ok_ic_ne dX12_reads_17 (by decide), List.forall_mem_cons.mpr ⟨ok_aload_n dX12_reads_20 rfl, List.forall_mem_cons.mpr ⟨ok_iconst dX12_reads_21 (by decide), List.forall_mem_cons.mpr ⟨ok_callV dX12_reads_22 rfl rfl w1120 w1117 w1119 w13 s26 (by decide +kernel) (by decide), List.forall_mem_cons.mpr ⟨ok_bipush dX12_reads_25 (by decide), List.forall_mem_cons.mpr ⟨ok_ic_eq dX12_reads_27 (by decide), List.forall_mem_cons.mpr ⟨ok_iconst dX12_reads_30 (by decide), List.forall_mem_cons.mpr ⟨ok_iret (bz := true) dX12_reads_31 rfl, List.forall_mem_cons.mpr ⟨ok_aload_n dX12_reads_32 rfl, List.forall_mem_cons.mpr ⟨ok_iconst dX12_reads_33 (by decide), List.forall_mem_cons.mpr ⟨ok_callV dX12_reads_34 rfl rfl w1132 w1129 w1131 w13 s28 (by decide +kernel) (by decide), List.forall_mem_cons.mpr ⟨ok_iconst dX12_reads_37 (by decide), List.forall_mem_cons.mpr ⟨ok_iret (bz := true) dX12_reads_38 rfl, fun _ h => absurd h List.not_mem_nil⟩⟩⟩⟩⟩⟩⟩⟩⟩⟩⟩⟩⟩⟩⟩⟩⟩⟩⟩⟩⟩⟩
def kX12_reads : List (Nat × zT) := kX12_reads_0
theorem qX12_reads_0 : ∀ q ∈ kX12_reads_0, q ∈ kX12_reads := fun _ h => h
theorem tX12_reads_0 : (0, a_aload 0 1) ∈ kX12_reads := qX12_reads_0 _ (List.mem_of_getElem? (i := 0) rfl)
theorem tX12_reads_1 : (1, a_iload 1 2) ∈ kX12_reads := qX12_reads_0 _ (List.mem_of_getElem? (i := 1) rfl)
theorem tX12_reads_2 : (2, a_callV 12 142 2 5 0 0) ∈ kX12_reads := qX12_reads_0 _ (List.mem_of_getElem? (i := 2) rfl)
theorem tX12_reads_5 : (5, a_i (-4) 7) ∈ kX12_reads := qX12_reads_0 _ (List.mem_of_getElem? (i := 3) rfl)
theorem tX12_reads_7 : (7, a_ic_ne 30 10) ∈ kX12_reads := qX12_reads_0 _ (List.mem_of_getElem? (i := 4) rfl)
theorem tX12_reads_10 : (10, a_aload 0 11) ∈ kX12_reads := qX12_reads_0 _ (List.mem_of_getElem? (i := 5) rfl)
theorem tX12_reads_11 : (11, a_i 2 12) ∈ kX12_reads := qX12_reads_0 _ (List.mem_of_getElem? (i := 6) rfl)
theorem tX12_reads_12 : (12, a_callV 12 145 2 15 0 0) ∈ kX12_reads := qX12_reads_0 _ (List.mem_of_getElem? (i := 7) rfl)
theorem tX12_reads_15 : (15, a_i (-4) 17) ∈ kX12_reads := qX12_reads_0 _ (List.mem_of_getElem? (i := 8) rfl)
theorem tX12_reads_17 : (17, a_ic_ne 30 20) ∈ kX12_reads := qX12_reads_0 _ (List.mem_of_getElem? (i := 9) rfl)
theorem tX12_reads_20 : (20, a_aload 0 21) ∈ kX12_reads := qX12_reads_0 _ (List.mem_of_getElem? (i := 10) rfl)
theorem tX12_reads_21 : (21, a_i 2 22) ∈ kX12_reads := qX12_reads_0 _ (List.mem_of_getElem? (i := 11) rfl)
theorem tX12_reads_22 : (22, a_callV 12 146 2 25 0 0) ∈ kX12_reads := qX12_reads_0 _ (List.mem_of_getElem? (i := 12) rfl)
theorem tX12_reads_25 : (25, a_i (-4) 27) ∈ kX12_reads := qX12_reads_0 _ (List.mem_of_getElem? (i := 13) rfl)
theorem tX12_reads_27 : (27, a_ic_eq 32 30) ∈ kX12_reads := qX12_reads_0 _ (List.mem_of_getElem? (i := 14) rfl)
theorem tX12_reads_30 : (30, a_i 0 31) ∈ kX12_reads := qX12_reads_0 _ (List.mem_of_getElem? (i := 15) rfl)
theorem tX12_reads_31 : (31, a_iret true) ∈ kX12_reads := qX12_reads_0 _ (List.mem_of_getElem? (i := 16) rfl)
theorem tX12_reads_32 : (32, a_aload 0 33) ∈ kX12_reads := qX12_reads_0 _ (List.mem_of_getElem? (i := 17) rfl)
theorem tX12_reads_33 : (33, a_i 2 34) ∈ kX12_reads := qX12_reads_0 _ (List.mem_of_getElem? (i := 18) rfl)
theorem tX12_reads_34 : (34, a_callV 12 149 2 37 0 0) ∈ kX12_reads := qX12_reads_0 _ (List.mem_of_getElem? (i := 19) rfl)
theorem tX12_reads_37 : (37, a_i 1 38) ∈ kX12_reads := qX12_reads_0 _ (List.mem_of_getElem? (i := 20) rfl)
theorem tX12_reads_38 : (38, a_iret true) ∈ kX12_reads := qX12_reads_0 _ (List.mem_of_getElem? (i := 21) rfl)
theorem oX12_reads : ∀ q ∈ kX12_reads, zSnd zty false RX12 cX12_reads 2 (some .boolean) false q := oX12_reads_0
theorem dX12_build_0 : decode cX12_build 0 = .ok (.iload_n 1, 1) := by decide +kernel
theorem dX12_build_1 : decode cX12_build 1 = .ok (.iconst 0, 1) := by decide +kernel
theorem dX12_build_2 : decode cX12_build 2 = .ok (.iconst 1, 1) := by decide +kernel
theorem dX12_build_3 : decode cX12_build 3 = .ok (.invokestatic 112, 3) := by decide +kernel
theorem dX12_build_6 : decode cX12_build 6 = .ok (.ifCond .ne 5, 3) := by decide +kernel
theorem dX12_build_9 : decode cX12_build 9 = .ok (.iconst (-1), 1) := by decide +kernel
theorem dX12_build_10 : decode cX12_build 10 = .ok (.ireturn, 1) := by decide +kernel
theorem dX12_build_11 : decode cX12_build 11 = .ok (.aload_n 0, 1) := by decide +kernel
theorem dX12_build_12 : decode cX12_build 12 = .ok (.iload_n 1, 1) := by decide +kernel
theorem dX12_build_13 : decode cX12_build 13 = .ok (.invokevirtual 142, 3) := by decide +kernel
theorem dX12_build_16 : decode cX12_build 16 = .ok (.ifCond .ne 6, 3) := by decide +kernel
theorem dX12_build_19 : decode cX12_build 19 = .ok (.bipush (-2), 2) := by decide +kernel
theorem dX12_build_21 : decode cX12_build 21 = .ok (.ireturn, 1) := by decide +kernel
theorem dX12_build_22 : decode cX12_build 22 = .ok (.aload_n 0, 1) := by decide +kernel
theorem dX12_build_23 : decode cX12_build 23 = .ok (.iconst 2, 1) := by decide +kernel
theorem dX12_build_24 : decode cX12_build 24 = .ok (.iload_n 1, 1) := by decide +kernel
theorem dX12_build_25 : decode cX12_build 25 = .ok (.invokevirtual 146, 3) := by decide +kernel
theorem dX12_build_28 : decode cX12_build 28 = .ok (.iload_n 1, 1) := by decide +kernel
theorem dX12_build_29 : decode cX12_build 29 = .ok (.ifCond .ne 28, 3) := by decide +kernel
theorem dX12_build_32 : decode cX12_build 32 = .ok (.iconst 0, 1) := by decide +kernel
theorem dX12_build_33 : decode cX12_build 33 = .ok (.istore_n 2, 1) := by decide +kernel
theorem dX12_build_34 : decode cX12_build 34 = .ok (.iload_n 2, 1) := by decide +kernel
theorem dX12_build_35 : decode cX12_build 35 = .ok (.iconst 4, 1) := by decide +kernel
theorem dX12_build_36 : decode cX12_build 36 = .ok (.if_icmp .ge 16, 3) := by decide +kernel
theorem dX12_build_39 : decode cX12_build 39 = .ok (.aload_n 0, 1) := by decide +kernel
theorem dX12_build_40 : decode cX12_build 40 = .ok (.getfield 34, 3) := by decide +kernel
theorem dX12_build_43 : decode cX12_build 43 = .ok (.iload_n 2, 1) := by decide +kernel
theorem dX12_build_44 : decode cX12_build 44 = .ok (.iconst 2, 1) := by decide +kernel
theorem dX12_build_45 : decode cX12_build 45 = .ok (.iastore, 1) := by decide +kernel
theorem dX12_build_46 : decode cX12_build 46 = .ok (.iinc 2 1, 3) := by decide +kernel
theorem dX12_build_49 : decode cX12_build 49 = .ok (.goto (-15), 3) := by decide +kernel
theorem dX12_build_52 : decode cX12_build 52 = .ok (.aload_n 0, 1) := by decide +kernel
theorem dX12_build_53 : decode cX12_build 53 = .ok (.iconst 0, 1) := by decide +kernel
theorem dX12_build_54 : decode cX12_build 54 = .ok (.putfield 150, 3) := by decide +kernel
theorem dX12_build_57 : decode cX12_build 57 = .ok (.aload_n 0, 1) := by decide +kernel
theorem dX12_build_58 : decode cX12_build 58 = .ok (.getfield 25, 3) := by decide +kernel
theorem dX12_build_61 : decode cX12_build 61 = .ok (.iload_n 1, 1) := by decide +kernel
theorem dX12_build_62 : decode cX12_build 62 = .ok (.iaload, 1) := by decide +kernel
theorem dX12_build_63 : decode cX12_build 63 = .ok (.ireturn, 1) := by decide +kernel
def kX12_build_0 : List (Nat × zT) := [(0, a_iload 1 1), (1, a_i 0 2), (2, a_i 1 3), (3, a_call 138 3 6 0 0), (6, a_if_ne 11 9), (9, a_i (-1) 10), (10, a_iret false), (11, a_aload 0 12), (12, a_iload 1 13), (13, a_callV 12 151 2 16 0 0), (16, a_if_ne 22 19), (19, a_i (-2) 21), (21, a_iret false), (22, a_aload 0 23), (23, a_i 2 24), (24, a_iload 1 25), (25, a_callV 12 150 3 28 0 0), (28, a_iload 1 29), (29, a_if_ne 57 32), (32, a_i 0 33), (33, a_istore 2 34), (34, a_iload 2 35), (35, a_i 4 36), (36, a_ic_ge 52 39)]
theorem oX12_build_0 : ∀ q ∈ kX12_build_0, zSnd zty false RX12 cX12_build 3 (some .int) false q := List.forall_mem_cons.mpr ⟨ok_iload_n dX12_build_0 rfl, List.forall_mem_cons.mpr ⟨ok_iconst dX12_build_1 (by decide), List.forall_mem_cons.mpr ⟨ok_iconst dX12_build_2 (by decide), List.forall_mem_cons.mpr ⟨ok_callS dX12_build_3 rfl w1084 w1082 w1083 w13 (by decide +kernel) (by decide), List.forall_mem_cons.mpr ⟨ok_if_ne dX12_build_6 (by decide), List.forall_mem_cons.mpr ⟨ok_iconst dX12_build_9 (by decide), List.forall_mem_cons.mpr ⟨ok_iret (bz := false) dX12_build_10 rfl, List.forall_mem_cons.mpr ⟨ok_aload_n dX12_build_11 rfl, List.forall_mem_cons.mpr ⟨ok_iload_n dX12_build_12 rfl, List.forall_mem_cons.mpr ⟨ok_callV dX12_build_13 rfl rfl w1128 w1125 w1127 w13 s27 (by decide +kernel) (by decide), List.forall_mem_cons.mpr ⟨ok_if_ne dX12_build_16 (by decide), List.forall_mem_cons.mpr ⟨ok_bipush dX12_build_19 (by decide), List.forall_mem_cons.mpr ⟨ok_iret (bz := false) dX12_build_21 rfl, List.forall_mem_cons.mpr ⟨ok_aload_n dX12_build_22 rfl, List.forall_mem_cons.mpr ⟨ok_iconst dX12_build_23 (by decide), List.forall_mem_cons.mpr ⟨ok_iload_n dX12_build_24 rfl, List.forall_mem_cons.mpr ⟨ok_callV dX12_build_25 rfl rfl w1136 w1133 w1135 w13 s29 (by decide +kernel) (by decide), List.forall_mem_cons.mpr ⟨ok_iload_n dX12_build_28 rfl, List.forall_mem_cons.mpr ⟨ok_if_ne dX12_build_29 (by decide), List.forall_mem_cons.mpr ⟨ok_iconst dX12_build_32 (by decide), List.forall_mem_cons.mpr ⟨ok_istore_n dX12_build_33 rfl (by decide), List.forall_mem_cons.mpr ⟨ok_iload_n dX12_build_34 rfl, List.forall_mem_cons.mpr ⟨ok_iconst dX12_build_35 (by decide), List.forall_mem_cons.mpr ⟨ok_ic_ge dX12_build_36 (by decide), fun _ h => absurd h List.not_mem_nil⟩⟩⟩⟩⟩⟩⟩⟩⟩⟩⟩⟩⟩⟩⟩⟩⟩⟩⟩⟩⟩⟩⟩⟩
def kX12_build_1 : List (Nat × zT) := [(39, a_aload 0 40), (40, a_getR 12 8 43), (43, a_iload 2 44), (44, a_i 2 45), (45, a_iast 46), (46, a_iinc 2 1 49), (49, a_goto 34), (52, a_aload 0 53), (53, a_i 0 54), (54, a_putI 12 12 57 false), (57, a_aload 0 58), (58, a_getR 12 5 61), (61, a_iload 1 62), (62, a_iald 63), (63, a_iret false)]
theorem oX12_build_1 : ∀ q ∈ kX12_build_1, zSnd zty false RX12 cX12_build 3 (some .int) false q := List.forall_mem_cons.mpr ⟨ok_aload_n dX12_build_39 rfl, List.forall_mem_cons.mpr ⟨ok_getR dX12_build_40 rfl in12 (by decide) rfl w965, List.forall_mem_cons.mpr ⟨ok_iload_n dX12_build_43 rfl, List.forall_mem_cons.mpr ⟨ok_iconst dX12_build_44 (by decide), List.forall_mem_cons.mpr ⟨ok_iast dX12_build_45, List.forall_mem_cons.mpr ⟨ok_iinc dX12_build_46 (by decide) (by decide), List.forall_mem_cons.mpr ⟨ok_goto dX12_build_49 (by decide), List.forall_mem_cons.mpr ⟨ok_aload_n dX12_build_52 rfl, List.forall_mem_cons.mpr ⟨ok_iconst dX12_build_53 (by decide), List.forall_mem_cons.mpr ⟨ok_putI (bz := false) dX12_build_54 rfl in12 tyX12 tyX12_ok nmX12 (by decide) rfl w969 rfl rfl, List.forall_mem_cons.mpr ⟨ok_aload_n dX12_build_57 rfl, List.forall_mem_cons.mpr ⟨ok_getR dX12_build_58 rfl in12 (by decide) rfl w962, List.forall_mem_cons.mpr ⟨ok_iload_n dX12_build_61 rfl, List.forall_mem_cons.mpr ⟨ok_iald dX12_build_62, List.forall_mem_cons.mpr ⟨ok_iret (bz := false) dX12_build_63 rfl, fun _ h => absurd h List.not_mem_nil⟩⟩⟩⟩⟩⟩⟩⟩⟩⟩⟩⟩⟩⟩⟩
def kX12_build : List (Nat × zT) := kX12_build_0 ++ (kX12_build_1)
theorem qX12_build_0 : ∀ q ∈ kX12_build_0, q ∈ kX12_build := fun _ h => (List.mem_append_left _ h)
theorem tX12_build_0 : (0, a_iload 1 1) ∈ kX12_build := qX12_build_0 _ (List.mem_of_getElem? (i := 0) rfl)
theorem tX12_build_1 : (1, a_i 0 2) ∈ kX12_build := qX12_build_0 _ (List.mem_of_getElem? (i := 1) rfl)
theorem tX12_build_2 : (2, a_i 1 3) ∈ kX12_build := qX12_build_0 _ (List.mem_of_getElem? (i := 2) rfl)
theorem tX12_build_3 : (3, a_call 138 3 6 0 0) ∈ kX12_build := qX12_build_0 _ (List.mem_of_getElem? (i := 3) rfl)
theorem tX12_build_6 : (6, a_if_ne 11 9) ∈ kX12_build := qX12_build_0 _ (List.mem_of_getElem? (i := 4) rfl)
theorem tX12_build_9 : (9, a_i (-1) 10) ∈ kX12_build := qX12_build_0 _ (List.mem_of_getElem? (i := 5) rfl)
theorem tX12_build_10 : (10, a_iret false) ∈ kX12_build := qX12_build_0 _ (List.mem_of_getElem? (i := 6) rfl)
theorem tX12_build_11 : (11, a_aload 0 12) ∈ kX12_build := qX12_build_0 _ (List.mem_of_getElem? (i := 7) rfl)
theorem tX12_build_12 : (12, a_iload 1 13) ∈ kX12_build := qX12_build_0 _ (List.mem_of_getElem? (i := 8) rfl)
theorem tX12_build_13 : (13, a_callV 12 151 2 16 0 0) ∈ kX12_build := qX12_build_0 _ (List.mem_of_getElem? (i := 9) rfl)
theorem tX12_build_16 : (16, a_if_ne 22 19) ∈ kX12_build := qX12_build_0 _ (List.mem_of_getElem? (i := 10) rfl)
theorem tX12_build_19 : (19, a_i (-2) 21) ∈ kX12_build := qX12_build_0 _ (List.mem_of_getElem? (i := 11) rfl)
theorem tX12_build_21 : (21, a_iret false) ∈ kX12_build := qX12_build_0 _ (List.mem_of_getElem? (i := 12) rfl)
theorem tX12_build_22 : (22, a_aload 0 23) ∈ kX12_build := qX12_build_0 _ (List.mem_of_getElem? (i := 13) rfl)
theorem tX12_build_23 : (23, a_i 2 24) ∈ kX12_build := qX12_build_0 _ (List.mem_of_getElem? (i := 14) rfl)
theorem tX12_build_24 : (24, a_iload 1 25) ∈ kX12_build := qX12_build_0 _ (List.mem_of_getElem? (i := 15) rfl)
theorem tX12_build_25 : (25, a_callV 12 150 3 28 0 0) ∈ kX12_build := qX12_build_0 _ (List.mem_of_getElem? (i := 16) rfl)
theorem tX12_build_28 : (28, a_iload 1 29) ∈ kX12_build := qX12_build_0 _ (List.mem_of_getElem? (i := 17) rfl)
theorem tX12_build_29 : (29, a_if_ne 57 32) ∈ kX12_build := qX12_build_0 _ (List.mem_of_getElem? (i := 18) rfl)
theorem tX12_build_32 : (32, a_i 0 33) ∈ kX12_build := qX12_build_0 _ (List.mem_of_getElem? (i := 19) rfl)
theorem tX12_build_33 : (33, a_istore 2 34) ∈ kX12_build := qX12_build_0 _ (List.mem_of_getElem? (i := 20) rfl)
theorem tX12_build_34 : (34, a_iload 2 35) ∈ kX12_build := qX12_build_0 _ (List.mem_of_getElem? (i := 21) rfl)
theorem tX12_build_35 : (35, a_i 4 36) ∈ kX12_build := qX12_build_0 _ (List.mem_of_getElem? (i := 22) rfl)
theorem tX12_build_36 : (36, a_ic_ge 52 39) ∈ kX12_build := qX12_build_0 _ (List.mem_of_getElem? (i := 23) rfl)
theorem qX12_build_1 : ∀ q ∈ kX12_build_1, q ∈ kX12_build := fun _ h => (List.mem_append_right _ h)
theorem tX12_build_39 : (39, a_aload 0 40) ∈ kX12_build := qX12_build_1 _ (List.mem_of_getElem? (i := 0) rfl)
theorem tX12_build_40 : (40, a_getR 12 8 43) ∈ kX12_build := qX12_build_1 _ (List.mem_of_getElem? (i := 1) rfl)
theorem tX12_build_43 : (43, a_iload 2 44) ∈ kX12_build := qX12_build_1 _ (List.mem_of_getElem? (i := 2) rfl)
theorem tX12_build_44 : (44, a_i 2 45) ∈ kX12_build := qX12_build_1 _ (List.mem_of_getElem? (i := 3) rfl)
theorem tX12_build_45 : (45, a_iast 46) ∈ kX12_build := qX12_build_1 _ (List.mem_of_getElem? (i := 4) rfl)
theorem tX12_build_46 : (46, a_iinc 2 1 49) ∈ kX12_build := qX12_build_1 _ (List.mem_of_getElem? (i := 5) rfl)
theorem tX12_build_49 : (49, a_goto 34) ∈ kX12_build := qX12_build_1 _ (List.mem_of_getElem? (i := 6) rfl)
theorem tX12_build_52 : (52, a_aload 0 53) ∈ kX12_build := qX12_build_1 _ (List.mem_of_getElem? (i := 7) rfl)
theorem tX12_build_53 : (53, a_i 0 54) ∈ kX12_build := qX12_build_1 _ (List.mem_of_getElem? (i := 8) rfl)
theorem tX12_build_54 : (54, a_putI 12 12 57 false) ∈ kX12_build := qX12_build_1 _ (List.mem_of_getElem? (i := 9) rfl)
theorem tX12_build_57 : (57, a_aload 0 58) ∈ kX12_build := qX12_build_1 _ (List.mem_of_getElem? (i := 10) rfl)
theorem tX12_build_58 : (58, a_getR 12 5 61) ∈ kX12_build := qX12_build_1 _ (List.mem_of_getElem? (i := 11) rfl)
theorem tX12_build_61 : (61, a_iload 1 62) ∈ kX12_build := qX12_build_1 _ (List.mem_of_getElem? (i := 12) rfl)
theorem tX12_build_62 : (62, a_iald 63) ∈ kX12_build := qX12_build_1 _ (List.mem_of_getElem? (i := 13) rfl)
theorem tX12_build_63 : (63, a_iret false) ∈ kX12_build := qX12_build_1 _ (List.mem_of_getElem? (i := 14) rfl)
theorem oX12_build : ∀ q ∈ kX12_build, zSnd zty false RX12 cX12_build 3 (some .int) false q := List.forall_mem_append.mpr ⟨oX12_build_0, oX12_build_1⟩
theorem dX12_has_0 : decode cX12_has 0 = .ok (.aload_n 0, 1) := by decide +kernel
theorem dX12_has_1 : decode cX12_has 1 = .ok (.getfield 22, 3) := by decide +kernel
theorem dX12_has_4 : decode cX12_has 4 = .ok (.bipush 19, 2) := by decide +kernel
theorem dX12_has_6 : decode cX12_has 6 = .ok (.iload_n 1, 1) := by decide +kernel
theorem dX12_has_7 : decode cX12_has 7 = .ok (.imul, 1) := by decide +kernel
theorem dX12_has_8 : decode cX12_has 8 = .ok (.iload_n 2, 1) := by decide +kernel
theorem dX12_has_9 : decode cX12_has 9 = .ok (.iadd, 1) := by decide +kernel
theorem dX12_has_10 : decode cX12_has 10 = .ok (.iaload, 1) := by decide +kernel
theorem dX12_has_11 : decode cX12_has 11 = .ok (.bipush (-4), 2) := by decide +kernel
theorem dX12_has_13 : decode cX12_has 13 = .ok (.if_icmp .eq 7, 3) := by decide +kernel
theorem dX12_has_16 : decode cX12_has 16 = .ok (.iconst 1, 1) := by decide +kernel
theorem dX12_has_17 : decode cX12_has 17 = .ok (.goto 4, 3) := by decide +kernel
theorem dX12_has_20 : decode cX12_has 20 = .ok (.iconst 0, 1) := by decide +kernel
theorem dX12_has_21 : decode cX12_has 21 = .ok (.ireturn, 1) := by decide +kernel
def kX12_has_0 : List (Nat × zT) := [(0, a_aload 0 1), (1, a_getR 12 4 4), (4, a_i 19 6), (6, a_iload 1 7), (7, a_ii (fun x y => x * y) 8), (8, a_iload 2 9), (9, a_ii (fun x y => x + y) 10), (10, a_iald 11), (11, a_i (-4) 13), (13, a_ic_eq 20 16), (16, a_i 1 17), (17, a_goto 21), (20, a_i 0 21), (21, a_iret true)]
theorem oX12_has_0 : ∀ q ∈ kX12_has_0, zSnd zty false RX12 cX12_has 3 (some .boolean) false q := List.forall_mem_cons.mpr ⟨ok_aload_n dX12_has_0 rfl, List.forall_mem_cons.mpr ⟨ok_getR dX12_has_1 rfl in12 (by decide) rfl w961, List.forall_mem_cons.mpr ⟨ok_bipush dX12_has_4 (by decide), List.forall_mem_cons.mpr ⟨ok_iload_n dX12_has_6 rfl, List.forall_mem_cons.mpr ⟨ok_imul dX12_has_7, List.forall_mem_cons.mpr ⟨ok_iload_n dX12_has_8 rfl, List.forall_mem_cons.mpr ⟨ok_iadd dX12_has_9, List.forall_mem_cons.mpr ⟨ok_iald dX12_has_10, List.forall_mem_cons.mpr ⟨ok_bipush dX12_has_11 (by decide), List.forall_mem_cons.mpr ⟨ok_ic_eq dX12_has_13 (by decide), List.forall_mem_cons.mpr ⟨ok_iconst dX12_has_16 (by decide), List.forall_mem_cons.mpr ⟨ok_goto dX12_has_17 (by decide), List.forall_mem_cons.mpr ⟨ok_iconst dX12_has_20 (by decide), List.forall_mem_cons.mpr ⟨ok_iret (bz := true) dX12_has_21 rfl, fun _ h => absurd h List.not_mem_nil⟩⟩⟩⟩⟩⟩⟩⟩⟩⟩⟩⟩⟩⟩
def kX12_has : List (Nat × zT) := kX12_has_0
theorem qX12_has_0 : ∀ q ∈ kX12_has_0, q ∈ kX12_has := fun _ h => h
theorem tX12_has_0 : (0, a_aload 0 1) ∈ kX12_has := qX12_has_0 _ (List.mem_of_getElem? (i := 0) rfl)
theorem tX12_has_1 : (1, a_getR 12 4 4) ∈ kX12_has := qX12_has_0 _ (List.mem_of_getElem? (i := 1) rfl)
theorem tX12_has_4 : (4, a_i 19 6) ∈ kX12_has := qX12_has_0 _ (List.mem_of_getElem? (i := 2) rfl)
theorem tX12_has_6 : (6, a_iload 1 7) ∈ kX12_has := qX12_has_0 _ (List.mem_of_getElem? (i := 3) rfl)
theorem tX12_has_7 : (7, a_ii (fun x y => x * y) 8) ∈ kX12_has := qX12_has_0 _ (List.mem_of_getElem? (i := 4) rfl)
theorem tX12_has_8 : (8, a_iload 2 9) ∈ kX12_has := qX12_has_0 _ (List.mem_of_getElem? (i := 5) rfl)
theorem tX12_has_9 : (9, a_ii (fun x y => x + y) 10) ∈ kX12_has := qX12_has_0 _ (List.mem_of_getElem? (i := 6) rfl)
theorem tX12_has_10 : (10, a_iald 11) ∈ kX12_has := qX12_has_0 _ (List.mem_of_getElem? (i := 7) rfl)
theorem tX12_has_11 : (11, a_i (-4) 13) ∈ kX12_has := qX12_has_0 _ (List.mem_of_getElem? (i := 8) rfl)
theorem tX12_has_13 : (13, a_ic_eq 20 16) ∈ kX12_has := qX12_has_0 _ (List.mem_of_getElem? (i := 9) rfl)
theorem tX12_has_16 : (16, a_i 1 17) ∈ kX12_has := qX12_has_0 _ (List.mem_of_getElem? (i := 10) rfl)
theorem tX12_has_17 : (17, a_goto 21) ∈ kX12_has := qX12_has_0 _ (List.mem_of_getElem? (i := 11) rfl)
theorem tX12_has_20 : (20, a_i 0 21) ∈ kX12_has := qX12_has_0 _ (List.mem_of_getElem? (i := 12) rfl)
theorem tX12_has_21 : (21, a_iret true) ∈ kX12_has := qX12_has_0 _ (List.mem_of_getElem? (i := 13) rfl)
theorem oX12_has : ∀ q ∈ kX12_has, zSnd zty false RX12 cX12_has 3 (some .boolean) false q := oX12_has_0
theorem dX12_uses_0 : decode cX12_uses 0 = .ok (.iconst 0, 1) := by decide +kernel
theorem dX12_uses_1 : decode cX12_uses 1 = .ok (.istore_n 3, 1) := by decide +kernel
theorem dX12_uses_2 : decode cX12_uses 2 = .ok (.bipush 6, 2) := by decide +kernel
theorem dX12_uses_4 : decode cX12_uses 4 = .ok (.istore 4, 2) := by decide +kernel
theorem dX12_uses_6 : decode cX12_uses 6 = .ok (.iload 4, 2) := by decide +kernel
theorem dX12_uses_8 : decode cX12_uses 8 = .ok (.bipush 19, 2) := by decide +kernel
theorem dX12_uses_10 : decode cX12_uses 10 = .ok (.if_icmp .ge 76, 3) := by decide +kernel
theorem dX12_uses_13 : decode cX12_uses 13 = .ok (.iconst 0, 1) := by decide +kernel
theorem dX12_uses_14 : decode cX12_uses 14 = .ok (.istore 5, 2) := by decide +kernel
theorem dX12_uses_16 : decode cX12_uses 16 = .ok (.iload 5, 2) := by decide +kernel
theorem dX12_uses_18 : decode cX12_uses 18 = .ok (.aload_n 0, 1) := by decide +kernel
theorem dX12_uses_19 : decode cX12_uses 19 = .ok (.getfield 22, 3) := by decide +kernel
theorem dX12_uses_22 : decode cX12_uses 22 = .ok (.bipush 19, 2) := by decide +kernel
theorem dX12_uses_24 : decode cX12_uses 24 = .ok (.iload_n 1, 1) := by decide +kernel
theorem dX12_uses_25 : decode cX12_uses 25 = .ok (.imul, 1) := by decide +kernel
theorem dX12_uses_26 : decode cX12_uses 26 = .ok (.iload 4, 2) := by decide +kernel
theorem dX12_uses_28 : decode cX12_uses 28 = .ok (.iadd, 1) := by decide +kernel
theorem dX12_uses_29 : decode cX12_uses 29 = .ok (.iaload, 1) := by decide +kernel
theorem dX12_uses_30 : decode cX12_uses 30 = .ok (.if_icmp .ge 50, 3) := by decide +kernel
theorem dX12_uses_33 : decode cX12_uses 33 = .ok (.iload_n 3, 1) := by decide +kernel
theorem dX12_uses_34 : decode cX12_uses 34 = .ok (.aload_n 0, 1) := by decide +kernel
theorem dX12_uses_35 : decode cX12_uses 35 = .ok (.getfield 16, 3) := by decide +kernel
theorem dX12_uses_38 : decode cX12_uses 38 = .ok (.sipush 200, 3) := by decide +kernel
theorem dX12_uses_41 : decode cX12_uses 41 = .ok (.iload_n 1, 1) := by decide +kernel
theorem dX12_uses_42 : decode cX12_uses 42 = .ok (.imul, 1) := by decide +kernel
theorem dX12_uses_43 : decode cX12_uses 43 = .ok (.aload_n 0, 1) := by decide +kernel
theorem dX12_uses_44 : decode cX12_uses 44 = .ok (.getfield 19, 3) := by decide +kernel
theorem dX12_uses_47 : decode cX12_uses 47 = .ok (.bipush 19, 2) := by decide +kernel
theorem dX12_uses_49 : decode cX12_uses 49 = .ok (.iload_n 1, 1) := by decide +kernel
theorem dX12_uses_50 : decode cX12_uses 50 = .ok (.imul, 1) := by decide +kernel
theorem dX12_uses_51 : decode cX12_uses 51 = .ok (.iload 4, 2) := by decide +kernel
theorem dX12_uses_53 : decode cX12_uses 53 = .ok (.iadd, 1) := by decide +kernel
theorem dX12_uses_54 : decode cX12_uses 54 = .ok (.iaload, 1) := by decide +kernel
theorem dX12_uses_55 : decode cX12_uses 55 = .ok (.iadd, 1) := by decide +kernel
theorem dX12_uses_56 : decode cX12_uses 56 = .ok (.iload 5, 2) := by decide +kernel
theorem dX12_uses_58 : decode cX12_uses 58 = .ok (.iadd, 1) := by decide +kernel
theorem dX12_uses_59 : decode cX12_uses 59 = .ok (.iaload, 1) := by decide +kernel
theorem dX12_uses_60 : decode cX12_uses 60 = .ok (.bipush 97, 2) := by decide +kernel
theorem dX12_uses_62 : decode cX12_uses 62 = .ok (.iload_n 2, 1) := by decide +kernel
theorem dX12_uses_63 : decode cX12_uses 63 = .ok (.iadd, 1) := by decide +kernel
theorem dX12_uses_64 : decode cX12_uses 64 = .ok (.if_icmp .ne 7, 3) := by decide +kernel
theorem dX12_uses_67 : decode cX12_uses 67 = .ok (.iconst 1, 1) := by decide +kernel
theorem dX12_uses_68 : decode cX12_uses 68 = .ok (.goto 4, 3) := by decide +kernel
theorem dX12_uses_71 : decode cX12_uses 71 = .ok (.iconst 0, 1) := by decide +kernel
theorem dX12_uses_72 : decode cX12_uses 72 = .ok (.iadd, 1) := by decide +kernel
theorem dX12_uses_73 : decode cX12_uses 73 = .ok (.istore_n 3, 1) := by decide +kernel
theorem dX12_uses_74 : decode cX12_uses 74 = .ok (.iinc 5 1, 3) := by decide +kernel
theorem dX12_uses_77 : decode cX12_uses 77 = .ok (.goto (-61), 3) := by decide +kernel
theorem dX12_uses_80 : decode cX12_uses 80 = .ok (.iinc 4 1, 3) := by decide +kernel
theorem dX12_uses_83 : decode cX12_uses 83 = .ok (.goto (-77), 3) := by decide +kernel
theorem dX12_uses_86 : decode cX12_uses 86 = .ok (.iload_n 3, 1) := by decide +kernel
theorem dX12_uses_87 : decode cX12_uses 87 = .ok (.ireturn, 1) := by decide +kernel
def kX12_uses_0 : List (Nat × zT) := [(0, a_i 0 1), (1, a_istore 3 2), (2, a_i 6 4), (4, a_istore 4 6), (6, a_iload 4 8), (8, a_i 19 10), (10, a_ic_ge 86 13), (13, a_i 0 14), (14, a_istore 5 16), (16, a_iload 5 18), (18, a_aload 0 19), (19, a_getR 12 4 22), (22, a_i 19 24), (24, a_iload 1 25), (25, a_ii (fun x y => x * y) 26), (26, a_iload 4 28), (28, a_ii (fun x y => x + y) 29), (29, a_iald 30), (30, a_ic_ge 80 33), (33, a_iload 3 34), (34, a_aload 0 35), (35, a_getR 12 2 38), (38, a_i 200 41), (41, a_iload 1 42)]
theorem oX12_uses_0 : ∀ q ∈ kX12_uses_0, zSnd zty false RX12 cX12_uses 6 (some .int) false q := List.forall_mem_cons.mpr ⟨ok_iconst dX12_uses_0 (by decide), List.forall_mem_cons.mpr ⟨ok_istore_n dX12_uses_1 rfl (by decide), List.forall_mem_cons.mpr ⟨ok_bipush dX12_uses_2 (by decide), List.forall_mem_cons.mpr ⟨ok_istore dX12_uses_4 (by decide), List.forall_mem_cons.mpr ⟨ok_iload dX12_uses_6, List.forall_mem_cons.mpr ⟨ok_bipush dX12_uses_8 (by decide), List.forall_mem_cons.mpr ⟨ok_ic_ge dX12_uses_10 (by decide), List.forall_mem_cons.mpr ⟨ok_iconst dX12_uses_13 (by decide), List.forall_mem_cons.mpr ⟨ok_istore dX12_uses_14 (by decide), List.forall_mem_cons.mpr ⟨ok_iload dX12_uses_16, List.forall_mem_cons.mpr ⟨ok_aload_n dX12_uses_18 rfl, List.forall_mem_cons.mpr ⟨ok_getR dX12_uses_19 rfl in12 (by decide) rfl w961, List.forall_mem_cons.mpr ⟨ok_bipush dX12_uses_22 (by decide), List.forall_mem_cons.mpr ⟨ok_iload_n dX12_uses_24 rfl, List.forall_mem_cons.mpr ⟨ok_imul dX12_uses_25, List.forall_mem_cons.mpr ⟨ok_iload dX12_uses_26, List.forall_mem_cons.mpr ⟨ok_iadd dX12_uses_28, List.forall_mem_cons.mpr ⟨ok_iald dX12_uses_29, List.forall_mem_cons.mpr ⟨ok_ic_ge dX12_uses_30 (by decide), List.forall_mem_cons.mpr ⟨ok_iload_n dX12_uses_33 rfl, List.forall_mem_cons.mpr ⟨ok_aload_n dX12_uses_34 rfl, List.forall_mem_cons.mpr ⟨ok_getR dX12_uses_35 rfl in12 (by decide) rfl w959, List.forall_mem_cons.mpr ⟨ok_sipush dX12_uses_38 (by decide), List.forall_mem_cons.mpr ⟨ok_iload_n dX12_uses_41 rfl, fun _ h => absurd h List.not_mem_nil⟩⟩⟩⟩⟩⟩⟩⟩⟩⟩⟩⟩⟩⟩⟩⟩⟩⟩⟩⟩⟩⟩⟩⟩
def kX12_uses_1 : List (Nat × zT) := [(42, a_ii (fun x y => x * y) 43), (43, a_aload 0 44), (44, a_getR 12 3 47), (47, a_i 19 49), (49, a_iload 1 50), (50, a_ii (fun x y => x * y) 51), (51, a_iload 4 53), (53, a_ii (fun x y => x + y) 54), (54, a_iald 55), (55, a_ii (fun x y => x + y) 56), (56, a_iload 5 58), (58, a_ii (fun x y => x + y) 59), (59, a_iald 60), (60, a_i 97 62), (62, a_iload 2 63), (63, a_ii (fun x y => x + y) 64), (64, a_ic_ne 71 67), (67, a_i 1 68), (68, a_goto 72), (71, a_i 0 72), (72, a_ii (fun x y => x + y) 73), (73, a_istore 3 74), (74, a_iinc 5 1 77), (77, a_goto 16)]
theorem oX12_uses_1 : ∀ q ∈ kX12_uses_1, zSnd zty false RX12 cX12_uses 6 (some .int) false q := List.forall_mem_cons.mpr ⟨ok_imul dX12_uses_42, List.forall_mem_cons.mpr ⟨ok_aload_n dX12_uses_43 rfl, List.forall_mem_cons.mpr ⟨ok_getR dX12_uses_44 rfl in12 (by decide) rfl w960, List.forall_mem_cons.mpr ⟨ok_bipush dX12_uses_47 (by decide), List.forall_mem_cons.mpr ⟨ok_iload_n dX12_uses_49 rfl, List.forall_mem_cons.mpr ⟨ok_imul dX12_uses_50, List.forall_mem_cons.mpr ⟨ok_iload dX12_uses_51, List.forall_mem_cons.mpr ⟨ok_iadd dX12_uses_53, List.forall_mem_cons.mpr ⟨ok_iald dX12_uses_54, List.forall_mem_cons.mpr ⟨ok_iadd dX12_uses_55, List.forall_mem_cons.mpr ⟨ok_iload dX12_uses_56, List.forall_mem_cons.mpr ⟨ok_iadd dX12_uses_58, List.forall_mem_cons.mpr ⟨ok_iald dX12_uses_59, List.forall_mem_cons.mpr ⟨ok_bipush dX12_uses_60 (by decide), List.forall_mem_cons.mpr ⟨ok_iload_n dX12_uses_62 rfl, List.forall_mem_cons.mpr ⟨ok_iadd dX12_uses_63, List.forall_mem_cons.mpr ⟨ok_ic_ne dX12_uses_64 (by decide), List.forall_mem_cons.mpr ⟨ok_iconst dX12_uses_67 (by decide), List.forall_mem_cons.mpr ⟨ok_goto dX12_uses_68 (by decide), List.forall_mem_cons.mpr ⟨ok_iconst dX12_uses_71 (by decide), List.forall_mem_cons.mpr ⟨ok_iadd dX12_uses_72, List.forall_mem_cons.mpr ⟨ok_istore_n dX12_uses_73 rfl (by decide), List.forall_mem_cons.mpr ⟨ok_iinc dX12_uses_74 (by decide) (by decide), List.forall_mem_cons.mpr ⟨ok_goto dX12_uses_77 (by decide), fun _ h => absurd h List.not_mem_nil⟩⟩⟩⟩⟩⟩⟩⟩⟩⟩⟩⟩⟩⟩⟩⟩⟩⟩⟩⟩⟩⟩⟩⟩
def kX12_uses_2 : List (Nat × zT) := [(80, a_iinc 4 1 83), (83, a_goto 6), (86, a_iload 3 87), (87, a_iret false)]
theorem oX12_uses_2 : ∀ q ∈ kX12_uses_2, zSnd zty false RX12 cX12_uses 6 (some .int) false q := List.forall_mem_cons.mpr ⟨ok_iinc dX12_uses_80 (by decide) (by decide), List.forall_mem_cons.mpr ⟨ok_goto dX12_uses_83 (by decide), List.forall_mem_cons.mpr ⟨ok_iload_n dX12_uses_86 rfl, List.forall_mem_cons.mpr ⟨ok_iret (bz := false) dX12_uses_87 rfl, fun _ h => absurd h List.not_mem_nil⟩⟩⟩⟩
def kX12_uses : List (Nat × zT) := kX12_uses_0 ++ (kX12_uses_1 ++ (kX12_uses_2))
theorem qX12_uses_0 : ∀ q ∈ kX12_uses_0, q ∈ kX12_uses := fun _ h => (List.mem_append_left _ h)
theorem tX12_uses_0 : (0, a_i 0 1) ∈ kX12_uses := qX12_uses_0 _ (List.mem_of_getElem? (i := 0) rfl)
theorem tX12_uses_1 : (1, a_istore 3 2) ∈ kX12_uses := qX12_uses_0 _ (List.mem_of_getElem? (i := 1) rfl)
theorem tX12_uses_2 : (2, a_i 6 4) ∈ kX12_uses := qX12_uses_0 _ (List.mem_of_getElem? (i := 2) rfl)
theorem tX12_uses_4 : (4, a_istore 4 6) ∈ kX12_uses := qX12_uses_0 _ (List.mem_of_getElem? (i := 3) rfl)
theorem tX12_uses_6 : (6, a_iload 4 8) ∈ kX12_uses := qX12_uses_0 _ (List.mem_of_getElem? (i := 4) rfl)
theorem tX12_uses_8 : (8, a_i 19 10) ∈ kX12_uses := qX12_uses_0 _ (List.mem_of_getElem? (i := 5) rfl)
theorem tX12_uses_10 : (10, a_ic_ge 86 13) ∈ kX12_uses := qX12_uses_0 _ (List.mem_of_getElem? (i := 6) rfl)
theorem tX12_uses_13 : (13, a_i 0 14) ∈ kX12_uses := qX12_uses_0 _ (List.mem_of_getElem? (i := 7) rfl)
theorem tX12_uses_14 : (14, a_istore 5 16) ∈ kX12_uses := qX12_uses_0 _ (List.mem_of_getElem? (i := 8) rfl)
theorem tX12_uses_16 : (16, a_iload 5 18) ∈ kX12_uses := qX12_uses_0 _ (List.mem_of_getElem? (i := 9) rfl)
theorem tX12_uses_18 : (18, a_aload 0 19) ∈ kX12_uses := qX12_uses_0 _ (List.mem_of_getElem? (i := 10) rfl)
theorem tX12_uses_19 : (19, a_getR 12 4 22) ∈ kX12_uses := qX12_uses_0 _ (List.mem_of_getElem? (i := 11) rfl)
theorem tX12_uses_22 : (22, a_i 19 24) ∈ kX12_uses := qX12_uses_0 _ (List.mem_of_getElem? (i := 12) rfl)
theorem tX12_uses_24 : (24, a_iload 1 25) ∈ kX12_uses := qX12_uses_0 _ (List.mem_of_getElem? (i := 13) rfl)
theorem tX12_uses_25 : (25, a_ii (fun x y => x * y) 26) ∈ kX12_uses := qX12_uses_0 _ (List.mem_of_getElem? (i := 14) rfl)
theorem tX12_uses_26 : (26, a_iload 4 28) ∈ kX12_uses := qX12_uses_0 _ (List.mem_of_getElem? (i := 15) rfl)
theorem tX12_uses_28 : (28, a_ii (fun x y => x + y) 29) ∈ kX12_uses := qX12_uses_0 _ (List.mem_of_getElem? (i := 16) rfl)
theorem tX12_uses_29 : (29, a_iald 30) ∈ kX12_uses := qX12_uses_0 _ (List.mem_of_getElem? (i := 17) rfl)
theorem tX12_uses_30 : (30, a_ic_ge 80 33) ∈ kX12_uses := qX12_uses_0 _ (List.mem_of_getElem? (i := 18) rfl)
theorem tX12_uses_33 : (33, a_iload 3 34) ∈ kX12_uses := qX12_uses_0 _ (List.mem_of_getElem? (i := 19) rfl)
theorem tX12_uses_34 : (34, a_aload 0 35) ∈ kX12_uses := qX12_uses_0 _ (List.mem_of_getElem? (i := 20) rfl)
theorem tX12_uses_35 : (35, a_getR 12 2 38) ∈ kX12_uses := qX12_uses_0 _ (List.mem_of_getElem? (i := 21) rfl)
theorem tX12_uses_38 : (38, a_i 200 41) ∈ kX12_uses := qX12_uses_0 _ (List.mem_of_getElem? (i := 22) rfl)
theorem tX12_uses_41 : (41, a_iload 1 42) ∈ kX12_uses := qX12_uses_0 _ (List.mem_of_getElem? (i := 23) rfl)
theorem qX12_uses_1 : ∀ q ∈ kX12_uses_1, q ∈ kX12_uses := fun _ h => (List.mem_append_right _ (List.mem_append_left _ h))
theorem tX12_uses_42 : (42, a_ii (fun x y => x * y) 43) ∈ kX12_uses := qX12_uses_1 _ (List.mem_of_getElem? (i := 0) rfl)
theorem tX12_uses_43 : (43, a_aload 0 44) ∈ kX12_uses := qX12_uses_1 _ (List.mem_of_getElem? (i := 1) rfl)
theorem tX12_uses_44 : (44, a_getR 12 3 47) ∈ kX12_uses := qX12_uses_1 _ (List.mem_of_getElem? (i := 2) rfl)
theorem tX12_uses_47 : (47, a_i 19 49) ∈ kX12_uses := qX12_uses_1 _ (List.mem_of_getElem? (i := 3) rfl)
theorem tX12_uses_49 : (49, a_iload 1 50) ∈ kX12_uses := qX12_uses_1 _ (List.mem_of_getElem? (i := 4) rfl)
theorem tX12_uses_50 : (50, a_ii (fun x y => x * y) 51) ∈ kX12_uses := qX12_uses_1 _ (List.mem_of_getElem? (i := 5) rfl)
theorem tX12_uses_51 : (51, a_iload 4 53) ∈ kX12_uses := qX12_uses_1 _ (List.mem_of_getElem? (i := 6) rfl)
theorem tX12_uses_53 : (53, a_ii (fun x y => x + y) 54) ∈ kX12_uses := qX12_uses_1 _ (List.mem_of_getElem? (i := 7) rfl)
theorem tX12_uses_54 : (54, a_iald 55) ∈ kX12_uses := qX12_uses_1 _ (List.mem_of_getElem? (i := 8) rfl)
theorem tX12_uses_55 : (55, a_ii (fun x y => x + y) 56) ∈ kX12_uses := qX12_uses_1 _ (List.mem_of_getElem? (i := 9) rfl)
theorem tX12_uses_56 : (56, a_iload 5 58) ∈ kX12_uses := qX12_uses_1 _ (List.mem_of_getElem? (i := 10) rfl)
theorem tX12_uses_58 : (58, a_ii (fun x y => x + y) 59) ∈ kX12_uses := qX12_uses_1 _ (List.mem_of_getElem? (i := 11) rfl)
theorem tX12_uses_59 : (59, a_iald 60) ∈ kX12_uses := qX12_uses_1 _ (List.mem_of_getElem? (i := 12) rfl)
theorem tX12_uses_60 : (60, a_i 97 62) ∈ kX12_uses := qX12_uses_1 _ (List.mem_of_getElem? (i := 13) rfl)
theorem tX12_uses_62 : (62, a_iload 2 63) ∈ kX12_uses := qX12_uses_1 _ (List.mem_of_getElem? (i := 14) rfl)
theorem tX12_uses_63 : (63, a_ii (fun x y => x + y) 64) ∈ kX12_uses := qX12_uses_1 _ (List.mem_of_getElem? (i := 15) rfl)
theorem tX12_uses_64 : (64, a_ic_ne 71 67) ∈ kX12_uses := qX12_uses_1 _ (List.mem_of_getElem? (i := 16) rfl)
theorem tX12_uses_67 : (67, a_i 1 68) ∈ kX12_uses := qX12_uses_1 _ (List.mem_of_getElem? (i := 17) rfl)
theorem tX12_uses_68 : (68, a_goto 72) ∈ kX12_uses := qX12_uses_1 _ (List.mem_of_getElem? (i := 18) rfl)
theorem tX12_uses_71 : (71, a_i 0 72) ∈ kX12_uses := qX12_uses_1 _ (List.mem_of_getElem? (i := 19) rfl)
theorem tX12_uses_72 : (72, a_ii (fun x y => x + y) 73) ∈ kX12_uses := qX12_uses_1 _ (List.mem_of_getElem? (i := 20) rfl)
theorem tX12_uses_73 : (73, a_istore 3 74) ∈ kX12_uses := qX12_uses_1 _ (List.mem_of_getElem? (i := 21) rfl)
theorem tX12_uses_74 : (74, a_iinc 5 1 77) ∈ kX12_uses := qX12_uses_1 _ (List.mem_of_getElem? (i := 22) rfl)
theorem tX12_uses_77 : (77, a_goto 16) ∈ kX12_uses := qX12_uses_1 _ (List.mem_of_getElem? (i := 23) rfl)
theorem qX12_uses_2 : ∀ q ∈ kX12_uses_2, q ∈ kX12_uses := fun _ h => (List.mem_append_right _ (List.mem_append_right _ h))
theorem tX12_uses_80 : (80, a_iinc 4 1 83) ∈ kX12_uses := qX12_uses_2 _ (List.mem_of_getElem? (i := 0) rfl)
theorem tX12_uses_83 : (83, a_goto 6) ∈ kX12_uses := qX12_uses_2 _ (List.mem_of_getElem? (i := 1) rfl)
theorem tX12_uses_86 : (86, a_iload 3 87) ∈ kX12_uses := qX12_uses_2 _ (List.mem_of_getElem? (i := 2) rfl)
theorem tX12_uses_87 : (87, a_iret false) ∈ kX12_uses := qX12_uses_2 _ (List.mem_of_getElem? (i := 3) rfl)
theorem oX12_uses : ∀ q ∈ kX12_uses, zSnd zty false RX12 cX12_uses 6 (some .int) false q := List.forall_mem_append.mpr ⟨oX12_uses_0, List.forall_mem_append.mpr ⟨oX12_uses_1, oX12_uses_2⟩⟩
theorem dX12_line_0 : decode cX12_line 0 = .ok (.iload_n 1, 1) := by decide +kernel
theorem dX12_line_1 : decode cX12_line 1 = .ok (.iconst 0, 1) := by decide +kernel
theorem dX12_line_2 : decode cX12_line 2 = .ok (.iconst 1, 1) := by decide +kernel
theorem dX12_line_3 : decode cX12_line 3 = .ok (.invokestatic 112, 3) := by decide +kernel
theorem dX12_line_6 : decode cX12_line 6 = .ok (.ifCond .eq 23, 3) := by decide +kernel
theorem dX12_line_9 : decode cX12_line 9 = .ok (.iload_n 2, 1) := by decide +kernel
theorem dX12_line_10 : decode cX12_line 10 = .ok (.bipush 6, 2) := by decide +kernel
theorem dX12_line_12 : decode cX12_line 12 = .ok (.bipush 18, 2) := by decide +kernel
theorem dX12_line_14 : decode cX12_line 14 = .ok (.invokestatic 112, 3) := by decide +kernel
theorem dX12_line_17 : decode cX12_line 17 = .ok (.ifCond .eq 12, 3) := by decide +kernel
theorem dX12_line_20 : decode cX12_line 20 = .ok (.iload_n 3, 1) := by decide +kernel
theorem dX12_line_21 : decode cX12_line 21 = .ok (.iconst 0, 1) := by decide +kernel
theorem dX12_line_22 : decode cX12_line 22 = .ok (.iconst 2, 1) := by decide +kernel
theorem dX12_line_23 : decode cX12_line 23 = .ok (.invokestatic 112, 3) := by decide +kernel
theorem dX12_line_26 : decode cX12_line 26 = .ok (.ifCond .ne 5, 3) := by decide +kernel
theorem dX12_line_29 : decode cX12_line 29 = .ok (.iconst (-1), 1) := by decide +kernel
theorem dX12_line_30 : decode cX12_line 30 = .ok (.ireturn, 1) := by decide +kernel
theorem dX12_line_31 : decode cX12_line 31 = .ok (.aload_n 0, 1) := by decide +kernel
theorem dX12_line_32 : decode cX12_line 32 = .ok (.iload_n 1, 1) := by decide +kernel
theorem dX12_line_33 : decode cX12_line 33 = .ok (.iload_n 2, 1) := by decide +kernel
theorem dX12_line_34 : decode cX12_line 34 = .ok (.invokevirtual 153, 3) := by decide +kernel
theorem dX12_line_37 : decode cX12_line 37 = .ok (.ifCond .ne 6, 3) := by decide +kernel
theorem dX12_line_40 : decode cX12_line 40 = .ok (.bipush (-4), 2) := by decide +kernel
theorem dX12_line_42 : decode cX12_line 42 = .ok (.ireturn, 1) := by decide +kernel
theorem dX12_line_43 : decode cX12_line 43 = .ok (.iload_n 3, 1) := by decide +kernel
theorem dX12_line_44 : decode cX12_line 44 = .ok (.ifCond .ne 17, 3) := by decide +kernel
theorem dX12_line_47 : decode cX12_line 47 = .ok (.aload_n 0, 1) := by decide +kernel
theorem dX12_line_48 : decode cX12_line 48 = .ok (.getfield 22, 3) := by decide +kernel
theorem dX12_line_51 : decode cX12_line 51 = .ok (.bipush 19, 2) := by decide +kernel
theorem dX12_line_53 : decode cX12_line 53 = .ok (.iload_n 1, 1) := by decide +kernel
theorem dX12_line_54 : decode cX12_line 54 = .ok (.imul, 1) := by decide +kernel
theorem dX12_line_55 : decode cX12_line 55 = .ok (.iload_n 2, 1) := by decide +kernel
theorem dX12_line_56 : decode cX12_line 56 = .ok (.iadd, 1) := by decide +kernel
theorem dX12_line_57 : decode cX12_line 57 = .ok (.iaload, 1) := by decide +kernel
theorem dX12_line_58 : decode cX12_line 58 = .ok (.goto 23, 3) := by decide +kernel
theorem dX12_line_61 : decode cX12_line 61 = .ok (.iload_n 3, 1) := by decide +kernel
theorem dX12_line_62 : decode cX12_line 62 = .ok (.iconst 1, 1) := by decide +kernel
theorem dX12_line_63 : decode cX12_line 63 = .ok (.if_icmp .ne 12, 3) := by decide +kernel
theorem dX12_line_66 : decode cX12_line 66 = .ok (.aload_n 0, 1) := by decide +kernel
theorem dX12_line_67 : decode cX12_line 67 = .ok (.iload_n 1, 1) := by decide +kernel
theorem dX12_line_68 : decode cX12_line 68 = .ok (.iload_n 2, 1) := by decide +kernel
theorem dX12_line_69 : decode cX12_line 69 = .ok (.invokevirtual 126, 3) := by decide +kernel
theorem dX12_line_72 : decode cX12_line 72 = .ok (.goto 9, 3) := by decide +kernel
theorem dX12_line_75 : decode cX12_line 75 = .ok (.aload_n 0, 1) := by decide +kernel
theorem dX12_line_76 : decode cX12_line 76 = .ok (.iload_n 1, 1) := by decide +kernel
theorem dX12_line_77 : decode cX12_line 77 = .ok (.iload_n 2, 1) := by decide +kernel
theorem dX12_line_78 : decode cX12_line 78 = .ok (.invokevirtual 157, 3) := by decide +kernel
theorem dX12_line_81 : decode cX12_line 81 = .ok (.ireturn, 1) := by decide +kernel
def kX12_line_0 : List (Nat × zT) := [(0, a_iload 1 1), (1, a_i 0 2), (2, a_i 1 3), (3, a_call 138 3 6 0 0), (6, a_if_eq 29 9), (9, a_iload 2 10), (10, a_i 6 12), (12, a_i 18 14), (14, a_call 138 3 17 0 0), (17, a_if_eq 29 20), (20, a_iload 3 21), (21, a_i 0 22), (22, a_i 2 23), (23, a_call 138 3 26 0 0), (26, a_if_ne 31 29), (29, a_i (-1) 30), (30, a_iret false), (31, a_aload 0 32), (32, a_iload 1 33), (33, a_iload 2 34), (34, a_callV 12 153 3 37 0 0), (37, a_if_ne 43 40), (40, a_i (-4) 42), (42, a_iret false)]
theorem oX12_line_0 : ∀ q ∈ kX12_line_0, zSnd zty false RX12 cX12_line 4 (some .int) false q := List.forall_mem_cons.mpr ⟨ok_iload_n dX12_line_0 rfl, List.forall_mem_cons.mpr ⟨ok_iconst dX12_line_1 (by decide), List.forall_mem_cons.mpr ⟨ok_iconst dX12_line_2 (by decide), List.forall_mem_cons.mpr ⟨ok_callS dX12_line_3 rfl w1084 w1082 w1083 w13 (by decide +kernel) (by decide), List.forall_mem_cons.mpr ⟨ok_if_eq dX12_line_6 (by decide), List.forall_mem_cons.mpr ⟨ok_iload_n dX12_line_9 rfl, List.forall_mem_cons.mpr ⟨ok_bipush dX12_line_10 (by decide), List.forall_mem_cons.mpr ⟨ok_bipush dX12_line_12 (by decide), List.forall_mem_cons.mpr ⟨ok_callS dX12_line_14 rfl w1084 w1082 w1083 w13 (by decide +kernel) (by decide), List.forall_mem_cons.mpr ⟨ok_if_eq dX12_line_17 (by decide), List.forall_mem_cons.mpr ⟨ok_iload_n dX12_line_20 rfl, List.forall_mem_cons.mpr ⟨ok_iconst dX12_line_21 (by decide), List.forall_mem_cons.mpr ⟨ok_iconst dX12_line_22 (by decide), List.forall_mem_cons.mpr ⟨ok_callS dX12_line_23 rfl w1084 w1082 w1083 w13 (by decide +kernel) (by decide), List.forall_mem_cons.mpr ⟨ok_if_ne dX12_line_26 (by decide), List.forall_mem_cons.mpr ⟨ok_iconst dX12_line_29 (by decide), List.forall_mem_cons.mpr ⟨ok_iret (bz := false) dX12_line_30 rfl, List.forall_mem_cons.mpr ⟨ok_aload_n dX12_line_31 rfl, List.forall_mem_cons.mpr ⟨ok_iload_n dX12_line_32 rfl, List.forall_mem_cons.mpr ⟨ok_iload_n dX12_line_33 rfl, List.forall_mem_cons.mpr ⟨ok_callV dX12_line_34 rfl rfl w1144 w1141 w1143 w13 s30 (by decide +kernel) (by decide), List.forall_mem_cons.mpr ⟨ok_if_ne dX12_line_37 (by decide), List.forall_mem_cons.mpr ⟨ok_bipush dX12_line_40 (by decide), List.forall_mem_cons.mpr ⟨ok_iret (bz := false) dX12_line_42 rfl, fun _ h => absurd h List.not_mem_nil⟩⟩⟩⟩⟩⟩⟩⟩⟩⟩⟩⟩⟩⟩⟩⟩⟩⟩⟩⟩⟩⟩⟩⟩
def kX12_line_1 : List (Nat × zT) := [(43, a_iload 3 44), (44, a_if_ne 61 47), (47, a_aload 0 48), (48, a_getR 12 4 51), (51, a_i 19 53), (53, a_iload 1 54), (54, a_ii (fun x y => x * y) 55), (55, a_iload 2 56), (56, a_ii (fun x y => x + y) 57), (57, a_iald 58), (58, a_goto 81), (61, a_iload 3 62), (62, a_i 1 63), (63, a_ic_ne 75 66), (66, a_aload 0 67), (67, a_iload 1 68), (68, a_iload 2 69), (69, a_callV 12 144 3 72 0 0), (72, a_goto 81), (75, a_aload 0 76), (76, a_iload 1 77), (77, a_iload 2 78), (78, a_callV 12 154 3 81 0 0), (81, a_iret false)]
theorem oX12_line_1 : ∀ q ∈ kX12_line_1, zSnd zty false RX12 cX12_line 4 (some .int) false q := List.forall_mem_cons.mpr ⟨ok_iload_n dX12_line_43 rfl, List.forall_mem_cons.mpr ⟨ok_if_ne dX12_line_44 (by decide), List.forall_mem_cons.mpr ⟨ok_aload_n dX12_line_47 rfl, List.forall_mem_cons.mpr ⟨ok_getR dX12_line_48 rfl in12 (by decide) rfl w961, List.forall_mem_cons.mpr ⟨ok_bipush dX12_line_51 (by decide), List.forall_mem_cons.mpr ⟨ok_iload_n dX12_line_53 rfl, List.forall_mem_cons.mpr ⟨ok_imul dX12_line_54, List.forall_mem_cons.mpr ⟨ok_iload_n dX12_line_55 rfl, List.forall_mem_cons.mpr ⟨ok_iadd dX12_line_56, List.forall_mem_cons.mpr ⟨ok_iald dX12_line_57, List.forall_mem_cons.mpr ⟨ok_goto dX12_line_58 (by decide), List.forall_mem_cons.mpr ⟨ok_iload_n dX12_line_61 rfl, List.forall_mem_cons.mpr ⟨ok_iconst dX12_line_62 (by decide), List.forall_mem_cons.mpr ⟨ok_ic_ne dX12_line_63 (by decide), List.forall_mem_cons.mpr ⟨ok_aload_n dX12_line_66 rfl, List.forall_mem_cons.mpr ⟨ok_iload_n dX12_line_67 rfl, List.forall_mem_cons.mpr ⟨ok_iload_n dX12_line_68 rfl, List.forall_mem_cons.mpr ⟨ok_callV dX12_line_69 rfl rfl w1112 w1109 w1111 w13 s24 (by decide +kernel) (by decide), List.forall_mem_cons.mpr ⟨ok_goto dX12_line_72 (by decide), List.forall_mem_cons.mpr ⟨ok_aload_n dX12_line_75 rfl, List.forall_mem_cons.mpr ⟨ok_iload_n dX12_line_76 rfl, List.forall_mem_cons.mpr ⟨ok_iload_n dX12_line_77 rfl, List.forall_mem_cons.mpr ⟨ok_callV dX12_line_78 rfl rfl w1148 w1145 w1147 w13 s31 (by decide +kernel) (by decide), List.forall_mem_cons.mpr ⟨ok_iret (bz := false) dX12_line_81 rfl, fun _ h => absurd h List.not_mem_nil⟩⟩⟩⟩⟩⟩⟩⟩⟩⟩⟩⟩⟩⟩⟩⟩⟩⟩⟩⟩⟩⟩⟩⟩
def kX12_line : List (Nat × zT) := kX12_line_0 ++ (kX12_line_1)
theorem qX12_line_0 : ∀ q ∈ kX12_line_0, q ∈ kX12_line := fun _ h => (List.mem_append_left _ h)
theorem tX12_line_0 : (0, a_iload 1 1) ∈ kX12_line := qX12_line_0 _ (List.mem_of_getElem? (i := 0) rfl)
theorem tX12_line_1 : (1, a_i 0 2) ∈ kX12_line := qX12_line_0 _ (List.mem_of_getElem? (i := 1) rfl)
theorem tX12_line_2 : (2, a_i 1 3) ∈ kX12_line := qX12_line_0 _ (List.mem_of_getElem? (i := 2) rfl)
theorem tX12_line_3 : (3, a_call 138 3 6 0 0) ∈ kX12_line := qX12_line_0 _ (List.mem_of_getElem? (i := 3) rfl)
theorem tX12_line_6 : (6, a_if_eq 29 9) ∈ kX12_line := qX12_line_0 _ (List.mem_of_getElem? (i := 4) rfl)
theorem tX12_line_9 : (9, a_iload 2 10) ∈ kX12_line := qX12_line_0 _ (List.mem_of_getElem? (i := 5) rfl)
theorem tX12_line_10 : (10, a_i 6 12) ∈ kX12_line := qX12_line_0 _ (List.mem_of_getElem? (i := 6) rfl)
theorem tX12_line_12 : (12, a_i 18 14) ∈ kX12_line := qX12_line_0 _ (List.mem_of_getElem? (i := 7) rfl)
theorem tX12_line_14 : (14, a_call 138 3 17 0 0) ∈ kX12_line := qX12_line_0 _ (List.mem_of_getElem? (i := 8) rfl)
theorem tX12_line_17 : (17, a_if_eq 29 20) ∈ kX12_line := qX12_line_0 _ (List.mem_of_getElem? (i := 9) rfl)
theorem tX12_line_20 : (20, a_iload 3 21) ∈ kX12_line := qX12_line_0 _ (List.mem_of_getElem? (i := 10) rfl)
theorem tX12_line_21 : (21, a_i 0 22) ∈ kX12_line := qX12_line_0 _ (List.mem_of_getElem? (i := 11) rfl)
theorem tX12_line_22 : (22, a_i 2 23) ∈ kX12_line := qX12_line_0 _ (List.mem_of_getElem? (i := 12) rfl)
theorem tX12_line_23 : (23, a_call 138 3 26 0 0) ∈ kX12_line := qX12_line_0 _ (List.mem_of_getElem? (i := 13) rfl)
theorem tX12_line_26 : (26, a_if_ne 31 29) ∈ kX12_line := qX12_line_0 _ (List.mem_of_getElem? (i := 14) rfl)
theorem tX12_line_29 : (29, a_i (-1) 30) ∈ kX12_line := qX12_line_0 _ (List.mem_of_getElem? (i := 15) rfl)
theorem tX12_line_30 : (30, a_iret false) ∈ kX12_line := qX12_line_0 _ (List.mem_of_getElem? (i := 16) rfl)
theorem tX12_line_31 : (31, a_aload 0 32) ∈ kX12_line := qX12_line_0 _ (List.mem_of_getElem? (i := 17) rfl)
theorem tX12_line_32 : (32, a_iload 1 33) ∈ kX12_line := qX12_line_0 _ (List.mem_of_getElem? (i := 18) rfl)
theorem tX12_line_33 : (33, a_iload 2 34) ∈ kX12_line := qX12_line_0 _ (List.mem_of_getElem? (i := 19) rfl)
theorem tX12_line_34 : (34, a_callV 12 153 3 37 0 0) ∈ kX12_line := qX12_line_0 _ (List.mem_of_getElem? (i := 20) rfl)
theorem tX12_line_37 : (37, a_if_ne 43 40) ∈ kX12_line := qX12_line_0 _ (List.mem_of_getElem? (i := 21) rfl)
theorem tX12_line_40 : (40, a_i (-4) 42) ∈ kX12_line := qX12_line_0 _ (List.mem_of_getElem? (i := 22) rfl)
theorem tX12_line_42 : (42, a_iret false) ∈ kX12_line := qX12_line_0 _ (List.mem_of_getElem? (i := 23) rfl)
theorem qX12_line_1 : ∀ q ∈ kX12_line_1, q ∈ kX12_line := fun _ h => (List.mem_append_right _ h)
theorem tX12_line_43 : (43, a_iload 3 44) ∈ kX12_line := qX12_line_1 _ (List.mem_of_getElem? (i := 0) rfl)
theorem tX12_line_44 : (44, a_if_ne 61 47) ∈ kX12_line := qX12_line_1 _ (List.mem_of_getElem? (i := 1) rfl)
theorem tX12_line_47 : (47, a_aload 0 48) ∈ kX12_line := qX12_line_1 _ (List.mem_of_getElem? (i := 2) rfl)
theorem tX12_line_48 : (48, a_getR 12 4 51) ∈ kX12_line := qX12_line_1 _ (List.mem_of_getElem? (i := 3) rfl)
theorem tX12_line_51 : (51, a_i 19 53) ∈ kX12_line := qX12_line_1 _ (List.mem_of_getElem? (i := 4) rfl)
theorem tX12_line_53 : (53, a_iload 1 54) ∈ kX12_line := qX12_line_1 _ (List.mem_of_getElem? (i := 5) rfl)
theorem tX12_line_54 : (54, a_ii (fun x y => x * y) 55) ∈ kX12_line := qX12_line_1 _ (List.mem_of_getElem? (i := 6) rfl)
theorem tX12_line_55 : (55, a_iload 2 56) ∈ kX12_line := qX12_line_1 _ (List.mem_of_getElem? (i := 7) rfl)
theorem tX12_line_56 : (56, a_ii (fun x y => x + y) 57) ∈ kX12_line := qX12_line_1 _ (List.mem_of_getElem? (i := 8) rfl)
theorem tX12_line_57 : (57, a_iald 58) ∈ kX12_line := qX12_line_1 _ (List.mem_of_getElem? (i := 9) rfl)
theorem tX12_line_58 : (58, a_goto 81) ∈ kX12_line := qX12_line_1 _ (List.mem_of_getElem? (i := 10) rfl)
theorem tX12_line_61 : (61, a_iload 3 62) ∈ kX12_line := qX12_line_1 _ (List.mem_of_getElem? (i := 11) rfl)
theorem tX12_line_62 : (62, a_i 1 63) ∈ kX12_line := qX12_line_1 _ (List.mem_of_getElem? (i := 12) rfl)
theorem tX12_line_63 : (63, a_ic_ne 75 66) ∈ kX12_line := qX12_line_1 _ (List.mem_of_getElem? (i := 13) rfl)
theorem tX12_line_66 : (66, a_aload 0 67) ∈ kX12_line := qX12_line_1 _ (List.mem_of_getElem? (i := 14) rfl)
theorem tX12_line_67 : (67, a_iload 1 68) ∈ kX12_line := qX12_line_1 _ (List.mem_of_getElem? (i := 15) rfl)
theorem tX12_line_68 : (68, a_iload 2 69) ∈ kX12_line := qX12_line_1 _ (List.mem_of_getElem? (i := 16) rfl)
theorem tX12_line_69 : (69, a_callV 12 144 3 72 0 0) ∈ kX12_line := qX12_line_1 _ (List.mem_of_getElem? (i := 17) rfl)
theorem tX12_line_72 : (72, a_goto 81) ∈ kX12_line := qX12_line_1 _ (List.mem_of_getElem? (i := 18) rfl)
theorem tX12_line_75 : (75, a_aload 0 76) ∈ kX12_line := qX12_line_1 _ (List.mem_of_getElem? (i := 19) rfl)
theorem tX12_line_76 : (76, a_iload 1 77) ∈ kX12_line := qX12_line_1 _ (List.mem_of_getElem? (i := 20) rfl)
theorem tX12_line_77 : (77, a_iload 2 78) ∈ kX12_line := qX12_line_1 _ (List.mem_of_getElem? (i := 21) rfl)
theorem tX12_line_78 : (78, a_callV 12 154 3 81 0 0) ∈ kX12_line := qX12_line_1 _ (List.mem_of_getElem? (i := 22) rfl)
theorem tX12_line_81 : (81, a_iret false) ∈ kX12_line := qX12_line_1 _ (List.mem_of_getElem? (i := 23) rfl)
theorem oX12_line : ∀ q ∈ kX12_line, zSnd zty false RX12 cX12_line 4 (some .int) false q := List.forall_mem_append.mpr ⟨oX12_line_0, oX12_line_1⟩
theorem dX12_joined_0 : decode cX12_joined 0 = .ok (.iload_n 0, 1) := by decide +kernel
theorem dX12_joined_1 : decode cX12_joined 1 = .ok (.bipush 38, 2) := by decide +kernel
theorem dX12_joined_3 : decode cX12_joined 3 = .ok (.if_icmp .ne 31, 3) := by decide +kernel
theorem dX12_joined_6 : decode cX12_joined 6 = .ok (.iload_n 1, 1) := by decide +kernel
theorem dX12_joined_7 : decode cX12_joined 7 = .ok (.ifCond .eq 7, 3) := by decide +kernel
theorem dX12_joined_10 : decode cX12_joined 10 = .ok (.iload_n 2, 1) := by decide +kernel
theorem dX12_joined_11 : decode cX12_joined 11 = .ok (.ifCond .ne 7, 3) := by decide +kernel
theorem dX12_joined_14 : decode cX12_joined 14 = .ok (.iconst 0, 1) := by decide +kernel
theorem dX12_joined_15 : decode cX12_joined 15 = .ok (.goto 18, 3) := by decide +kernel
theorem dX12_joined_18 : decode cX12_joined 18 = .ok (.iload_n 1, 1) := by decide +kernel
theorem dX12_joined_19 : decode cX12_joined 19 = .ok (.iconst 2, 1) := by decide +kernel
theorem dX12_joined_20 : decode cX12_joined 20 = .ok (.if_icmp .eq 8, 3) := by decide +kernel
theorem dX12_joined_23 : decode cX12_joined 23 = .ok (.iload_n 2, 1) := by decide +kernel
theorem dX12_joined_24 : decode cX12_joined 24 = .ok (.iconst 2, 1) := by decide +kernel
theorem dX12_joined_25 : decode cX12_joined 25 = .ok (.if_icmp .ne 7, 3) := by decide +kernel
theorem dX12_joined_28 : decode cX12_joined 28 = .ok (.iconst 2, 1) := by decide +kernel
theorem dX12_joined_29 : decode cX12_joined 29 = .ok (.goto 4, 3) := by decide +kernel
theorem dX12_joined_32 : decode cX12_joined 32 = .ok (.iconst 1, 1) := by decide +kernel
theorem dX12_joined_33 : decode cX12_joined 33 = .ok (.ireturn, 1) := by decide +kernel
theorem dX12_joined_34 : decode cX12_joined 34 = .ok (.iload_n 0, 1) := by decide +kernel
theorem dX12_joined_35 : decode cX12_joined 35 = .ok (.bipush 124, 2) := by decide +kernel
theorem dX12_joined_37 : decode cX12_joined 37 = .ok (.if_icmp .ne 33, 3) := by decide +kernel
theorem dX12_joined_40 : decode cX12_joined 40 = .ok (.iload_n 1, 1) := by decide +kernel
theorem dX12_joined_41 : decode cX12_joined 41 = .ok (.iconst 1, 1) := by decide +kernel
theorem dX12_joined_42 : decode cX12_joined 42 = .ok (.if_icmp .eq 8, 3) := by decide +kernel
theorem dX12_joined_45 : decode cX12_joined 45 = .ok (.iload_n 2, 1) := by decide +kernel
theorem dX12_joined_46 : decode cX12_joined 46 = .ok (.iconst 1, 1) := by decide +kernel
theorem dX12_joined_47 : decode cX12_joined 47 = .ok (.if_icmp .ne 7, 3) := by decide +kernel
theorem dX12_joined_50 : decode cX12_joined 50 = .ok (.iconst 1, 1) := by decide +kernel
theorem dX12_joined_51 : decode cX12_joined 51 = .ok (.goto 18, 3) := by decide +kernel
theorem dX12_joined_54 : decode cX12_joined 54 = .ok (.iload_n 1, 1) := by decide +kernel
theorem dX12_joined_55 : decode cX12_joined 55 = .ok (.iconst 2, 1) := by decide +kernel
theorem dX12_joined_56 : decode cX12_joined 56 = .ok (.if_icmp .eq 8, 3) := by decide +kernel
theorem dX12_joined_59 : decode cX12_joined 59 = .ok (.iload_n 2, 1) := by decide +kernel
theorem dX12_joined_60 : decode cX12_joined 60 = .ok (.iconst 2, 1) := by decide +kernel
theorem dX12_joined_61 : decode cX12_joined 61 = .ok (.if_icmp .ne 7, 3) := by decide +kernel
theorem dX12_joined_64 : decode cX12_joined 64 = .ok (.iconst 2, 1) := by decide +kernel
theorem dX12_joined_65 : decode cX12_joined 65 = .ok (.goto 4, 3) := by decide +kernel
theorem dX12_joined_68 : decode cX12_joined 68 = .ok (.iconst 0, 1) := by decide +kernel
theorem dX12_joined_69 : decode cX12_joined 69 = .ok (.ireturn, 1) := by decide +kernel
theorem dX12_joined_70 : decode cX12_joined 70 = .ok (.iload_n 1, 1) := by decide +kernel
theorem dX12_joined_71 : decode cX12_joined 71 = .ok (.iconst 2, 1) := by decide +kernel
theorem dX12_joined_72 : decode cX12_joined 72 = .ok (.if_icmp .eq 8, 3) := by decide +kernel
theorem dX12_joined_75 : decode cX12_joined 75 = .ok (.iload_n 2, 1) := by decide +kernel
theorem dX12_joined_76 : decode cX12_joined 76 = .ok (.iconst 2, 1) := by decide +kernel
theorem dX12_joined_77 : decode cX12_joined 77 = .ok (.if_icmp .ne 7, 3) := by decide +kernel
theorem dX12_joined_80 : decode cX12_joined 80 = .ok (.iconst 2, 1) := by decide +kernel
theorem dX12_joined_81 : decode cX12_joined 81 = .ok (.goto 6, 3) := by decide +kernel
theorem dX12_joined_84 : decode cX12_joined 84 = .ok (.iload_n 1, 1) := by decide +kernel
theorem dX12_joined_85 : decode cX12_joined 85 = .ok (.iload_n 2, 1) := by decide +kernel
theorem dX12_joined_86 : decode cX12_joined 86 = .ok (.ixor, 1) := by decide +kernel
theorem dX12_joined_87 : decode cX12_joined 87 = .ok (.ireturn, 1) := by decide +kernel
def kX12_joined_0 : List (Nat × zT) := [(0, a_iload 0 1), (1, a_i 38 3), (3, a_ic_ne 34 6), (6, a_iload 1 7), (7, a_if_eq 14 10), (10, a_iload 2 11), (11, a_if_ne 18 14), (14, a_i 0 15), (15, a_goto 33), (18, a_iload 1 19), (19, a_i 2 20), (20, a_ic_eq 28 23), (23, a_iload 2 24), (24, a_i 2 25), (25, a_ic_ne 32 28), (28, a_i 2 29), (29, a_goto 33), (32, a_i 1 33), (33, a_iret false), (34, a_iload 0 35), (35, a_i 124 37), (37, a_ic_ne 70 40), (40, a_iload 1 41), (41, a_i 1 42)]
theorem oX12_joined_0 : ∀ q ∈ kX12_joined_0, zSnd zty false RX12 cX12_joined 3 (some .int) false q := List.forall_mem_cons.mpr ⟨ok_iload_n dX12_joined_0 rfl, List.forall_mem_cons.mpr ⟨ok_bipush dX12_joined_1 (by decide), List.forall_mem_cons.mpr ⟨ok_ic_ne dX12_joined_3 (by decide), List.forall_mem_cons.mpr ⟨ok_iload_n dX12_joined_6 rfl, List.forall_mem_cons.mpr ⟨ok_if_eq dX12_joined_7 (by decide), List.forall_mem_cons.mpr ⟨ok_iload_n dX12_joined_10 rfl, List.forall_mem_cons.mpr ⟨ok_if_ne dX12_joined_11 (by decide), List.forall_mem_cons.mpr ⟨ok_iconst dX12_joined_14 (by decide), List.forall_mem_cons.mpr ⟨ok_goto dX12_joined_15 (by decide), List.forall_mem_cons.mpr ⟨ok_iload_n dX12_joined_18 rfl, List.forall_mem_cons.mpr ⟨ok_iconst dX12_joined_19 (by decide), List.forall_mem_cons.mpr ⟨ok_ic_eq dX12_joined_20 (by decide), List.forall_mem_cons.mpr ⟨ok_iload_n dX12_joined_23 rfl, List.forall_mem_cons.mpr ⟨ok_iconst dX12_joined_24 (by decide), List.forall_mem_cons.mpr ⟨ok_ic_ne dX12_joined_25 (by decide), List.forall_mem_cons.mpr ⟨ok_iconst dX12_joined_28 (by decide), List.forall_mem_cons.mpr ⟨ok_goto dX12_joined_29 (by decide), List.forall_mem_cons.mpr ⟨ok_iconst dX12_joined_32 (by decide), List.forall_mem_cons.mpr ⟨ok_iret (bz := false) dX12_joined_33 rfl, List.forall_mem_cons.mpr ⟨ok_iload_n dX12_joined_34 rfl, List.forall_mem_cons.mpr ⟨ok_bipush dX12_joined_35 (by decide), List.forall_mem_cons.mpr ⟨ok_ic_ne dX12_joined_37 (by decide), List.forall_mem_cons.mpr ⟨ok_iload_n dX12_joined_40 rfl, List.forall_mem_cons.mpr ⟨ok_iconst dX12_joined_41 (by decide), fun _ h => absurd h List.not_mem_nil⟩⟩⟩⟩⟩⟩⟩⟩⟩⟩⟩⟩⟩⟩⟩⟩⟩⟩⟩⟩⟩⟩⟩⟩
def kX12_joined_1 : List (Nat × zT) := [(42, a_ic_eq 50 45), (45, a_iload 2 46), (46, a_i 1 47), (47, a_ic_ne 54 50), (50, a_i 1 51), (51, a_goto 69), (54, a_iload 1 55), (55, a_i 2 56), (56, a_ic_eq 64 59), (59, a_iload 2 60), (60, a_i 2 61), (61, a_ic_ne 68 64), (64, a_i 2 65), (65, a_goto 69), (68, a_i 0 69), (69, a_iret false), (70, a_iload 1 71), (71, a_i 2 72), (72, a_ic_eq 80 75), (75, a_iload 2 76), (76, a_i 2 77), (77, a_ic_ne 84 80), (80, a_i 2 81), (81, a_goto 87)]
theorem oX12_joined_1 : ∀ q ∈ kX12_joined_1, zSnd zty false RX12 cX12_joined 3 (some .int) false q := List.forall_mem_cons.mpr ⟨ok_ic_eq dX12_joined_42 (by decide), List.forall_mem_cons.mpr ⟨ok_iload_n dX12_joined_45 rfl, List.forall_mem_cons.mpr ⟨ok_iconst dX12_joined_46 (by decide), List.forall_mem_cons.mpr ⟨ok_ic_ne dX12_joined_47 (by decide), List.forall_mem_cons.mpr ⟨ok_iconst dX12_joined_50 (by decide), List.forall_mem_cons.mpr ⟨ok_goto dX12_joined_51 (by decide), List.forall_mem_cons.mpr ⟨ok_iload_n dX12_joined_54 rfl, List.forall_mem_cons.mpr ⟨ok_iconst dX12_joined_55 (by decide), List.forall_mem_cons.mpr ⟨ok_ic_eq dX12_joined_56 (by decide), List.forall_mem_cons.mpr ⟨ok_iload_n dX12_joined_59 rfl, List.forall_mem_cons.mpr ⟨ok_iconst dX12_joined_60 (by decide), List.forall_mem_cons.mpr ⟨ok_ic_ne dX12_joined_61 (by decide), List.forall_mem_cons.mpr ⟨ok_iconst dX12_joined_64 (by decide), List.forall_mem_cons.mpr ⟨ok_goto dX12_joined_65 (by decide), List.forall_mem_cons.mpr ⟨ok_iconst dX12_joined_68 (by decide), List.forall_mem_cons.mpr ⟨ok_iret (bz := false) dX12_joined_69 rfl, List.forall_mem_cons.mpr ⟨ok_iload_n dX12_joined_70 rfl, List.forall_mem_cons.mpr ⟨ok_iconst dX12_joined_71 (by decide), List.forall_mem_cons.mpr ⟨ok_ic_eq dX12_joined_72 (by decide), List.forall_mem_cons.mpr ⟨ok_iload_n dX12_joined_75 rfl, List.forall_mem_cons.mpr ⟨ok_iconst dX12_joined_76 (by decide), List.forall_mem_cons.mpr ⟨ok_ic_ne dX12_joined_77 (by decide), List.forall_mem_cons.mpr ⟨ok_iconst dX12_joined_80 (by decide), List.forall_mem_cons.mpr ⟨ok_goto dX12_joined_81 (by decide), fun _ h => absurd h List.not_mem_nil⟩⟩⟩⟩⟩⟩⟩⟩⟩⟩⟩⟩⟩⟩⟩⟩⟩⟩⟩⟩⟩⟩⟩⟩
def kX12_joined_2 : List (Nat × zT) := [(84, a_iload 1 85), (85, a_iload 2 86), (86, a_ii (fun x y => x ^^^ y) 87), (87, a_iret false)]
theorem oX12_joined_2 : ∀ q ∈ kX12_joined_2, zSnd zty false RX12 cX12_joined 3 (some .int) false q := List.forall_mem_cons.mpr ⟨ok_iload_n dX12_joined_84 rfl, List.forall_mem_cons.mpr ⟨ok_iload_n dX12_joined_85 rfl, List.forall_mem_cons.mpr ⟨ok_ixor dX12_joined_86, List.forall_mem_cons.mpr ⟨ok_iret (bz := false) dX12_joined_87 rfl, fun _ h => absurd h List.not_mem_nil⟩⟩⟩⟩
def kX12_joined : List (Nat × zT) := kX12_joined_0 ++ (kX12_joined_1 ++ (kX12_joined_2))
theorem qX12_joined_0 : ∀ q ∈ kX12_joined_0, q ∈ kX12_joined := fun _ h => (List.mem_append_left _ h)
theorem tX12_joined_0 : (0, a_iload 0 1) ∈ kX12_joined := qX12_joined_0 _ (List.mem_of_getElem? (i := 0) rfl)
theorem tX12_joined_1 : (1, a_i 38 3) ∈ kX12_joined := qX12_joined_0 _ (List.mem_of_getElem? (i := 1) rfl)
theorem tX12_joined_3 : (3, a_ic_ne 34 6) ∈ kX12_joined := qX12_joined_0 _ (List.mem_of_getElem? (i := 2) rfl)
theorem tX12_joined_6 : (6, a_iload 1 7) ∈ kX12_joined := qX12_joined_0 _ (List.mem_of_getElem? (i := 3) rfl)
theorem tX12_joined_7 : (7, a_if_eq 14 10) ∈ kX12_joined := qX12_joined_0 _ (List.mem_of_getElem? (i := 4) rfl)
theorem tX12_joined_10 : (10, a_iload 2 11) ∈ kX12_joined := qX12_joined_0 _ (List.mem_of_getElem? (i := 5) rfl)
theorem tX12_joined_11 : (11, a_if_ne 18 14) ∈ kX12_joined := qX12_joined_0 _ (List.mem_of_getElem? (i := 6) rfl)
theorem tX12_joined_14 : (14, a_i 0 15) ∈ kX12_joined := qX12_joined_0 _ (List.mem_of_getElem? (i := 7) rfl)
theorem tX12_joined_15 : (15, a_goto 33) ∈ kX12_joined := qX12_joined_0 _ (List.mem_of_getElem? (i := 8) rfl)
theorem tX12_joined_18 : (18, a_iload 1 19) ∈ kX12_joined := qX12_joined_0 _ (List.mem_of_getElem? (i := 9) rfl)
theorem tX12_joined_19 : (19, a_i 2 20) ∈ kX12_joined := qX12_joined_0 _ (List.mem_of_getElem? (i := 10) rfl)
theorem tX12_joined_20 : (20, a_ic_eq 28 23) ∈ kX12_joined := qX12_joined_0 _ (List.mem_of_getElem? (i := 11) rfl)
theorem tX12_joined_23 : (23, a_iload 2 24) ∈ kX12_joined := qX12_joined_0 _ (List.mem_of_getElem? (i := 12) rfl)
theorem tX12_joined_24 : (24, a_i 2 25) ∈ kX12_joined := qX12_joined_0 _ (List.mem_of_getElem? (i := 13) rfl)
theorem tX12_joined_25 : (25, a_ic_ne 32 28) ∈ kX12_joined := qX12_joined_0 _ (List.mem_of_getElem? (i := 14) rfl)
theorem tX12_joined_28 : (28, a_i 2 29) ∈ kX12_joined := qX12_joined_0 _ (List.mem_of_getElem? (i := 15) rfl)
theorem tX12_joined_29 : (29, a_goto 33) ∈ kX12_joined := qX12_joined_0 _ (List.mem_of_getElem? (i := 16) rfl)
theorem tX12_joined_32 : (32, a_i 1 33) ∈ kX12_joined := qX12_joined_0 _ (List.mem_of_getElem? (i := 17) rfl)
theorem tX12_joined_33 : (33, a_iret false) ∈ kX12_joined := qX12_joined_0 _ (List.mem_of_getElem? (i := 18) rfl)
theorem tX12_joined_34 : (34, a_iload 0 35) ∈ kX12_joined := qX12_joined_0 _ (List.mem_of_getElem? (i := 19) rfl)
theorem tX12_joined_35 : (35, a_i 124 37) ∈ kX12_joined := qX12_joined_0 _ (List.mem_of_getElem? (i := 20) rfl)
theorem tX12_joined_37 : (37, a_ic_ne 70 40) ∈ kX12_joined := qX12_joined_0 _ (List.mem_of_getElem? (i := 21) rfl)
theorem tX12_joined_40 : (40, a_iload 1 41) ∈ kX12_joined := qX12_joined_0 _ (List.mem_of_getElem? (i := 22) rfl)
theorem tX12_joined_41 : (41, a_i 1 42) ∈ kX12_joined := qX12_joined_0 _ (List.mem_of_getElem? (i := 23) rfl)
theorem qX12_joined_1 : ∀ q ∈ kX12_joined_1, q ∈ kX12_joined := fun _ h => (List.mem_append_right _ (List.mem_append_left _ h))
theorem tX12_joined_42 : (42, a_ic_eq 50 45) ∈ kX12_joined := qX12_joined_1 _ (List.mem_of_getElem? (i := 0) rfl)
theorem tX12_joined_45 : (45, a_iload 2 46) ∈ kX12_joined := qX12_joined_1 _ (List.mem_of_getElem? (i := 1) rfl)
theorem tX12_joined_46 : (46, a_i 1 47) ∈ kX12_joined := qX12_joined_1 _ (List.mem_of_getElem? (i := 2) rfl)
theorem tX12_joined_47 : (47, a_ic_ne 54 50) ∈ kX12_joined := qX12_joined_1 _ (List.mem_of_getElem? (i := 3) rfl)
theorem tX12_joined_50 : (50, a_i 1 51) ∈ kX12_joined := qX12_joined_1 _ (List.mem_of_getElem? (i := 4) rfl)
theorem tX12_joined_51 : (51, a_goto 69) ∈ kX12_joined := qX12_joined_1 _ (List.mem_of_getElem? (i := 5) rfl)
theorem tX12_joined_54 : (54, a_iload 1 55) ∈ kX12_joined := qX12_joined_1 _ (List.mem_of_getElem? (i := 6) rfl)
theorem tX12_joined_55 : (55, a_i 2 56) ∈ kX12_joined := qX12_joined_1 _ (List.mem_of_getElem? (i := 7) rfl)
theorem tX12_joined_56 : (56, a_ic_eq 64 59) ∈ kX12_joined := qX12_joined_1 _ (List.mem_of_getElem? (i := 8) rfl)
theorem tX12_joined_59 : (59, a_iload 2 60) ∈ kX12_joined := qX12_joined_1 _ (List.mem_of_getElem? (i := 9) rfl)
theorem tX12_joined_60 : (60, a_i 2 61) ∈ kX12_joined := qX12_joined_1 _ (List.mem_of_getElem? (i := 10) rfl)
theorem tX12_joined_61 : (61, a_ic_ne 68 64) ∈ kX12_joined := qX12_joined_1 _ (List.mem_of_getElem? (i := 11) rfl)
theorem tX12_joined_64 : (64, a_i 2 65) ∈ kX12_joined := qX12_joined_1 _ (List.mem_of_getElem? (i := 12) rfl)
theorem tX12_joined_65 : (65, a_goto 69) ∈ kX12_joined := qX12_joined_1 _ (List.mem_of_getElem? (i := 13) rfl)
theorem tX12_joined_68 : (68, a_i 0 69) ∈ kX12_joined := qX12_joined_1 _ (List.mem_of_getElem? (i := 14) rfl)
theorem tX12_joined_69 : (69, a_iret false) ∈ kX12_joined := qX12_joined_1 _ (List.mem_of_getElem? (i := 15) rfl)
theorem tX12_joined_70 : (70, a_iload 1 71) ∈ kX12_joined := qX12_joined_1 _ (List.mem_of_getElem? (i := 16) rfl)
theorem tX12_joined_71 : (71, a_i 2 72) ∈ kX12_joined := qX12_joined_1 _ (List.mem_of_getElem? (i := 17) rfl)
theorem tX12_joined_72 : (72, a_ic_eq 80 75) ∈ kX12_joined := qX12_joined_1 _ (List.mem_of_getElem? (i := 18) rfl)
theorem tX12_joined_75 : (75, a_iload 2 76) ∈ kX12_joined := qX12_joined_1 _ (List.mem_of_getElem? (i := 19) rfl)
theorem tX12_joined_76 : (76, a_i 2 77) ∈ kX12_joined := qX12_joined_1 _ (List.mem_of_getElem? (i := 20) rfl)
theorem tX12_joined_77 : (77, a_ic_ne 84 80) ∈ kX12_joined := qX12_joined_1 _ (List.mem_of_getElem? (i := 21) rfl)
theorem tX12_joined_80 : (80, a_i 2 81) ∈ kX12_joined := qX12_joined_1 _ (List.mem_of_getElem? (i := 22) rfl)
theorem tX12_joined_81 : (81, a_goto 87) ∈ kX12_joined := qX12_joined_1 _ (List.mem_of_getElem? (i := 23) rfl)
theorem qX12_joined_2 : ∀ q ∈ kX12_joined_2, q ∈ kX12_joined := fun _ h => (List.mem_append_right _ (List.mem_append_right _ h))
theorem tX12_joined_84 : (84, a_iload 1 85) ∈ kX12_joined := qX12_joined_2 _ (List.mem_of_getElem? (i := 0) rfl)
theorem tX12_joined_85 : (85, a_iload 2 86) ∈ kX12_joined := qX12_joined_2 _ (List.mem_of_getElem? (i := 1) rfl)
theorem tX12_joined_86 : (86, a_ii (fun x y => x ^^^ y) 87) ∈ kX12_joined := qX12_joined_2 _ (List.mem_of_getElem? (i := 2) rfl)
theorem tX12_joined_87 : (87, a_iret false) ∈ kX12_joined := qX12_joined_2 _ (List.mem_of_getElem? (i := 3) rfl)
theorem oX12_joined : ∀ q ∈ kX12_joined, zSnd zty false RX12 cX12_joined 3 (some .int) false q := List.forall_mem_append.mpr ⟨oX12_joined_0, List.forall_mem_append.mpr ⟨oX12_joined_1, oX12_joined_2⟩⟩
theorem dX12_chosen_0 : decode cX12_chosen 0 = .ok (.iload_n 0, 1) := by decide +kernel
theorem dX12_chosen_1 : decode cX12_chosen 1 = .ok (.iconst 1, 1) := by decide +kernel
theorem dX12_chosen_2 : decode cX12_chosen 2 = .ok (.if_icmp .ne 7, 3) := by decide +kernel
theorem dX12_chosen_5 : decode cX12_chosen 5 = .ok (.iload_n 1, 1) := by decide +kernel
theorem dX12_chosen_6 : decode cX12_chosen 6 = .ok (.goto 21, 3) := by decide +kernel
theorem dX12_chosen_9 : decode cX12_chosen 9 = .ok (.iload_n 0, 1) := by decide +kernel
theorem dX12_chosen_10 : decode cX12_chosen 10 = .ok (.ifCond .ne 7, 3) := by decide +kernel
theorem dX12_chosen_13 : decode cX12_chosen 13 = .ok (.iload_n 2, 1) := by decide +kernel
theorem dX12_chosen_14 : decode cX12_chosen 14 = .ok (.goto 13, 3) := by decide +kernel
theorem dX12_chosen_17 : decode cX12_chosen 17 = .ok (.iload_n 1, 1) := by decide +kernel
theorem dX12_chosen_18 : decode cX12_chosen 18 = .ok (.iload_n 2, 1) := by decide +kernel
theorem dX12_chosen_19 : decode cX12_chosen 19 = .ok (.if_icmp .ne 7, 3) := by decide +kernel
theorem dX12_chosen_22 : decode cX12_chosen 22 = .ok (.iload_n 1, 1) := by decide +kernel
theorem dX12_chosen_23 : decode cX12_chosen 23 = .ok (.goto 4, 3) := by decide +kernel
theorem dX12_chosen_26 : decode cX12_chosen 26 = .ok (.iconst 2, 1) := by decide +kernel
theorem dX12_chosen_27 : decode cX12_chosen 27 = .ok (.ireturn, 1) := by decide +kernel
def kX12_chosen_0 : List (Nat × zT) := [(0, a_iload 0 1), (1, a_i 1 2), (2, a_ic_ne 9 5), (5, a_iload 1 6), (6, a_goto 27), (9, a_iload 0 10), (10, a_if_ne 17 13), (13, a_iload 2 14), (14, a_goto 27), (17, a_iload 1 18), (18, a_iload 2 19), (19, a_ic_ne 26 22), (22, a_iload 1 23), (23, a_goto 27), (26, a_i 2 27), (27, a_iret false)]
theorem oX12_chosen_0 : ∀ q ∈ kX12_chosen_0, zSnd zty false RX12 cX12_chosen 3 (some .int) false q := List.forall_mem_cons.mpr ⟨ok_iload_n dX12_chosen_0 rfl, List.forall_mem_cons.mpr ⟨ok_iconst dX12_chosen_1 (by decide), List.forall_mem_cons.mpr ⟨ok_ic_ne dX12_chosen_2 (by decide), List.forall_mem_cons.mpr ⟨ok_iload_n dX12_chosen_5 rfl, List.forall_mem_cons.mpr ⟨ok_goto dX12_chosen_6 (by decide), List.forall_mem_cons.mpr ⟨ok_iload_n dX12_chosen_9 rfl, List.forall_mem_cons.mpr ⟨ok_if_ne dX12_chosen_10 (by decide), List.forall_mem_cons.mpr ⟨ok_iload_n dX12_chosen_13 rfl, List.forall_mem_cons.mpr ⟨ok_goto dX12_chosen_14 (by decide), List.forall_mem_cons.mpr ⟨ok_iload_n dX12_chosen_17 rfl, List.forall_mem_cons.mpr ⟨ok_iload_n dX12_chosen_18 rfl, List.forall_mem_cons.mpr ⟨ok_ic_ne dX12_chosen_19 (by decide), List.forall_mem_cons.mpr ⟨ok_iload_n dX12_chosen_22 rfl, List.forall_mem_cons.mpr ⟨ok_goto dX12_chosen_23 (by decide), List.forall_mem_cons.mpr ⟨ok_iconst dX12_chosen_26 (by decide), List.forall_mem_cons.mpr ⟨ok_iret (bz := false) dX12_chosen_27 rfl, fun _ h => absurd h List.not_mem_nil⟩⟩⟩⟩⟩⟩⟩⟩⟩⟩⟩⟩⟩⟩⟩⟩
def kX12_chosen : List (Nat × zT) := kX12_chosen_0
theorem qX12_chosen_0 : ∀ q ∈ kX12_chosen_0, q ∈ kX12_chosen := fun _ h => h
theorem tX12_chosen_0 : (0, a_iload 0 1) ∈ kX12_chosen := qX12_chosen_0 _ (List.mem_of_getElem? (i := 0) rfl)
theorem tX12_chosen_1 : (1, a_i 1 2) ∈ kX12_chosen := qX12_chosen_0 _ (List.mem_of_getElem? (i := 1) rfl)
theorem tX12_chosen_2 : (2, a_ic_ne 9 5) ∈ kX12_chosen := qX12_chosen_0 _ (List.mem_of_getElem? (i := 2) rfl)
theorem tX12_chosen_5 : (5, a_iload 1 6) ∈ kX12_chosen := qX12_chosen_0 _ (List.mem_of_getElem? (i := 3) rfl)
theorem tX12_chosen_6 : (6, a_goto 27) ∈ kX12_chosen := qX12_chosen_0 _ (List.mem_of_getElem? (i := 4) rfl)
theorem tX12_chosen_9 : (9, a_iload 0 10) ∈ kX12_chosen := qX12_chosen_0 _ (List.mem_of_getElem? (i := 5) rfl)
theorem tX12_chosen_10 : (10, a_if_ne 17 13) ∈ kX12_chosen := qX12_chosen_0 _ (List.mem_of_getElem? (i := 6) rfl)
theorem tX12_chosen_13 : (13, a_iload 2 14) ∈ kX12_chosen := qX12_chosen_0 _ (List.mem_of_getElem? (i := 7) rfl)
theorem tX12_chosen_14 : (14, a_goto 27) ∈ kX12_chosen := qX12_chosen_0 _ (List.mem_of_getElem? (i := 8) rfl)
theorem tX12_chosen_17 : (17, a_iload 1 18) ∈ kX12_chosen := qX12_chosen_0 _ (List.mem_of_getElem? (i := 9) rfl)
theorem tX12_chosen_18 : (18, a_iload 2 19) ∈ kX12_chosen := qX12_chosen_0 _ (List.mem_of_getElem? (i := 10) rfl)
theorem tX12_chosen_19 : (19, a_ic_ne 26 22) ∈ kX12_chosen := qX12_chosen_0 _ (List.mem_of_getElem? (i := 11) rfl)
theorem tX12_chosen_22 : (22, a_iload 1 23) ∈ kX12_chosen := qX12_chosen_0 _ (List.mem_of_getElem? (i := 12) rfl)
theorem tX12_chosen_23 : (23, a_goto 27) ∈ kX12_chosen := qX12_chosen_0 _ (List.mem_of_getElem? (i := 13) rfl)
theorem tX12_chosen_26 : (26, a_i 2 27) ∈ kX12_chosen := qX12_chosen_0 _ (List.mem_of_getElem? (i := 14) rfl)
theorem tX12_chosen_27 : (27, a_iret false) ∈ kX12_chosen := qX12_chosen_0 _ (List.mem_of_getElem? (i := 15) rfl)
theorem oX12_chosen : ∀ q ∈ kX12_chosen, zSnd zty false RX12 cX12_chosen 3 (some .int) false q := oX12_chosen_0
theorem dX12_used_0 : decode cX12_used 0 = .ok (.iload_n 1, 1) := by decide +kernel
theorem dX12_used_1 : decode cX12_used 1 = .ok (.aload_n 0, 1) := by decide +kernel
theorem dX12_used_2 : decode cX12_used 2 = .ok (.getfield 58, 3) := by decide +kernel
theorem dX12_used_5 : decode cX12_used 5 = .ok (.if_icmp .ne 10, 3) := by decide +kernel
theorem dX12_used_8 : decode cX12_used 8 = .ok (.aload_n 0, 1) := by decide +kernel
theorem dX12_used_9 : decode cX12_used 9 = .ok (.getfield 160, 3) := by decide +kernel
theorem dX12_used_12 : decode cX12_used 12 = .ok (.goto 9, 3) := by decide +kernel
theorem dX12_used_15 : decode cX12_used 15 = .ok (.aload_n 0, 1) := by decide +kernel
theorem dX12_used_16 : decode cX12_used 16 = .ok (.getfield 52, 3) := by decide +kernel
theorem dX12_used_19 : decode cX12_used 19 = .ok (.iload_n 1, 1) := by decide +kernel
theorem dX12_used_20 : decode cX12_used 20 = .ok (.iaload, 1) := by decide +kernel
theorem dX12_used_21 : decode cX12_used 21 = .ok (.ireturn, 1) := by decide +kernel
def kX12_used_0 : List (Nat × zT) := [(0, a_iload 1 1), (1, a_aload 0 2), (2, a_getI 12 18 5), (5, a_ic_ne 15 8), (8, a_aload 0 9), (9, a_getI 12 19 12), (12, a_goto 21), (15, a_aload 0 16), (16, a_getR 12 16 19), (19, a_iload 1 20), (20, a_iald 21), (21, a_iret false)]
theorem oX12_used_0 : ∀ q ∈ kX12_used_0, zSnd zty false RX12 cX12_used 2 (some .int) false q := List.forall_mem_cons.mpr ⟨ok_iload_n dX12_used_0 rfl, List.forall_mem_cons.mpr ⟨ok_aload_n dX12_used_1 rfl, List.forall_mem_cons.mpr ⟨ok_getI dX12_used_2 rfl in12 (by decide) rfl w975, List.forall_mem_cons.mpr ⟨ok_ic_ne dX12_used_5 (by decide), List.forall_mem_cons.mpr ⟨ok_aload_n dX12_used_8 rfl, List.forall_mem_cons.mpr ⟨ok_getI dX12_used_9 rfl in12 (by decide) rfl w976, List.forall_mem_cons.mpr ⟨ok_goto dX12_used_12 (by decide), List.forall_mem_cons.mpr ⟨ok_aload_n dX12_used_15 rfl, List.forall_mem_cons.mpr ⟨ok_getR dX12_used_16 rfl in12 (by decide) rfl w973, List.forall_mem_cons.mpr ⟨ok_iload_n dX12_used_19 rfl, List.forall_mem_cons.mpr ⟨ok_iald dX12_used_20, List.forall_mem_cons.mpr ⟨ok_iret (bz := false) dX12_used_21 rfl, fun _ h => absurd h List.not_mem_nil⟩⟩⟩⟩⟩⟩⟩⟩⟩⟩⟩⟩
def kX12_used : List (Nat × zT) := kX12_used_0
theorem qX12_used_0 : ∀ q ∈ kX12_used_0, q ∈ kX12_used := fun _ h => h
theorem tX12_used_0 : (0, a_iload 1 1) ∈ kX12_used := qX12_used_0 _ (List.mem_of_getElem? (i := 0) rfl)
theorem tX12_used_1 : (1, a_aload 0 2) ∈ kX12_used := qX12_used_0 _ (List.mem_of_getElem? (i := 1) rfl)
theorem tX12_used_2 : (2, a_getI 12 18 5) ∈ kX12_used := qX12_used_0 _ (List.mem_of_getElem? (i := 2) rfl)
theorem tX12_used_5 : (5, a_ic_ne 15 8) ∈ kX12_used := qX12_used_0 _ (List.mem_of_getElem? (i := 3) rfl)
theorem tX12_used_8 : (8, a_aload 0 9) ∈ kX12_used := qX12_used_0 _ (List.mem_of_getElem? (i := 4) rfl)
theorem tX12_used_9 : (9, a_getI 12 19 12) ∈ kX12_used := qX12_used_0 _ (List.mem_of_getElem? (i := 5) rfl)
theorem tX12_used_12 : (12, a_goto 21) ∈ kX12_used := qX12_used_0 _ (List.mem_of_getElem? (i := 6) rfl)
theorem tX12_used_15 : (15, a_aload 0 16) ∈ kX12_used := qX12_used_0 _ (List.mem_of_getElem? (i := 7) rfl)
theorem tX12_used_16 : (16, a_getR 12 16 19) ∈ kX12_used := qX12_used_0 _ (List.mem_of_getElem? (i := 8) rfl)
theorem tX12_used_19 : (19, a_iload 1 20) ∈ kX12_used := qX12_used_0 _ (List.mem_of_getElem? (i := 9) rfl)
theorem tX12_used_20 : (20, a_iald 21) ∈ kX12_used := qX12_used_0 _ (List.mem_of_getElem? (i := 10) rfl)
theorem tX12_used_21 : (21, a_iret false) ∈ kX12_used := qX12_used_0 _ (List.mem_of_getElem? (i := 11) rfl)
theorem oX12_used : ∀ q ∈ kX12_used, zSnd zty false RX12 cX12_used 2 (some .int) false q := oX12_used_0
theorem dX12_made_0 : decode cX12_made 0 = .ok (.iconst 0, 1) := by decide +kernel
theorem dX12_made_1 : decode cX12_made 1 = .ok (.istore_n 3, 1) := by decide +kernel
theorem dX12_made_2 : decode cX12_made 2 = .ok (.iconst 0, 1) := by decide +kernel
theorem dX12_made_3 : decode cX12_made 3 = .ok (.istore 4, 2) := by decide +kernel
theorem dX12_made_5 : decode cX12_made 5 = .ok (.iload 4, 2) := by decide +kernel
theorem dX12_made_7 : decode cX12_made 7 = .ok (.aload_n 0, 1) := by decide +kernel
theorem dX12_made_8 : decode cX12_made 8 = .ok (.getfield 22, 3) := by decide +kernel
theorem dX12_made_11 : decode cX12_made 11 = .ok (.bipush 19, 2) := by decide +kernel
theorem dX12_made_13 : decode cX12_made 13 = .ok (.iload_n 1, 1) := by decide +kernel
theorem dX12_made_14 : decode cX12_made 14 = .ok (.imul, 1) := by decide +kernel
theorem dX12_made_15 : decode cX12_made 15 = .ok (.iload_n 2, 1) := by decide +kernel
theorem dX12_made_16 : decode cX12_made 16 = .ok (.iadd, 1) := by decide +kernel
theorem dX12_made_17 : decode cX12_made 17 = .ok (.iaload, 1) := by decide +kernel
theorem dX12_made_18 : decode cX12_made 18 = .ok (.if_icmp .ge 210, 3) := by decide +kernel
theorem dX12_made_21 : decode cX12_made 21 = .ok (.aload_n 0, 1) := by decide +kernel
theorem dX12_made_22 : decode cX12_made 22 = .ok (.getfield 16, 3) := by decide +kernel
theorem dX12_made_25 : decode cX12_made 25 = .ok (.sipush 200, 3) := by decide +kernel
theorem dX12_made_28 : decode cX12_made 28 = .ok (.iload_n 1, 1) := by decide +kernel
theorem dX12_made_29 : decode cX12_made 29 = .ok (.imul, 1) := by decide +kernel
theorem dX12_made_30 : decode cX12_made 30 = .ok (.aload_n 0, 1) := by decide +kernel
theorem dX12_made_31 : decode cX12_made 31 = .ok (.getfield 19, 3) := by decide +kernel
theorem dX12_made_34 : decode cX12_made 34 = .ok (.bipush 19, 2) := by decide +kernel
theorem dX12_made_36 : decode cX12_made 36 = .ok (.iload_n 1, 1) := by decide +kernel
theorem dX12_made_37 : decode cX12_made 37 = .ok (.imul, 1) := by decide +kernel
theorem dX12_made_38 : decode cX12_made 38 = .ok (.iload_n 2, 1) := by decide +kernel
theorem dX12_made_39 : decode cX12_made 39 = .ok (.iadd, 1) := by decide +kernel
theorem dX12_made_40 : decode cX12_made 40 = .ok (.iaload, 1) := by decide +kernel
theorem dX12_made_41 : decode cX12_made 41 = .ok (.iadd, 1) := by decide +kernel
theorem dX12_made_42 : decode cX12_made 42 = .ok (.iload 4, 2) := by decide +kernel
theorem dX12_made_44 : decode cX12_made 44 = .ok (.iadd, 1) := by decide +kernel
theorem dX12_made_45 : decode cX12_made 45 = .ok (.iaload, 1) := by decide +kernel
theorem dX12_made_46 : decode cX12_made 46 = .ok (.istore 5, 2) := by decide +kernel
theorem dX12_made_48 : decode cX12_made 48 = .ok (.iload 5, 2) := by decide +kernel
theorem dX12_made_50 : decode cX12_made 50 = .ok (.invokestatic 118, 3) := by decide +kernel
theorem dX12_made_53 : decode cX12_made 53 = .ok (.tableswitch 133 0 2 #[27, 63, 100], 27) := by decide +kernel
theorem dX12_made_80 : decode cX12_made 80 = .ok (.aload_n 0, 1) := by decide +kernel
theorem dX12_made_81 : decode cX12_made 81 = .ok (.getfield 55, 3) := by decide +kernel
theorem dX12_made_84 : decode cX12_made 84 = .ok (.iload_n 3, 1) := by decide +kernel
theorem dX12_made_85 : decode cX12_made 85 = .ok (.iload 5, 2) := by decide +kernel
theorem dX12_made_87 : decode cX12_made 87 = .ok (.bipush 50, 2) := by decide +kernel
theorem dX12_made_89 : decode cX12_made 89 = .ok (.if_icmp .ge 11, 3) := by decide +kernel
theorem dX12_made_92 : decode cX12_made 92 = .ok (.iload 5, 2) := by decide +kernel
theorem dX12_made_94 : decode cX12_made 94 = .ok (.bipush 48, 2) := by decide +kernel
theorem dX12_made_96 : decode cX12_made 96 = .ok (.isub, 1) := by decide +kernel
theorem dX12_made_97 : decode cX12_made 97 = .ok (.goto 12, 3) := by decide +kernel
theorem dX12_made_100 : decode cX12_made 100 = .ok (.aload_n 0, 1) := by decide +kernel
theorem dX12_made_101 : decode cX12_made 101 = .ok (.iload 5, 2) := by decide +kernel
theorem dX12_made_103 : decode cX12_made 103 = .ok (.bipush 97, 2) := by decide +kernel
theorem dX12_made_105 : decode cX12_made 105 = .ok (.isub, 1) := by decide +kernel
theorem dX12_made_106 : decode cX12_made 106 = .ok (.invokevirtual 163, 3) := by decide +kernel
theorem dX12_made_109 : decode cX12_made 109 = .ok (.iastore, 1) := by decide +kernel
theorem dX12_made_110 : decode cX12_made 110 = .ok (.iinc 3 1, 3) := by decide +kernel
theorem dX12_made_113 : decode cX12_made 113 = .ok (.goto 109, 3) := by decide +kernel
theorem dX12_made_116 : decode cX12_made 116 = .ok (.aload_n 0, 1) := by decide +kernel
theorem dX12_made_117 : decode cX12_made 117 = .ok (.getfield 55, 3) := by decide +kernel
theorem dX12_made_120 : decode cX12_made 120 = .ok (.iload_n 3, 1) := by decide +kernel
theorem dX12_made_121 : decode cX12_made 121 = .ok (.iconst 1, 1) := by decide +kernel
theorem dX12_made_122 : decode cX12_made 122 = .ok (.isub, 1) := by decide +kernel
theorem dX12_made_123 : decode cX12_made 123 = .ok (.aload_n 0, 1) := by decide +kernel
theorem dX12_made_124 : decode cX12_made 124 = .ok (.getfield 55, 3) := by decide +kernel
theorem dX12_made_127 : decode cX12_made 127 = .ok (.iload_n 3, 1) := by decide +kernel
theorem dX12_made_128 : decode cX12_made 128 = .ok (.iconst 1, 1) := by decide +kernel
theorem dX12_made_129 : decode cX12_made 129 = .ok (.isub, 1) := by decide +kernel
theorem dX12_made_130 : decode cX12_made 130 = .ok (.iaload, 1) := by decide +kernel
theorem dX12_made_131 : decode cX12_made 131 = .ok (.iconst 2, 1) := by decide +kernel
theorem dX12_made_132 : decode cX12_made 132 = .ok (.if_icmp .ne 7, 3) := by decide +kernel
theorem dX12_made_135 : decode cX12_made 135 = .ok (.iconst 2, 1) := by decide +kernel
theorem dX12_made_136 : decode cX12_made 136 = .ok (.goto 13, 3) := by decide +kernel
theorem dX12_made_139 : decode cX12_made 139 = .ok (.iconst 1, 1) := by decide +kernel
theorem dX12_made_140 : decode cX12_made 140 = .ok (.aload_n 0, 1) := by decide +kernel
theorem dX12_made_141 : decode cX12_made 141 = .ok (.getfield 55, 3) := by decide +kernel
theorem dX12_made_144 : decode cX12_made 144 = .ok (.iload_n 3, 1) := by decide +kernel
theorem dX12_made_145 : decode cX12_made 145 = .ok (.iconst 1, 1) := by decide +kernel
theorem dX12_made_146 : decode cX12_made 146 = .ok (.isub, 1) := by decide +kernel
theorem dX12_made_147 : decode cX12_made 147 = .ok (.iaload, 1) := by decide +kernel
theorem dX12_made_148 : decode cX12_made 148 = .ok (.isub, 1) := by decide +kernel
theorem dX12_made_149 : decode cX12_made 149 = .ok (.iastore, 1) := by decide +kernel
theorem dX12_made_150 : decode cX12_made 150 = .ok (.goto 72, 3) := by decide +kernel
theorem dX12_made_153 : decode cX12_made 153 = .ok (.iinc 3 (-1), 3) := by decide +kernel
theorem dX12_made_156 : decode cX12_made 156 = .ok (.aload_n 0, 1) := by decide +kernel
theorem dX12_made_157 : decode cX12_made 157 = .ok (.getfield 55, 3) := by decide +kernel
theorem dX12_made_160 : decode cX12_made 160 = .ok (.iload_n 3, 1) := by decide +kernel
theorem dX12_made_161 : decode cX12_made 161 = .ok (.iconst 1, 1) := by decide +kernel
theorem dX12_made_162 : decode cX12_made 162 = .ok (.isub, 1) := by decide +kernel
theorem dX12_made_163 : decode cX12_made 163 = .ok (.iload 5, 2) := by decide +kernel
theorem dX12_made_165 : decode cX12_made 165 = .ok (.aload_n 0, 1) := by decide +kernel
theorem dX12_made_166 : decode cX12_made 166 = .ok (.getfield 55, 3) := by decide +kernel
theorem dX12_made_169 : decode cX12_made 169 = .ok (.iload_n 3, 1) := by decide +kernel
theorem dX12_made_170 : decode cX12_made 170 = .ok (.iconst 1, 1) := by decide +kernel
theorem dX12_made_171 : decode cX12_made 171 = .ok (.isub, 1) := by decide +kernel
theorem dX12_made_172 : decode cX12_made 172 = .ok (.iaload, 1) := by decide +kernel
theorem dX12_made_173 : decode cX12_made 173 = .ok (.aload_n 0, 1) := by decide +kernel
theorem dX12_made_174 : decode cX12_made 174 = .ok (.getfield 55, 3) := by decide +kernel
theorem dX12_made_177 : decode cX12_made 177 = .ok (.iload_n 3, 1) := by decide +kernel
theorem dX12_made_178 : decode cX12_made 178 = .ok (.iaload, 1) := by decide +kernel
theorem dX12_made_179 : decode cX12_made 179 = .ok (.invokestatic 166, 3) := by decide +kernel
theorem dX12_made_182 : decode cX12_made 182 = .ok (.iastore, 1) := by decide +kernel
theorem dX12_made_183 : decode cX12_made 183 = .ok (.goto 39, 3) := by decide +kernel
theorem dX12_made_186 : decode cX12_made 186 = .ok (.iinc 3 (-2), 3) := by decide +kernel
theorem dX12_made_189 : decode cX12_made 189 = .ok (.aload_n 0, 1) := by decide +kernel
theorem dX12_made_190 : decode cX12_made 190 = .ok (.getfield 55, 3) := by decide +kernel
theorem dX12_made_193 : decode cX12_made 193 = .ok (.iload_n 3, 1) := by decide +kernel
theorem dX12_made_194 : decode cX12_made 194 = .ok (.iconst 1, 1) := by decide +kernel
theorem dX12_made_195 : decode cX12_made 195 = .ok (.isub, 1) := by decide +kernel
theorem dX12_made_196 : decode cX12_made 196 = .ok (.aload_n 0, 1) := by decide +kernel
theorem dX12_made_197 : decode cX12_made 197 = .ok (.getfield 55, 3) := by decide +kernel
theorem dX12_made_200 : decode cX12_made 200 = .ok (.iload_n 3, 1) := by decide +kernel
theorem dX12_made_201 : decode cX12_made 201 = .ok (.iconst 1, 1) := by decide +kernel
theorem dX12_made_202 : decode cX12_made 202 = .ok (.isub, 1) := by decide +kernel
theorem dX12_made_203 : decode cX12_made 203 = .ok (.iaload, 1) := by decide +kernel
theorem dX12_made_204 : decode cX12_made 204 = .ok (.aload_n 0, 1) := by decide +kernel
theorem dX12_made_205 : decode cX12_made 205 = .ok (.getfield 55, 3) := by decide +kernel
theorem dX12_made_208 : decode cX12_made 208 = .ok (.iload_n 3, 1) := by decide +kernel
theorem dX12_made_209 : decode cX12_made 209 = .ok (.iaload, 1) := by decide +kernel
theorem dX12_made_210 : decode cX12_made 210 = .ok (.aload_n 0, 1) := by decide +kernel
theorem dX12_made_211 : decode cX12_made 211 = .ok (.getfield 55, 3) := by decide +kernel
theorem dX12_made_214 : decode cX12_made 214 = .ok (.iload_n 3, 1) := by decide +kernel
theorem dX12_made_215 : decode cX12_made 215 = .ok (.iconst 1, 1) := by decide +kernel
theorem dX12_made_216 : decode cX12_made 216 = .ok (.iadd, 1) := by decide +kernel
theorem dX12_made_217 : decode cX12_made 217 = .ok (.iaload, 1) := by decide +kernel
theorem dX12_made_218 : decode cX12_made 218 = .ok (.invokestatic 170, 3) := by decide +kernel
theorem dX12_made_221 : decode cX12_made 221 = .ok (.iastore, 1) := by decide +kernel
theorem dX12_made_222 : decode cX12_made 222 = .ok (.iinc 4 1, 3) := by decide +kernel
theorem dX12_made_225 : decode cX12_made 225 = .ok (.goto (-220), 3) := by decide +kernel
theorem dX12_made_228 : decode cX12_made 228 = .ok (.aload_n 0, 1) := by decide +kernel
theorem dX12_made_229 : decode cX12_made 229 = .ok (.getfield 55, 3) := by decide +kernel
theorem dX12_made_232 : decode cX12_made 232 = .ok (.iconst 0, 1) := by decide +kernel
theorem dX12_made_233 : decode cX12_made 233 = .ok (.iaload, 1) := by decide +kernel
theorem dX12_made_234 : decode cX12_made 234 = .ok (.ireturn, 1) := by decide +kernel
def kX12_made_0 : List (Nat × zT) := [(0, a_i 0 1), (1, a_istore 3 2), (2, a_i 0 3), (3, a_istore 4 5), (5, a_iload 4 7), (7, a_aload 0 8), (8, a_getR 12 4 11), (11, a_i 19 13), (13, a_iload 1 14), (14, a_ii (fun x y => x * y) 15), (15, a_iload 2 16), (16, a_ii (fun x y => x + y) 17), (17, a_iald 18), (18, a_ic_ge 228 21), (21, a_aload 0 22), (22, a_getR 12 2 25), (25, a_i 200 28), (28, a_iload 1 29), (29, a_ii (fun x y => x * y) 30), (30, a_aload 0 31), (31, a_getR 12 3 34), (34, a_i 19 36), (36, a_iload 1 37), (37, a_ii (fun x y => x * y) 38)]
theorem oX12_made_0 : ∀ q ∈ kX12_made_0, zSnd zty false RX12 cX12_made 6 (some .int) false q := List.forall_mem_cons.mpr ⟨ok_iconst dX12_made_0 (by decide), List.forall_mem_cons.mpr ⟨ok_istore_n dX12_made_1 rfl (by decide), List.forall_mem_cons.mpr ⟨ok_iconst dX12_made_2 (by decide), List.forall_mem_cons.mpr ⟨ok_istore dX12_made_3 (by decide), List.forall_mem_cons.mpr ⟨ok_iload dX12_made_5, List.forall_mem_cons.mpr ⟨ok_aload_n dX12_made_7 rfl, List.forall_mem_cons.mpr ⟨ok_getR dX12_made_8 rfl in12 (by decide) rfl w961, List.forall_mem_cons.mpr ⟨ok_bipush dX12_made_11 (by decide), List.forall_mem_cons.mpr ⟨ok_iload_n dX12_made_13 rfl, List.forall_mem_cons.mpr ⟨ok_imul dX12_made_14, List.forall_mem_cons.mpr ⟨ok_iload_n dX12_made_15 rfl, List.forall_mem_cons.mpr ⟨ok_iadd dX12_made_16, List.forall_mem_cons.mpr ⟨ok_iald dX12_made_17, List.forall_mem_cons.mpr ⟨ok_ic_ge dX12_made_18 (by decide), List.forall_mem_cons.mpr ⟨ok_aload_n dX12_made_21 rfl, List.forall_mem_cons.mpr ⟨ok_getR dX12_made_22 rfl in12 (by decide) rfl w959, List.forall_mem_cons.mpr ⟨ok_sipush dX12_made_25 (by decide), List.forall_mem_cons.mpr ⟨ok_iload_n dX12_made_28 rfl, List.forall_mem_cons.mpr ⟨ok_imul dX12_made_29, List.forall_mem_cons.mpr ⟨ok_aload_n dX12_made_30 rfl, List.forall_mem_cons.mpr ⟨ok_getR dX12_made_31 rfl in12 (by decide) rfl w960, List.forall_mem_cons.mpr ⟨ok_bipush dX12_made_34 (by decide), List.forall_mem_cons.mpr ⟨ok_iload_n dX12_made_36 rfl, List.forall_mem_cons.mpr ⟨ok_imul dX12_made_37, fun _ h => absurd h List.not_mem_nil⟩⟩⟩⟩⟩⟩⟩⟩⟩⟩⟩⟩⟩⟩⟩⟩⟩⟩⟩⟩⟩⟩⟩⟩
def kX12_made_1 : List (Nat × zT) := [(38, a_iload 2 39), (39, a_ii (fun x y => x + y) 40), (40, a_iald 41), (41, a_ii (fun x y => x + y) 42), (42, a_iload 4 44), (44, a_ii (fun x y => x + y) 45), (45, a_iald 46), (46, a_istore 5 48), (48, a_iload 5 50), (50, a_call 141 1 53 0 0), (53, a_sw [(0, 80), (1, 116), (2, 153)] 186), (80, a_aload 0 81), (81, a_getR 12 17 84), (84, a_iload 3 85), (85, a_iload 5 87), (87, a_i 50 89), (89, a_ic_ge 100 92), (92, a_iload 5 94), (94, a_i 48 96), (96, a_ii (fun x y => x - y) 97), (97, a_goto 109), (100, a_aload 0 101), (101, a_iload 5 103), (103, a_i 97 105)]
theorem oX12_made_1 : ∀ q ∈ kX12_made_1, zSnd zty false RX12 cX12_made 6 (some .int) false q := List.forall_mem_cons.mpr ⟨ok_iload_n dX12_made_38 rfl, List.forall_mem_cons.mpr ⟨ok_iadd dX12_made_39, List.forall_mem_cons.mpr ⟨ok_iald dX12_made_40, List.forall_mem_cons.mpr ⟨ok_iadd dX12_made_41, List.forall_mem_cons.mpr ⟨ok_iload dX12_made_42, List.forall_mem_cons.mpr ⟨ok_iadd dX12_made_44, List.forall_mem_cons.mpr ⟨ok_iald dX12_made_45, List.forall_mem_cons.mpr ⟨ok_istore dX12_made_46 (by decide), List.forall_mem_cons.mpr ⟨ok_iload dX12_made_48, List.forall_mem_cons.mpr ⟨ok_callS dX12_made_50 rfl w1100 w1098 w1099 w13 (by decide +kernel) (by decide), List.forall_mem_cons.mpr ⟨ok_tsw dX12_made_53 (by decide) (by decide) (by decide) (by decide), List.forall_mem_cons.mpr ⟨ok_aload_n dX12_made_80 rfl, List.forall_mem_cons.mpr ⟨ok_getR dX12_made_81 rfl in12 (by decide) rfl w974, List.forall_mem_cons.mpr ⟨ok_iload_n dX12_made_84 rfl, List.forall_mem_cons.mpr ⟨ok_iload dX12_made_85, List.forall_mem_cons.mpr ⟨ok_bipush dX12_made_87 (by decide), List.forall_mem_cons.mpr ⟨ok_ic_ge dX12_made_89 (by decide), List.forall_mem_cons.mpr ⟨ok_iload dX12_made_92, List.forall_mem_cons.mpr ⟨ok_bipush dX12_made_94 (by decide), List.forall_mem_cons.mpr ⟨ok_isub dX12_made_96, List.forall_mem_cons.mpr ⟨ok_goto dX12_made_97 (by decide), List.forall_mem_cons.mpr ⟨ok_aload_n dX12_made_100 rfl, List.forall_mem_cons.mpr ⟨ok_iload dX12_made_101, List.forall_mem_cons.mpr ⟨ok_bipush dX12_made_103 (by decide), fun _ h => absurd h List.not_mem_nil⟩⟩⟩⟩⟩⟩⟩⟩⟩⟩⟩⟩⟩⟩⟩⟩⟩⟩⟩⟩⟩⟩⟩⟩
def kX12_made_2 : List (Nat × zT) := [(105, a_ii (fun x y => x - y) 106), (106, a_callV 12 158 2 109 0 0), (109, a_iast 110), (110, a_iinc 3 1 113), (113, a_goto 222), (116, a_aload 0 117), (117, a_getR 12 17 120), (120, a_iload 3 121), (121, a_i 1 122), (122, a_ii (fun x y => x - y) 123), (123, a_aload 0 124), (124, a_getR 12 17 127), (127, a_iload 3 128), (128, a_i 1 129), (129, a_ii (fun x y => x - y) 130), (130, a_iald 131), (131, a_i 2 132), (132, a_ic_ne 139 135), (135, a_i 2 136), (136, a_goto 149), (139, a_i 1 140), (140, a_aload 0 141), (141, a_getR 12 17 144), (144, a_iload 3 145)]
theorem oX12_made_2 : ∀ q ∈ kX12_made_2, zSnd zty false RX12 cX12_made 6 (some .int) false q := List.forall_mem_cons.mpr ⟨ok_isub dX12_made_105, List.forall_mem_cons.mpr ⟨ok_callV dX12_made_106 rfl rfl w1172 w1169 w1171 w13 s35 (by decide +kernel) (by decide), List.forall_mem_cons.mpr ⟨ok_iast dX12_made_109, List.forall_mem_cons.mpr ⟨ok_iinc dX12_made_110 (by decide) (by decide), List.forall_mem_cons.mpr ⟨ok_goto dX12_made_113 (by decide), List.forall_mem_cons.mpr ⟨ok_aload_n dX12_made_116 rfl, List.forall_mem_cons.mpr ⟨ok_getR dX12_made_117 rfl in12 (by decide) rfl w974, List.forall_mem_cons.mpr ⟨ok_iload_n dX12_made_120 rfl, List.forall_mem_cons.mpr ⟨ok_iconst dX12_made_121 (by decide), List.forall_mem_cons.mpr ⟨ok_isub dX12_made_122, List.forall_mem_cons.mpr ⟨ok_aload_n dX12_made_123 rfl, List.forall_mem_cons.mpr ⟨ok_getR dX12_made_124 rfl in12 (by decide) rfl w974, List.forall_mem_cons.mpr ⟨ok_iload_n dX12_made_127 rfl, List.forall_mem_cons.mpr ⟨ok_iconst dX12_made_128 (by decide), List.forall_mem_cons.mpr ⟨ok_isub dX12_made_129, List.forall_mem_cons.mpr ⟨ok_iald dX12_made_130, List.forall_mem_cons.mpr ⟨ok_iconst dX12_made_131 (by decide), List.forall_mem_cons.mpr ⟨ok_ic_ne dX12_made_132 (by decide), List.forall_mem_cons.mpr ⟨ok_iconst dX12_made_135 (by decide), List.forall_mem_cons.mpr ⟨ok_goto dX12_made_136 (by decide), List.forall_mem_cons.mpr ⟨ok_iconst dX12_made_139 (by decide), List.forall_mem_cons.mpr ⟨ok_aload_n dX12_made_140 rfl, List.forall_mem_cons.mpr ⟨ok_getR dX12_made_141 rfl in12 (by decide) rfl w974, List.forall_mem_cons.mpr ⟨ok_iload_n dX12_made_144 rfl, fun _ h => absurd h List.not_mem_nil⟩⟩⟩⟩⟩⟩⟩⟩⟩⟩⟩⟩⟩⟩⟩⟩⟩⟩⟩⟩⟩⟩⟩⟩
def kX12_made_3 : List (Nat × zT) := [(145, a_i 1 146), (146, a_ii (fun x y => x - y) 147), (147, a_iald 148), (148, a_ii (fun x y => x - y) 149), (149, a_iast 150), (150, a_goto 222), (153, a_iinc 3 (-1) 156), (156, a_aload 0 157), (157, a_getR 12 17 160), (160, a_iload 3 161), (161, a_i 1 162), (162, a_ii (fun x y => x - y) 163), (163, a_iload 5 165), (165, a_aload 0 166), (166, a_getR 12 17 169), (169, a_iload 3 170), (170, a_i 1 171), (171, a_ii (fun x y => x - y) 172), (172, a_iald 173), (173, a_aload 0 174), (174, a_getR 12 17 177), (177, a_iload 3 178), (178, a_iald 179), (179, a_call 156 3 182 0 0)]
theorem oX12_made_3 : ∀ q ∈ kX12_made_3, zSnd zty false RX12 cX12_made 6 (some .int) false q := List.forall_mem_cons.mpr ⟨ok_iconst dX12_made_145 (by decide), List.forall_mem_cons.mpr ⟨ok_isub dX12_made_146, List.forall_mem_cons.mpr ⟨ok_iald dX12_made_147, List.forall_mem_cons.mpr ⟨ok_isub dX12_made_148, List.forall_mem_cons.mpr ⟨ok_iast dX12_made_149, List.forall_mem_cons.mpr ⟨ok_goto dX12_made_150 (by decide), List.forall_mem_cons.mpr ⟨ok_iinc dX12_made_153 (by decide) (by decide), List.forall_mem_cons.mpr ⟨ok_aload_n dX12_made_156 rfl, List.forall_mem_cons.mpr ⟨ok_getR dX12_made_157 rfl in12 (by decide) rfl w974, List.forall_mem_cons.mpr ⟨ok_iload_n dX12_made_160 rfl, List.forall_mem_cons.mpr ⟨ok_iconst dX12_made_161 (by decide), List.forall_mem_cons.mpr ⟨ok_isub dX12_made_162, List.forall_mem_cons.mpr ⟨ok_iload dX12_made_163, List.forall_mem_cons.mpr ⟨ok_aload_n dX12_made_165 rfl, List.forall_mem_cons.mpr ⟨ok_getR dX12_made_166 rfl in12 (by decide) rfl w974, List.forall_mem_cons.mpr ⟨ok_iload_n dX12_made_169 rfl, List.forall_mem_cons.mpr ⟨ok_iconst dX12_made_170 (by decide), List.forall_mem_cons.mpr ⟨ok_isub dX12_made_171, List.forall_mem_cons.mpr ⟨ok_iald dX12_made_172, List.forall_mem_cons.mpr ⟨ok_aload_n dX12_made_173 rfl, List.forall_mem_cons.mpr ⟨ok_getR dX12_made_174 rfl in12 (by decide) rfl w974, List.forall_mem_cons.mpr ⟨ok_iload_n dX12_made_177 rfl, List.forall_mem_cons.mpr ⟨ok_iald dX12_made_178, List.forall_mem_cons.mpr ⟨ok_callS dX12_made_179 rfl w1175 w1173 w1174 w13 (by decide +kernel) (by decide), fun _ h => absurd h List.not_mem_nil⟩⟩⟩⟩⟩⟩⟩⟩⟩⟩⟩⟩⟩⟩⟩⟩⟩⟩⟩⟩⟩⟩⟩⟩
def kX12_made_4 : List (Nat × zT) := [(182, a_iast 183), (183, a_goto 222), (186, a_iinc 3 (-2) 189), (189, a_aload 0 190), (190, a_getR 12 17 193), (193, a_iload 3 194), (194, a_i 1 195), (195, a_ii (fun x y => x - y) 196), (196, a_aload 0 197), (197, a_getR 12 17 200), (200, a_iload 3 201), (201, a_i 1 202), (202, a_ii (fun x y => x - y) 203), (203, a_iald 204), (204, a_aload 0 205), (205, a_getR 12 17 208), (208, a_iload 3 209), (209, a_iald 210), (210, a_aload 0 211), (211, a_getR 12 17 214), (214, a_iload 3 215), (215, a_i 1 216), (216, a_ii (fun x y => x + y) 217), (217, a_iald 218)]
theorem oX12_made_4 : ∀ q ∈ kX12_made_4, zSnd zty false RX12 cX12_made 6 (some .int) false q := List.forall_mem_cons.mpr ⟨ok_iast dX12_made_182, List.forall_mem_cons.mpr ⟨ok_goto dX12_made_183 (by decide), List.forall_mem_cons.mpr ⟨ok_iinc dX12_made_186 (by decide) (by decide), List.forall_mem_cons.mpr ⟨ok_aload_n dX12_made_189 rfl, List.forall_mem_cons.mpr ⟨ok_getR dX12_made_190 rfl in12 (by decide) rfl w974, List.forall_mem_cons.mpr ⟨ok_iload_n dX12_made_193 rfl, List.forall_mem_cons.mpr ⟨ok_iconst dX12_made_194 (by decide), List.forall_mem_cons.mpr ⟨ok_isub dX12_made_195, List.forall_mem_cons.mpr ⟨ok_aload_n dX12_made_196 rfl, List.forall_mem_cons.mpr ⟨ok_getR dX12_made_197 rfl in12 (by decide) rfl w974, List.forall_mem_cons.mpr ⟨ok_iload_n dX12_made_200 rfl, List.forall_mem_cons.mpr ⟨ok_iconst dX12_made_201 (by decide), List.forall_mem_cons.mpr ⟨ok_isub dX12_made_202, List.forall_mem_cons.mpr ⟨ok_iald dX12_made_203, List.forall_mem_cons.mpr ⟨ok_aload_n dX12_made_204 rfl, List.forall_mem_cons.mpr ⟨ok_getR dX12_made_205 rfl in12 (by decide) rfl w974, List.forall_mem_cons.mpr ⟨ok_iload_n dX12_made_208 rfl, List.forall_mem_cons.mpr ⟨ok_iald dX12_made_209, List.forall_mem_cons.mpr ⟨ok_aload_n dX12_made_210 rfl, List.forall_mem_cons.mpr ⟨ok_getR dX12_made_211 rfl in12 (by decide) rfl w974, List.forall_mem_cons.mpr ⟨ok_iload_n dX12_made_214 rfl, List.forall_mem_cons.mpr ⟨ok_iconst dX12_made_215 (by decide), List.forall_mem_cons.mpr ⟨ok_iadd dX12_made_216, List.forall_mem_cons.mpr ⟨ok_iald dX12_made_217, fun _ h => absurd h List.not_mem_nil⟩⟩⟩⟩⟩⟩⟩⟩⟩⟩⟩⟩⟩⟩⟩⟩⟩⟩⟩⟩⟩⟩⟩⟩
def kX12_made_5 : List (Nat × zT) := [(218, a_call 157 3 221 0 0), (221, a_iast 222), (222, a_iinc 4 1 225), (225, a_goto 5), (228, a_aload 0 229), (229, a_getR 12 17 232), (232, a_i 0 233), (233, a_iald 234), (234, a_iret false)]
theorem oX12_made_5 : ∀ q ∈ kX12_made_5, zSnd zty false RX12 cX12_made 6 (some .int) false q := List.forall_mem_cons.mpr ⟨ok_callS dX12_made_218 rfl w1178 w1176 w1177 w13 (by decide +kernel) (by decide), List.forall_mem_cons.mpr ⟨ok_iast dX12_made_221, List.forall_mem_cons.mpr ⟨ok_iinc dX12_made_222 (by decide) (by decide), List.forall_mem_cons.mpr ⟨ok_goto dX12_made_225 (by decide), List.forall_mem_cons.mpr ⟨ok_aload_n dX12_made_228 rfl, List.forall_mem_cons.mpr ⟨ok_getR dX12_made_229 rfl in12 (by decide) rfl w974, List.forall_mem_cons.mpr ⟨ok_iconst dX12_made_232 (by decide), List.forall_mem_cons.mpr ⟨ok_iald dX12_made_233, List.forall_mem_cons.mpr ⟨ok_iret (bz := false) dX12_made_234 rfl, fun _ h => absurd h List.not_mem_nil⟩⟩⟩⟩⟩⟩⟩⟩⟩
def kX12_made : List (Nat × zT) := kX12_made_0 ++ (kX12_made_1 ++ (kX12_made_2 ++ (kX12_made_3 ++ (kX12_made_4 ++ (kX12_made_5)))))
theorem qX12_made_0 : ∀ q ∈ kX12_made_0, q ∈ kX12_made := fun _ h => (List.mem_append_left _ h)
theorem tX12_made_0 : (0, a_i 0 1) ∈ kX12_made := qX12_made_0 _ (List.mem_of_getElem? (i := 0) rfl)
theorem tX12_made_1 : (1, a_istore 3 2) ∈ kX12_made := qX12_made_0 _ (List.mem_of_getElem? (i := 1) rfl)
theorem tX12_made_2 : (2, a_i 0 3) ∈ kX12_made := qX12_made_0 _ (List.mem_of_getElem? (i := 2) rfl)
theorem tX12_made_3 : (3, a_istore 4 5) ∈ kX12_made := qX12_made_0 _ (List.mem_of_getElem? (i := 3) rfl)
theorem tX12_made_5 : (5, a_iload 4 7) ∈ kX12_made := qX12_made_0 _ (List.mem_of_getElem? (i := 4) rfl)
theorem tX12_made_7 : (7, a_aload 0 8) ∈ kX12_made := qX12_made_0 _ (List.mem_of_getElem? (i := 5) rfl)
theorem tX12_made_8 : (8, a_getR 12 4 11) ∈ kX12_made := qX12_made_0 _ (List.mem_of_getElem? (i := 6) rfl)
theorem tX12_made_11 : (11, a_i 19 13) ∈ kX12_made := qX12_made_0 _ (List.mem_of_getElem? (i := 7) rfl)
theorem tX12_made_13 : (13, a_iload 1 14) ∈ kX12_made := qX12_made_0 _ (List.mem_of_getElem? (i := 8) rfl)
theorem tX12_made_14 : (14, a_ii (fun x y => x * y) 15) ∈ kX12_made := qX12_made_0 _ (List.mem_of_getElem? (i := 9) rfl)
theorem tX12_made_15 : (15, a_iload 2 16) ∈ kX12_made := qX12_made_0 _ (List.mem_of_getElem? (i := 10) rfl)
theorem tX12_made_16 : (16, a_ii (fun x y => x + y) 17) ∈ kX12_made := qX12_made_0 _ (List.mem_of_getElem? (i := 11) rfl)
theorem tX12_made_17 : (17, a_iald 18) ∈ kX12_made := qX12_made_0 _ (List.mem_of_getElem? (i := 12) rfl)
theorem tX12_made_18 : (18, a_ic_ge 228 21) ∈ kX12_made := qX12_made_0 _ (List.mem_of_getElem? (i := 13) rfl)
theorem tX12_made_21 : (21, a_aload 0 22) ∈ kX12_made := qX12_made_0 _ (List.mem_of_getElem? (i := 14) rfl)
theorem tX12_made_22 : (22, a_getR 12 2 25) ∈ kX12_made := qX12_made_0 _ (List.mem_of_getElem? (i := 15) rfl)
theorem tX12_made_25 : (25, a_i 200 28) ∈ kX12_made := qX12_made_0 _ (List.mem_of_getElem? (i := 16) rfl)
theorem tX12_made_28 : (28, a_iload 1 29) ∈ kX12_made := qX12_made_0 _ (List.mem_of_getElem? (i := 17) rfl)
theorem tX12_made_29 : (29, a_ii (fun x y => x * y) 30) ∈ kX12_made := qX12_made_0 _ (List.mem_of_getElem? (i := 18) rfl)
theorem tX12_made_30 : (30, a_aload 0 31) ∈ kX12_made := qX12_made_0 _ (List.mem_of_getElem? (i := 19) rfl)
theorem tX12_made_31 : (31, a_getR 12 3 34) ∈ kX12_made := qX12_made_0 _ (List.mem_of_getElem? (i := 20) rfl)
theorem tX12_made_34 : (34, a_i 19 36) ∈ kX12_made := qX12_made_0 _ (List.mem_of_getElem? (i := 21) rfl)
theorem tX12_made_36 : (36, a_iload 1 37) ∈ kX12_made := qX12_made_0 _ (List.mem_of_getElem? (i := 22) rfl)
theorem tX12_made_37 : (37, a_ii (fun x y => x * y) 38) ∈ kX12_made := qX12_made_0 _ (List.mem_of_getElem? (i := 23) rfl)
theorem qX12_made_1 : ∀ q ∈ kX12_made_1, q ∈ kX12_made := fun _ h => (List.mem_append_right _ (List.mem_append_left _ h))
theorem tX12_made_38 : (38, a_iload 2 39) ∈ kX12_made := qX12_made_1 _ (List.mem_of_getElem? (i := 0) rfl)
theorem tX12_made_39 : (39, a_ii (fun x y => x + y) 40) ∈ kX12_made := qX12_made_1 _ (List.mem_of_getElem? (i := 1) rfl)
theorem tX12_made_40 : (40, a_iald 41) ∈ kX12_made := qX12_made_1 _ (List.mem_of_getElem? (i := 2) rfl)
theorem tX12_made_41 : (41, a_ii (fun x y => x + y) 42) ∈ kX12_made := qX12_made_1 _ (List.mem_of_getElem? (i := 3) rfl)
theorem tX12_made_42 : (42, a_iload 4 44) ∈ kX12_made := qX12_made_1 _ (List.mem_of_getElem? (i := 4) rfl)
theorem tX12_made_44 : (44, a_ii (fun x y => x + y) 45) ∈ kX12_made := qX12_made_1 _ (List.mem_of_getElem? (i := 5) rfl)
theorem tX12_made_45 : (45, a_iald 46) ∈ kX12_made := qX12_made_1 _ (List.mem_of_getElem? (i := 6) rfl)
theorem tX12_made_46 : (46, a_istore 5 48) ∈ kX12_made := qX12_made_1 _ (List.mem_of_getElem? (i := 7) rfl)
theorem tX12_made_48 : (48, a_iload 5 50) ∈ kX12_made := qX12_made_1 _ (List.mem_of_getElem? (i := 8) rfl)
theorem tX12_made_50 : (50, a_call 141 1 53 0 0) ∈ kX12_made := qX12_made_1 _ (List.mem_of_getElem? (i := 9) rfl)
theorem tX12_made_53 : (53, a_sw [(0, 80), (1, 116), (2, 153)] 186) ∈ kX12_made := qX12_made_1 _ (List.mem_of_getElem? (i := 10) rfl)
theorem tX12_made_80 : (80, a_aload 0 81) ∈ kX12_made := qX12_made_1 _ (List.mem_of_getElem? (i := 11) rfl)
theorem tX12_made_81 : (81, a_getR 12 17 84) ∈ kX12_made := qX12_made_1 _ (List.mem_of_getElem? (i := 12) rfl)
theorem tX12_made_84 : (84, a_iload 3 85) ∈ kX12_made := qX12_made_1 _ (List.mem_of_getElem? (i := 13) rfl)
theorem tX12_made_85 : (85, a_iload 5 87) ∈ kX12_made := qX12_made_1 _ (List.mem_of_getElem? (i := 14) rfl)
theorem tX12_made_87 : (87, a_i 50 89) ∈ kX12_made := qX12_made_1 _ (List.mem_of_getElem? (i := 15) rfl)
theorem tX12_made_89 : (89, a_ic_ge 100 92) ∈ kX12_made := qX12_made_1 _ (List.mem_of_getElem? (i := 16) rfl)
theorem tX12_made_92 : (92, a_iload 5 94) ∈ kX12_made := qX12_made_1 _ (List.mem_of_getElem? (i := 17) rfl)
theorem tX12_made_94 : (94, a_i 48 96) ∈ kX12_made := qX12_made_1 _ (List.mem_of_getElem? (i := 18) rfl)
theorem tX12_made_96 : (96, a_ii (fun x y => x - y) 97) ∈ kX12_made := qX12_made_1 _ (List.mem_of_getElem? (i := 19) rfl)
theorem tX12_made_97 : (97, a_goto 109) ∈ kX12_made := qX12_made_1 _ (List.mem_of_getElem? (i := 20) rfl)
theorem tX12_made_100 : (100, a_aload 0 101) ∈ kX12_made := qX12_made_1 _ (List.mem_of_getElem? (i := 21) rfl)
theorem tX12_made_101 : (101, a_iload 5 103) ∈ kX12_made := qX12_made_1 _ (List.mem_of_getElem? (i := 22) rfl)
theorem tX12_made_103 : (103, a_i 97 105) ∈ kX12_made := qX12_made_1 _ (List.mem_of_getElem? (i := 23) rfl)
theorem qX12_made_2 : ∀ q ∈ kX12_made_2, q ∈ kX12_made := fun _ h => (List.mem_append_right _ (List.mem_append_right _ (List.mem_append_left _ h)))
theorem tX12_made_105 : (105, a_ii (fun x y => x - y) 106) ∈ kX12_made := qX12_made_2 _ (List.mem_of_getElem? (i := 0) rfl)
theorem tX12_made_106 : (106, a_callV 12 158 2 109 0 0) ∈ kX12_made := qX12_made_2 _ (List.mem_of_getElem? (i := 1) rfl)
theorem tX12_made_109 : (109, a_iast 110) ∈ kX12_made := qX12_made_2 _ (List.mem_of_getElem? (i := 2) rfl)
theorem tX12_made_110 : (110, a_iinc 3 1 113) ∈ kX12_made := qX12_made_2 _ (List.mem_of_getElem? (i := 3) rfl)
theorem tX12_made_113 : (113, a_goto 222) ∈ kX12_made := qX12_made_2 _ (List.mem_of_getElem? (i := 4) rfl)
theorem tX12_made_116 : (116, a_aload 0 117) ∈ kX12_made := qX12_made_2 _ (List.mem_of_getElem? (i := 5) rfl)
theorem tX12_made_117 : (117, a_getR 12 17 120) ∈ kX12_made := qX12_made_2 _ (List.mem_of_getElem? (i := 6) rfl)
theorem tX12_made_120 : (120, a_iload 3 121) ∈ kX12_made := qX12_made_2 _ (List.mem_of_getElem? (i := 7) rfl)
theorem tX12_made_121 : (121, a_i 1 122) ∈ kX12_made := qX12_made_2 _ (List.mem_of_getElem? (i := 8) rfl)
theorem tX12_made_122 : (122, a_ii (fun x y => x - y) 123) ∈ kX12_made := qX12_made_2 _ (List.mem_of_getElem? (i := 9) rfl)
theorem tX12_made_123 : (123, a_aload 0 124) ∈ kX12_made := qX12_made_2 _ (List.mem_of_getElem? (i := 10) rfl)
theorem tX12_made_124 : (124, a_getR 12 17 127) ∈ kX12_made := qX12_made_2 _ (List.mem_of_getElem? (i := 11) rfl)
theorem tX12_made_127 : (127, a_iload 3 128) ∈ kX12_made := qX12_made_2 _ (List.mem_of_getElem? (i := 12) rfl)
theorem tX12_made_128 : (128, a_i 1 129) ∈ kX12_made := qX12_made_2 _ (List.mem_of_getElem? (i := 13) rfl)
theorem tX12_made_129 : (129, a_ii (fun x y => x - y) 130) ∈ kX12_made := qX12_made_2 _ (List.mem_of_getElem? (i := 14) rfl)
theorem tX12_made_130 : (130, a_iald 131) ∈ kX12_made := qX12_made_2 _ (List.mem_of_getElem? (i := 15) rfl)
theorem tX12_made_131 : (131, a_i 2 132) ∈ kX12_made := qX12_made_2 _ (List.mem_of_getElem? (i := 16) rfl)
theorem tX12_made_132 : (132, a_ic_ne 139 135) ∈ kX12_made := qX12_made_2 _ (List.mem_of_getElem? (i := 17) rfl)
theorem tX12_made_135 : (135, a_i 2 136) ∈ kX12_made := qX12_made_2 _ (List.mem_of_getElem? (i := 18) rfl)
theorem tX12_made_136 : (136, a_goto 149) ∈ kX12_made := qX12_made_2 _ (List.mem_of_getElem? (i := 19) rfl)
theorem tX12_made_139 : (139, a_i 1 140) ∈ kX12_made := qX12_made_2 _ (List.mem_of_getElem? (i := 20) rfl)
theorem tX12_made_140 : (140, a_aload 0 141) ∈ kX12_made := qX12_made_2 _ (List.mem_of_getElem? (i := 21) rfl)
theorem tX12_made_141 : (141, a_getR 12 17 144) ∈ kX12_made := qX12_made_2 _ (List.mem_of_getElem? (i := 22) rfl)
theorem tX12_made_144 : (144, a_iload 3 145) ∈ kX12_made := qX12_made_2 _ (List.mem_of_getElem? (i := 23) rfl)
theorem qX12_made_3 : ∀ q ∈ kX12_made_3, q ∈ kX12_made := fun _ h => (List.mem_append_right _ (List.mem_append_right _ (List.mem_append_right _ (List.mem_append_left _ h))))
theorem tX12_made_145 : (145, a_i 1 146) ∈ kX12_made := qX12_made_3 _ (List.mem_of_getElem? (i := 0) rfl)
theorem tX12_made_146 : (146, a_ii (fun x y => x - y) 147) ∈ kX12_made := qX12_made_3 _ (List.mem_of_getElem? (i := 1) rfl)
theorem tX12_made_147 : (147, a_iald 148) ∈ kX12_made := qX12_made_3 _ (List.mem_of_getElem? (i := 2) rfl)
theorem tX12_made_148 : (148, a_ii (fun x y => x - y) 149) ∈ kX12_made := qX12_made_3 _ (List.mem_of_getElem? (i := 3) rfl)
theorem tX12_made_149 : (149, a_iast 150) ∈ kX12_made := qX12_made_3 _ (List.mem_of_getElem? (i := 4) rfl)
theorem tX12_made_150 : (150, a_goto 222) ∈ kX12_made := qX12_made_3 _ (List.mem_of_getElem? (i := 5) rfl)
theorem tX12_made_153 : (153, a_iinc 3 (-1) 156) ∈ kX12_made := qX12_made_3 _ (List.mem_of_getElem? (i := 6) rfl)
theorem tX12_made_156 : (156, a_aload 0 157) ∈ kX12_made := qX12_made_3 _ (List.mem_of_getElem? (i := 7) rfl)
theorem tX12_made_157 : (157, a_getR 12 17 160) ∈ kX12_made := qX12_made_3 _ (List.mem_of_getElem? (i := 8) rfl)
theorem tX12_made_160 : (160, a_iload 3 161) ∈ kX12_made := qX12_made_3 _ (List.mem_of_getElem? (i := 9) rfl)
theorem tX12_made_161 : (161, a_i 1 162) ∈ kX12_made := qX12_made_3 _ (List.mem_of_getElem? (i := 10) rfl)
theorem tX12_made_162 : (162, a_ii (fun x y => x - y) 163) ∈ kX12_made := qX12_made_3 _ (List.mem_of_getElem? (i := 11) rfl)
theorem tX12_made_163 : (163, a_iload 5 165) ∈ kX12_made := qX12_made_3 _ (List.mem_of_getElem? (i := 12) rfl)
theorem tX12_made_165 : (165, a_aload 0 166) ∈ kX12_made := qX12_made_3 _ (List.mem_of_getElem? (i := 13) rfl)
theorem tX12_made_166 : (166, a_getR 12 17 169) ∈ kX12_made := qX12_made_3 _ (List.mem_of_getElem? (i := 14) rfl)
theorem tX12_made_169 : (169, a_iload 3 170) ∈ kX12_made := qX12_made_3 _ (List.mem_of_getElem? (i := 15) rfl)
theorem tX12_made_170 : (170, a_i 1 171) ∈ kX12_made := qX12_made_3 _ (List.mem_of_getElem? (i := 16) rfl)
theorem tX12_made_171 : (171, a_ii (fun x y => x - y) 172) ∈ kX12_made := qX12_made_3 _ (List.mem_of_getElem? (i := 17) rfl)
theorem tX12_made_172 : (172, a_iald 173) ∈ kX12_made := qX12_made_3 _ (List.mem_of_getElem? (i := 18) rfl)
theorem tX12_made_173 : (173, a_aload 0 174) ∈ kX12_made := qX12_made_3 _ (List.mem_of_getElem? (i := 19) rfl)
theorem tX12_made_174 : (174, a_getR 12 17 177) ∈ kX12_made := qX12_made_3 _ (List.mem_of_getElem? (i := 20) rfl)
theorem tX12_made_177 : (177, a_iload 3 178) ∈ kX12_made := qX12_made_3 _ (List.mem_of_getElem? (i := 21) rfl)
theorem tX12_made_178 : (178, a_iald 179) ∈ kX12_made := qX12_made_3 _ (List.mem_of_getElem? (i := 22) rfl)
theorem tX12_made_179 : (179, a_call 156 3 182 0 0) ∈ kX12_made := qX12_made_3 _ (List.mem_of_getElem? (i := 23) rfl)
theorem qX12_made_4 : ∀ q ∈ kX12_made_4, q ∈ kX12_made := fun _ h => (List.mem_append_right _ (List.mem_append_right _ (List.mem_append_right _ (List.mem_append_right _ (List.mem_append_left _ h)))))
theorem tX12_made_182 : (182, a_iast 183) ∈ kX12_made := qX12_made_4 _ (List.mem_of_getElem? (i := 0) rfl)
theorem tX12_made_183 : (183, a_goto 222) ∈ kX12_made := qX12_made_4 _ (List.mem_of_getElem? (i := 1) rfl)
theorem tX12_made_186 : (186, a_iinc 3 (-2) 189) ∈ kX12_made := qX12_made_4 _ (List.mem_of_getElem? (i := 2) rfl)
theorem tX12_made_189 : (189, a_aload 0 190) ∈ kX12_made := qX12_made_4 _ (List.mem_of_getElem? (i := 3) rfl)
theorem tX12_made_190 : (190, a_getR 12 17 193) ∈ kX12_made := qX12_made_4 _ (List.mem_of_getElem? (i := 4) rfl)
theorem tX12_made_193 : (193, a_iload 3 194) ∈ kX12_made := qX12_made_4 _ (List.mem_of_getElem? (i := 5) rfl)
theorem tX12_made_194 : (194, a_i 1 195) ∈ kX12_made := qX12_made_4 _ (List.mem_of_getElem? (i := 6) rfl)
theorem tX12_made_195 : (195, a_ii (fun x y => x - y) 196) ∈ kX12_made := qX12_made_4 _ (List.mem_of_getElem? (i := 7) rfl)
theorem tX12_made_196 : (196, a_aload 0 197) ∈ kX12_made := qX12_made_4 _ (List.mem_of_getElem? (i := 8) rfl)
theorem tX12_made_197 : (197, a_getR 12 17 200) ∈ kX12_made := qX12_made_4 _ (List.mem_of_getElem? (i := 9) rfl)
theorem tX12_made_200 : (200, a_iload 3 201) ∈ kX12_made := qX12_made_4 _ (List.mem_of_getElem? (i := 10) rfl)
theorem tX12_made_201 : (201, a_i 1 202) ∈ kX12_made := qX12_made_4 _ (List.mem_of_getElem? (i := 11) rfl)
theorem tX12_made_202 : (202, a_ii (fun x y => x - y) 203) ∈ kX12_made := qX12_made_4 _ (List.mem_of_getElem? (i := 12) rfl)
theorem tX12_made_203 : (203, a_iald 204) ∈ kX12_made := qX12_made_4 _ (List.mem_of_getElem? (i := 13) rfl)
theorem tX12_made_204 : (204, a_aload 0 205) ∈ kX12_made := qX12_made_4 _ (List.mem_of_getElem? (i := 14) rfl)
theorem tX12_made_205 : (205, a_getR 12 17 208) ∈ kX12_made := qX12_made_4 _ (List.mem_of_getElem? (i := 15) rfl)
theorem tX12_made_208 : (208, a_iload 3 209) ∈ kX12_made := qX12_made_4 _ (List.mem_of_getElem? (i := 16) rfl)
theorem tX12_made_209 : (209, a_iald 210) ∈ kX12_made := qX12_made_4 _ (List.mem_of_getElem? (i := 17) rfl)
theorem tX12_made_210 : (210, a_aload 0 211) ∈ kX12_made := qX12_made_4 _ (List.mem_of_getElem? (i := 18) rfl)
theorem tX12_made_211 : (211, a_getR 12 17 214) ∈ kX12_made := qX12_made_4 _ (List.mem_of_getElem? (i := 19) rfl)
theorem tX12_made_214 : (214, a_iload 3 215) ∈ kX12_made := qX12_made_4 _ (List.mem_of_getElem? (i := 20) rfl)
theorem tX12_made_215 : (215, a_i 1 216) ∈ kX12_made := qX12_made_4 _ (List.mem_of_getElem? (i := 21) rfl)
theorem tX12_made_216 : (216, a_ii (fun x y => x + y) 217) ∈ kX12_made := qX12_made_4 _ (List.mem_of_getElem? (i := 22) rfl)
theorem tX12_made_217 : (217, a_iald 218) ∈ kX12_made := qX12_made_4 _ (List.mem_of_getElem? (i := 23) rfl)
theorem qX12_made_5 : ∀ q ∈ kX12_made_5, q ∈ kX12_made := fun _ h => (List.mem_append_right _ (List.mem_append_right _ (List.mem_append_right _ (List.mem_append_right _ (List.mem_append_right _ h)))))
theorem tX12_made_218 : (218, a_call 157 3 221 0 0) ∈ kX12_made := qX12_made_5 _ (List.mem_of_getElem? (i := 0) rfl)
theorem tX12_made_221 : (221, a_iast 222) ∈ kX12_made := qX12_made_5 _ (List.mem_of_getElem? (i := 1) rfl)
theorem tX12_made_222 : (222, a_iinc 4 1 225) ∈ kX12_made := qX12_made_5 _ (List.mem_of_getElem? (i := 2) rfl)
theorem tX12_made_225 : (225, a_goto 5) ∈ kX12_made := qX12_made_5 _ (List.mem_of_getElem? (i := 3) rfl)
theorem tX12_made_228 : (228, a_aload 0 229) ∈ kX12_made := qX12_made_5 _ (List.mem_of_getElem? (i := 4) rfl)
theorem tX12_made_229 : (229, a_getR 12 17 232) ∈ kX12_made := qX12_made_5 _ (List.mem_of_getElem? (i := 5) rfl)
theorem tX12_made_232 : (232, a_i 0 233) ∈ kX12_made := qX12_made_5 _ (List.mem_of_getElem? (i := 6) rfl)
theorem tX12_made_233 : (233, a_iald 234) ∈ kX12_made := qX12_made_5 _ (List.mem_of_getElem? (i := 7) rfl)
theorem tX12_made_234 : (234, a_iret false) ∈ kX12_made := qX12_made_5 _ (List.mem_of_getElem? (i := 8) rfl)
theorem oX12_made : ∀ q ∈ kX12_made, zSnd zty false RX12 cX12_made 6 (some .int) false q := List.forall_mem_append.mpr ⟨oX12_made_0, List.forall_mem_append.mpr ⟨oX12_made_1, List.forall_mem_append.mpr ⟨oX12_made_2, List.forall_mem_append.mpr ⟨oX12_made_3, List.forall_mem_append.mpr ⟨oX12_made_4, oX12_made_5⟩⟩⟩⟩⟩
theorem dX12_layWires_0 : decode cX12_layWires 0 = .ok (.bipush 6, 2) := by decide +kernel
theorem dX12_layWires_2 : decode cX12_layWires 2 = .ok (.istore_n 3, 1) := by decide +kernel
theorem dX12_layWires_3 : decode cX12_layWires 3 = .ok (.iload_n 3, 1) := by decide +kernel
theorem dX12_layWires_4 : decode cX12_layWires 4 = .ok (.bipush 15, 2) := by decide +kernel
theorem dX12_layWires_6 : decode cX12_layWires 6 = .ok (.if_icmp .ge 16, 3) := by decide +kernel
theorem dX12_layWires_9 : decode cX12_layWires 9 = .ok (.aload_n 0, 1) := by decide +kernel
theorem dX12_layWires_10 : decode cX12_layWires 10 = .ok (.getfield 52, 3) := by decide +kernel
theorem dX12_layWires_13 : decode cX12_layWires 13 = .ok (.iload_n 3, 1) := by decide +kernel
theorem dX12_layWires_14 : decode cX12_layWires 14 = .ok (.iload_n 2, 1) := by decide +kernel
theorem dX12_layWires_15 : decode cX12_layWires 15 = .ok (.iastore, 1) := by decide +kernel
theorem dX12_layWires_16 : decode cX12_layWires 16 = .ok (.iinc 3 1, 3) := by decide +kernel
theorem dX12_layWires_19 : decode cX12_layWires 19 = .ok (.goto (-16), 3) := by decide +kernel
theorem dX12_layWires_22 : decode cX12_layWires 22 = .ok (.iconst 0, 1) := by decide +kernel
theorem dX12_layWires_23 : decode cX12_layWires 23 = .ok (.istore_n 3, 1) := by decide +kernel
theorem dX12_layWires_24 : decode cX12_layWires 24 = .ok (.iload_n 3, 1) := by decide +kernel
theorem dX12_layWires_25 : decode cX12_layWires 25 = .ok (.aload_n 0, 1) := by decide +kernel
theorem dX12_layWires_26 : decode cX12_layWires 26 = .ok (.getfield 31, 3) := by decide +kernel
theorem dX12_layWires_29 : decode cX12_layWires 29 = .ok (.iload_n 1, 1) := by decide +kernel
theorem dX12_layWires_30 : decode cX12_layWires 30 = .ok (.iaload, 1) := by decide +kernel
theorem dX12_layWires_31 : decode cX12_layWires 31 = .ok (.if_icmp .ge 36, 3) := by decide +kernel
theorem dX12_layWires_34 : decode cX12_layWires 34 = .ok (.aload_n 0, 1) := by decide +kernel
theorem dX12_layWires_35 : decode cX12_layWires 35 = .ok (.getfield 28, 3) := by decide +kernel
theorem dX12_layWires_38 : decode cX12_layWires 38 = .ok (.bipush 9, 2) := by decide +kernel
theorem dX12_layWires_40 : decode cX12_layWires 40 = .ok (.iload_n 1, 1) := by decide +kernel
theorem dX12_layWires_41 : decode cX12_layWires 41 = .ok (.imul, 1) := by decide +kernel
theorem dX12_layWires_42 : decode cX12_layWires 42 = .ok (.iload_n 3, 1) := by decide +kernel
theorem dX12_layWires_43 : decode cX12_layWires 43 = .ok (.iadd, 1) := by decide +kernel
theorem dX12_layWires_44 : decode cX12_layWires 44 = .ok (.iaload, 1) := by decide +kernel
theorem dX12_layWires_45 : decode cX12_layWires 45 = .ok (.istore 4, 2) := by decide +kernel
theorem dX12_layWires_47 : decode cX12_layWires 47 = .ok (.aload_n 0, 1) := by decide +kernel
theorem dX12_layWires_48 : decode cX12_layWires 48 = .ok (.getfield 52, 3) := by decide +kernel
theorem dX12_layWires_51 : decode cX12_layWires 51 = .ok (.iload 4, 2) := by decide +kernel
theorem dX12_layWires_53 : decode cX12_layWires 53 = .ok (.aload_n 0, 1) := by decide +kernel
theorem dX12_layWires_54 : decode cX12_layWires 54 = .ok (.iload_n 1, 1) := by decide +kernel
theorem dX12_layWires_55 : decode cX12_layWires 55 = .ok (.iload 4, 2) := by decide +kernel
theorem dX12_layWires_57 : decode cX12_layWires 57 = .ok (.invokevirtual 173, 3) := by decide +kernel
theorem dX12_layWires_60 : decode cX12_layWires 60 = .ok (.iastore, 1) := by decide +kernel
theorem dX12_layWires_61 : decode cX12_layWires 61 = .ok (.iinc 3 1, 3) := by decide +kernel
theorem dX12_layWires_64 : decode cX12_layWires 64 = .ok (.goto (-40), 3) := by decide +kernel
theorem dX12_layWires_67 : decode cX12_layWires 67 = .ok (.return_, 1) := by decide +kernel
def kX12_layWires_0 : List (Nat × zT) := [(0, a_i 6 2), (2, a_istore 3 3), (3, a_iload 3 4), (4, a_i 15 6), (6, a_ic_ge 22 9), (9, a_aload 0 10), (10, a_getR 12 16 13), (13, a_iload 3 14), (14, a_iload 2 15), (15, a_iast 16), (16, a_iinc 3 1 19), (19, a_goto 3), (22, a_i 0 23), (23, a_istore 3 24), (24, a_iload 3 25), (25, a_aload 0 26), (26, a_getR 12 7 29), (29, a_iload 1 30), (30, a_iald 31), (31, a_ic_ge 67 34), (34, a_aload 0 35), (35, a_getR 12 6 38), (38, a_i 9 40), (40, a_iload 1 41)]
theorem oX12_layWires_0 : ∀ q ∈ kX12_layWires_0, zSnd zty false RX12 cX12_layWires 5 none false q := List.forall_mem_cons.mpr ⟨ok_bipush dX12_layWires_0 (by decide), List.forall_mem_cons.mpr ⟨ok_istore_n dX12_layWires_2 rfl (by decide), List.forall_mem_cons.mpr ⟨ok_iload_n dX12_layWires_3 rfl, List.forall_mem_cons.mpr ⟨ok_bipush dX12_layWires_4 (by decide), List.forall_mem_cons.mpr ⟨ok_ic_ge dX12_layWires_6 (by decide), List.forall_mem_cons.mpr ⟨ok_aload_n dX12_layWires_9 rfl, List.forall_mem_cons.mpr ⟨ok_getR dX12_layWires_10 rfl in12 (by decide) rfl w973, List.forall_mem_cons.mpr ⟨ok_iload_n dX12_layWires_13 rfl, List.forall_mem_cons.mpr ⟨ok_iload_n dX12_layWires_14 rfl, List.forall_mem_cons.mpr ⟨ok_iast dX12_layWires_15, List.forall_mem_cons.mpr ⟨ok_iinc dX12_layWires_16 (by decide) (by decide), List.forall_mem_cons.mpr ⟨ok_goto dX12_layWires_19 (by decide), List.forall_mem_cons.mpr ⟨ok_iconst dX12_layWires_22 (by decide), List.forall_mem_cons.mpr ⟨ok_istore_n dX12_layWires_23 rfl (by decide), List.forall_mem_cons.mpr ⟨ok_iload_n dX12_layWires_24 rfl, List.forall_mem_cons.mpr ⟨ok_aload_n dX12_layWires_25 rfl, List.forall_mem_cons.mpr ⟨ok_getR dX12_layWires_26 rfl in12 (by decide) rfl w964, List.forall_mem_cons.mpr ⟨ok_iload_n dX12_layWires_29 rfl, List.forall_mem_cons.mpr ⟨ok_iald dX12_layWires_30, List.forall_mem_cons.mpr ⟨ok_ic_ge dX12_layWires_31 (by decide), List.forall_mem_cons.mpr ⟨ok_aload_n dX12_layWires_34 rfl, List.forall_mem_cons.mpr ⟨ok_getR dX12_layWires_35 rfl in12 (by decide) rfl w963, List.forall_mem_cons.mpr ⟨ok_bipush dX12_layWires_38 (by decide), List.forall_mem_cons.mpr ⟨ok_iload_n dX12_layWires_40 rfl, fun _ h => absurd h List.not_mem_nil⟩⟩⟩⟩⟩⟩⟩⟩⟩⟩⟩⟩⟩⟩⟩⟩⟩⟩⟩⟩⟩⟩⟩⟩
def kX12_layWires_1 : List (Nat × zT) := [(41, a_ii (fun x y => x * y) 42), (42, a_iload 3 43), (43, a_ii (fun x y => x + y) 44), (44, a_iald 45), (45, a_istore 4 47), (47, a_aload 0 48), (48, a_getR 12 16 51), (51, a_iload 4 53), (53, a_aload 0 54), (54, a_iload 1 55), (55, a_iload 4 57), (57, a_callV 12 159 3 60 0 0), (60, a_iast 61), (61, a_iinc 3 1 64), (64, a_goto 24), (67, a_vret)]
theorem oX12_layWires_1 : ∀ q ∈ kX12_layWires_1, zSnd zty false RX12 cX12_layWires 5 none false q := List.forall_mem_cons.mpr ⟨ok_imul dX12_layWires_41, List.forall_mem_cons.mpr ⟨ok_iload_n dX12_layWires_42 rfl, List.forall_mem_cons.mpr ⟨ok_iadd dX12_layWires_43, List.forall_mem_cons.mpr ⟨ok_iald dX12_layWires_44, List.forall_mem_cons.mpr ⟨ok_istore dX12_layWires_45 (by decide), List.forall_mem_cons.mpr ⟨ok_aload_n dX12_layWires_47 rfl, List.forall_mem_cons.mpr ⟨ok_getR dX12_layWires_48 rfl in12 (by decide) rfl w973, List.forall_mem_cons.mpr ⟨ok_iload dX12_layWires_51, List.forall_mem_cons.mpr ⟨ok_aload_n dX12_layWires_53 rfl, List.forall_mem_cons.mpr ⟨ok_iload_n dX12_layWires_54 rfl, List.forall_mem_cons.mpr ⟨ok_iload dX12_layWires_55, List.forall_mem_cons.mpr ⟨ok_callV dX12_layWires_57 rfl rfl w1168 w1165 w1167 w13 s34 (by decide +kernel) (by decide), List.forall_mem_cons.mpr ⟨ok_iast dX12_layWires_60, List.forall_mem_cons.mpr ⟨ok_iinc dX12_layWires_61 (by decide) (by decide), List.forall_mem_cons.mpr ⟨ok_goto dX12_layWires_64 (by decide), List.forall_mem_cons.mpr ⟨ok_vret dX12_layWires_67 rfl, fun _ h => absurd h List.not_mem_nil⟩⟩⟩⟩⟩⟩⟩⟩⟩⟩⟩⟩⟩⟩⟩⟩
def kX12_layWires : List (Nat × zT) := kX12_layWires_0 ++ (kX12_layWires_1)
theorem qX12_layWires_0 : ∀ q ∈ kX12_layWires_0, q ∈ kX12_layWires := fun _ h => (List.mem_append_left _ h)
theorem tX12_layWires_0 : (0, a_i 6 2) ∈ kX12_layWires := qX12_layWires_0 _ (List.mem_of_getElem? (i := 0) rfl)
theorem tX12_layWires_2 : (2, a_istore 3 3) ∈ kX12_layWires := qX12_layWires_0 _ (List.mem_of_getElem? (i := 1) rfl)
theorem tX12_layWires_3 : (3, a_iload 3 4) ∈ kX12_layWires := qX12_layWires_0 _ (List.mem_of_getElem? (i := 2) rfl)
theorem tX12_layWires_4 : (4, a_i 15 6) ∈ kX12_layWires := qX12_layWires_0 _ (List.mem_of_getElem? (i := 3) rfl)
theorem tX12_layWires_6 : (6, a_ic_ge 22 9) ∈ kX12_layWires := qX12_layWires_0 _ (List.mem_of_getElem? (i := 4) rfl)
theorem tX12_layWires_9 : (9, a_aload 0 10) ∈ kX12_layWires := qX12_layWires_0 _ (List.mem_of_getElem? (i := 5) rfl)
theorem tX12_layWires_10 : (10, a_getR 12 16 13) ∈ kX12_layWires := qX12_layWires_0 _ (List.mem_of_getElem? (i := 6) rfl)
theorem tX12_layWires_13 : (13, a_iload 3 14) ∈ kX12_layWires := qX12_layWires_0 _ (List.mem_of_getElem? (i := 7) rfl)
theorem tX12_layWires_14 : (14, a_iload 2 15) ∈ kX12_layWires := qX12_layWires_0 _ (List.mem_of_getElem? (i := 8) rfl)
theorem tX12_layWires_15 : (15, a_iast 16) ∈ kX12_layWires := qX12_layWires_0 _ (List.mem_of_getElem? (i := 9) rfl)
theorem tX12_layWires_16 : (16, a_iinc 3 1 19) ∈ kX12_layWires := qX12_layWires_0 _ (List.mem_of_getElem? (i := 10) rfl)
theorem tX12_layWires_19 : (19, a_goto 3) ∈ kX12_layWires := qX12_layWires_0 _ (List.mem_of_getElem? (i := 11) rfl)
theorem tX12_layWires_22 : (22, a_i 0 23) ∈ kX12_layWires := qX12_layWires_0 _ (List.mem_of_getElem? (i := 12) rfl)
theorem tX12_layWires_23 : (23, a_istore 3 24) ∈ kX12_layWires := qX12_layWires_0 _ (List.mem_of_getElem? (i := 13) rfl)
theorem tX12_layWires_24 : (24, a_iload 3 25) ∈ kX12_layWires := qX12_layWires_0 _ (List.mem_of_getElem? (i := 14) rfl)
theorem tX12_layWires_25 : (25, a_aload 0 26) ∈ kX12_layWires := qX12_layWires_0 _ (List.mem_of_getElem? (i := 15) rfl)
theorem tX12_layWires_26 : (26, a_getR 12 7 29) ∈ kX12_layWires := qX12_layWires_0 _ (List.mem_of_getElem? (i := 16) rfl)
theorem tX12_layWires_29 : (29, a_iload 1 30) ∈ kX12_layWires := qX12_layWires_0 _ (List.mem_of_getElem? (i := 17) rfl)
theorem tX12_layWires_30 : (30, a_iald 31) ∈ kX12_layWires := qX12_layWires_0 _ (List.mem_of_getElem? (i := 18) rfl)
theorem tX12_layWires_31 : (31, a_ic_ge 67 34) ∈ kX12_layWires := qX12_layWires_0 _ (List.mem_of_getElem? (i := 19) rfl)
theorem tX12_layWires_34 : (34, a_aload 0 35) ∈ kX12_layWires := qX12_layWires_0 _ (List.mem_of_getElem? (i := 20) rfl)
theorem tX12_layWires_35 : (35, a_getR 12 6 38) ∈ kX12_layWires := qX12_layWires_0 _ (List.mem_of_getElem? (i := 21) rfl)
theorem tX12_layWires_38 : (38, a_i 9 40) ∈ kX12_layWires := qX12_layWires_0 _ (List.mem_of_getElem? (i := 22) rfl)
theorem tX12_layWires_40 : (40, a_iload 1 41) ∈ kX12_layWires := qX12_layWires_0 _ (List.mem_of_getElem? (i := 23) rfl)
theorem qX12_layWires_1 : ∀ q ∈ kX12_layWires_1, q ∈ kX12_layWires := fun _ h => (List.mem_append_right _ h)
theorem tX12_layWires_41 : (41, a_ii (fun x y => x * y) 42) ∈ kX12_layWires := qX12_layWires_1 _ (List.mem_of_getElem? (i := 0) rfl)
theorem tX12_layWires_42 : (42, a_iload 3 43) ∈ kX12_layWires := qX12_layWires_1 _ (List.mem_of_getElem? (i := 1) rfl)
theorem tX12_layWires_43 : (43, a_ii (fun x y => x + y) 44) ∈ kX12_layWires := qX12_layWires_1 _ (List.mem_of_getElem? (i := 2) rfl)
theorem tX12_layWires_44 : (44, a_iald 45) ∈ kX12_layWires := qX12_layWires_1 _ (List.mem_of_getElem? (i := 3) rfl)
theorem tX12_layWires_45 : (45, a_istore 4 47) ∈ kX12_layWires := qX12_layWires_1 _ (List.mem_of_getElem? (i := 4) rfl)
theorem tX12_layWires_47 : (47, a_aload 0 48) ∈ kX12_layWires := qX12_layWires_1 _ (List.mem_of_getElem? (i := 5) rfl)
theorem tX12_layWires_48 : (48, a_getR 12 16 51) ∈ kX12_layWires := qX12_layWires_1 _ (List.mem_of_getElem? (i := 6) rfl)
theorem tX12_layWires_51 : (51, a_iload 4 53) ∈ kX12_layWires := qX12_layWires_1 _ (List.mem_of_getElem? (i := 7) rfl)
theorem tX12_layWires_53 : (53, a_aload 0 54) ∈ kX12_layWires := qX12_layWires_1 _ (List.mem_of_getElem? (i := 8) rfl)
theorem tX12_layWires_54 : (54, a_iload 1 55) ∈ kX12_layWires := qX12_layWires_1 _ (List.mem_of_getElem? (i := 9) rfl)
theorem tX12_layWires_55 : (55, a_iload 4 57) ∈ kX12_layWires := qX12_layWires_1 _ (List.mem_of_getElem? (i := 10) rfl)
theorem tX12_layWires_57 : (57, a_callV 12 159 3 60 0 0) ∈ kX12_layWires := qX12_layWires_1 _ (List.mem_of_getElem? (i := 11) rfl)
theorem tX12_layWires_60 : (60, a_iast 61) ∈ kX12_layWires := qX12_layWires_1 _ (List.mem_of_getElem? (i := 12) rfl)
theorem tX12_layWires_61 : (61, a_iinc 3 1 64) ∈ kX12_layWires := qX12_layWires_1 _ (List.mem_of_getElem? (i := 13) rfl)
theorem tX12_layWires_64 : (64, a_goto 24) ∈ kX12_layWires := qX12_layWires_1 _ (List.mem_of_getElem? (i := 14) rfl)
theorem tX12_layWires_67 : (67, a_vret) ∈ kX12_layWires := qX12_layWires_1 _ (List.mem_of_getElem? (i := 15) rfl)
theorem oX12_layWires : ∀ q ∈ kX12_layWires, zSnd zty false RX12 cX12_layWires 5 none false q := List.forall_mem_append.mpr ⟨oX12_layWires_0, oX12_layWires_1⟩
theorem dX12_layRow_0 : decode cX12_layRow 0 = .ok (.iconst 0, 1) := by decide +kernel
theorem dX12_layRow_1 : decode cX12_layRow 1 = .ok (.istore_n 3, 1) := by decide +kernel
theorem dX12_layRow_2 : decode cX12_layRow 2 = .ok (.iload_n 3, 1) := by decide +kernel
theorem dX12_layRow_3 : decode cX12_layRow 3 = .ok (.bipush 6, 2) := by decide +kernel
theorem dX12_layRow_5 : decode cX12_layRow 5 = .ok (.if_icmp .ge 20, 3) := by decide +kernel
theorem dX12_layRow_8 : decode cX12_layRow 8 = .ok (.aload_n 0, 1) := by decide +kernel
theorem dX12_layRow_9 : decode cX12_layRow 9 = .ok (.getfield 52, 3) := by decide +kernel
theorem dX12_layRow_12 : decode cX12_layRow 12 = .ok (.iload_n 3, 1) := by decide +kernel
theorem dX12_layRow_13 : decode cX12_layRow 13 = .ok (.iload_n 2, 1) := by decide +kernel
theorem dX12_layRow_14 : decode cX12_layRow 14 = .ok (.iload_n 3, 1) := by decide +kernel
theorem dX12_layRow_15 : decode cX12_layRow 15 = .ok (.ishr, 1) := by decide +kernel
theorem dX12_layRow_16 : decode cX12_layRow 16 = .ok (.iconst 1, 1) := by decide +kernel
theorem dX12_layRow_17 : decode cX12_layRow 17 = .ok (.iand, 1) := by decide +kernel
theorem dX12_layRow_18 : decode cX12_layRow 18 = .ok (.iastore, 1) := by decide +kernel
theorem dX12_layRow_19 : decode cX12_layRow 19 = .ok (.iinc 3 1, 3) := by decide +kernel
theorem dX12_layRow_22 : decode cX12_layRow 22 = .ok (.goto (-20), 3) := by decide +kernel
theorem dX12_layRow_25 : decode cX12_layRow 25 = .ok (.iconst 0, 1) := by decide +kernel
theorem dX12_layRow_26 : decode cX12_layRow 26 = .ok (.istore_n 3, 1) := by decide +kernel
theorem dX12_layRow_27 : decode cX12_layRow 27 = .ok (.iload_n 3, 1) := by decide +kernel
theorem dX12_layRow_28 : decode cX12_layRow 28 = .ok (.iconst 4, 1) := by decide +kernel
theorem dX12_layRow_29 : decode cX12_layRow 29 = .ok (.if_icmp .ge 26, 3) := by decide +kernel
theorem dX12_layRow_32 : decode cX12_layRow 32 = .ok (.aload_n 0, 1) := by decide +kernel
theorem dX12_layRow_33 : decode cX12_layRow 33 = .ok (.getfield 52, 3) := by decide +kernel
theorem dX12_layRow_36 : decode cX12_layRow 36 = .ok (.bipush 15, 2) := by decide +kernel
theorem dX12_layRow_38 : decode cX12_layRow 38 = .ok (.iload_n 3, 1) := by decide +kernel
theorem dX12_layRow_39 : decode cX12_layRow 39 = .ok (.iadd, 1) := by decide +kernel
theorem dX12_layRow_40 : decode cX12_layRow 40 = .ok (.iload_n 2, 1) := by decide +kernel
theorem dX12_layRow_41 : decode cX12_layRow 41 = .ok (.bipush 6, 2) := by decide +kernel
theorem dX12_layRow_43 : decode cX12_layRow 43 = .ok (.iload_n 3, 1) := by decide +kernel
theorem dX12_layRow_44 : decode cX12_layRow 44 = .ok (.iadd, 1) := by decide +kernel
theorem dX12_layRow_45 : decode cX12_layRow 45 = .ok (.ishr, 1) := by decide +kernel
theorem dX12_layRow_46 : decode cX12_layRow 46 = .ok (.iconst 1, 1) := by decide +kernel
theorem dX12_layRow_47 : decode cX12_layRow 47 = .ok (.iand, 1) := by decide +kernel
theorem dX12_layRow_48 : decode cX12_layRow 48 = .ok (.iastore, 1) := by decide +kernel
theorem dX12_layRow_49 : decode cX12_layRow 49 = .ok (.iinc 3 1, 3) := by decide +kernel
theorem dX12_layRow_52 : decode cX12_layRow 52 = .ok (.goto (-25), 3) := by decide +kernel
theorem dX12_layRow_55 : decode cX12_layRow 55 = .ok (.aload_n 0, 1) := by decide +kernel
theorem dX12_layRow_56 : decode cX12_layRow 56 = .ok (.iload_n 1, 1) := by decide +kernel
theorem dX12_layRow_57 : decode cX12_layRow 57 = .ok (.iconst 0, 1) := by decide +kernel
theorem dX12_layRow_58 : decode cX12_layRow 58 = .ok (.invokevirtual 176, 3) := by decide +kernel
theorem dX12_layRow_61 : decode cX12_layRow 61 = .ok (.return_, 1) := by decide +kernel
def kX12_layRow_0 : List (Nat × zT) := [(0, a_i 0 1), (1, a_istore 3 2), (2, a_iload 3 3), (3, a_i 6 5), (5, a_ic_ge 25 8), (8, a_aload 0 9), (9, a_getR 12 16 12), (12, a_iload 3 13), (13, a_iload 2 14), (14, a_iload 3 15), (15, a_ii (fun x y => x >>> (y &&& 31)) 16), (16, a_i 1 17), (17, a_ii (fun x y => x &&& y) 18), (18, a_iast 19), (19, a_iinc 3 1 22), (22, a_goto 2), (25, a_i 0 26), (26, a_istore 3 27), (27, a_iload 3 28), (28, a_i 4 29), (29, a_ic_ge 55 32), (32, a_aload 0 33), (33, a_getR 12 16 36), (36, a_i 15 38)]
theorem oX12_layRow_0 : ∀ q ∈ kX12_layRow_0, zSnd zty false RX12 cX12_layRow 4 none false q := List.forall_mem_cons.mpr ⟨ok_iconst dX12_layRow_0 (by decide), List.forall_mem_cons.mpr ⟨ok_istore_n dX12_layRow_1 rfl (by decide), List.forall_mem_cons.mpr ⟨ok_iload_n dX12_layRow_2 rfl, List.forall_mem_cons.mpr ⟨ok_bipush dX12_layRow_3 (by decide), List.forall_mem_cons.mpr ⟨ok_ic_ge dX12_layRow_5 (by decide), List.forall_mem_cons.mpr ⟨ok_aload_n dX12_layRow_8 rfl, List.forall_mem_cons.mpr ⟨ok_getR dX12_layRow_9 rfl in12 (by decide) rfl w973, List.forall_mem_cons.mpr ⟨ok_iload_n dX12_layRow_12 rfl, List.forall_mem_cons.mpr ⟨ok_iload_n dX12_layRow_13 rfl, List.forall_mem_cons.mpr ⟨ok_iload_n dX12_layRow_14 rfl, List.forall_mem_cons.mpr ⟨ok_ishr dX12_layRow_15, List.forall_mem_cons.mpr ⟨ok_iconst dX12_layRow_16 (by decide), List.forall_mem_cons.mpr ⟨ok_iand dX12_layRow_17, List.forall_mem_cons.mpr ⟨ok_iast dX12_layRow_18, List.forall_mem_cons.mpr ⟨ok_iinc dX12_layRow_19 (by decide) (by decide), List.forall_mem_cons.mpr ⟨ok_goto dX12_layRow_22 (by decide), List.forall_mem_cons.mpr ⟨ok_iconst dX12_layRow_25 (by decide), List.forall_mem_cons.mpr ⟨ok_istore_n dX12_layRow_26 rfl (by decide), List.forall_mem_cons.mpr ⟨ok_iload_n dX12_layRow_27 rfl, List.forall_mem_cons.mpr ⟨ok_iconst dX12_layRow_28 (by decide), List.forall_mem_cons.mpr ⟨ok_ic_ge dX12_layRow_29 (by decide), List.forall_mem_cons.mpr ⟨ok_aload_n dX12_layRow_32 rfl, List.forall_mem_cons.mpr ⟨ok_getR dX12_layRow_33 rfl in12 (by decide) rfl w973, List.forall_mem_cons.mpr ⟨ok_bipush dX12_layRow_36 (by decide), fun _ h => absurd h List.not_mem_nil⟩⟩⟩⟩⟩⟩⟩⟩⟩⟩⟩⟩⟩⟩⟩⟩⟩⟩⟩⟩⟩⟩⟩⟩
def kX12_layRow_1 : List (Nat × zT) := [(38, a_iload 3 39), (39, a_ii (fun x y => x + y) 40), (40, a_iload 2 41), (41, a_i 6 43), (43, a_iload 3 44), (44, a_ii (fun x y => x + y) 45), (45, a_ii (fun x y => x >>> (y &&& 31)) 46), (46, a_i 1 47), (47, a_ii (fun x y => x &&& y) 48), (48, a_iast 49), (49, a_iinc 3 1 52), (52, a_goto 27), (55, a_aload 0 56), (56, a_iload 1 57), (57, a_i 0 58), (58, a_callV 12 160 3 61 0 0), (61, a_vret)]
theorem oX12_layRow_1 : ∀ q ∈ kX12_layRow_1, zSnd zty false RX12 cX12_layRow 4 none false q := List.forall_mem_cons.mpr ⟨ok_iload_n dX12_layRow_38 rfl, List.forall_mem_cons.mpr ⟨ok_iadd dX12_layRow_39, List.forall_mem_cons.mpr ⟨ok_iload_n dX12_layRow_40 rfl, List.forall_mem_cons.mpr ⟨ok_bipush dX12_layRow_41 (by decide), List.forall_mem_cons.mpr ⟨ok_iload_n dX12_layRow_43 rfl, List.forall_mem_cons.mpr ⟨ok_iadd dX12_layRow_44, List.forall_mem_cons.mpr ⟨ok_ishr dX12_layRow_45, List.forall_mem_cons.mpr ⟨ok_iconst dX12_layRow_46 (by decide), List.forall_mem_cons.mpr ⟨ok_iand dX12_layRow_47, List.forall_mem_cons.mpr ⟨ok_iast dX12_layRow_48, List.forall_mem_cons.mpr ⟨ok_iinc dX12_layRow_49 (by decide) (by decide), List.forall_mem_cons.mpr ⟨ok_goto dX12_layRow_52 (by decide), List.forall_mem_cons.mpr ⟨ok_aload_n dX12_layRow_55 rfl, List.forall_mem_cons.mpr ⟨ok_iload_n dX12_layRow_56 rfl, List.forall_mem_cons.mpr ⟨ok_iconst dX12_layRow_57 (by decide), List.forall_mem_cons.mpr ⟨ok_callV dX12_layRow_58 rfl rfl w1164 w1161 w1163 w13 s33 (by decide +kernel) (by decide), List.forall_mem_cons.mpr ⟨ok_vret dX12_layRow_61 rfl, fun _ h => absurd h List.not_mem_nil⟩⟩⟩⟩⟩⟩⟩⟩⟩⟩⟩⟩⟩⟩⟩⟩⟩
def kX12_layRow : List (Nat × zT) := kX12_layRow_0 ++ (kX12_layRow_1)
theorem qX12_layRow_0 : ∀ q ∈ kX12_layRow_0, q ∈ kX12_layRow := fun _ h => (List.mem_append_left _ h)
theorem tX12_layRow_0 : (0, a_i 0 1) ∈ kX12_layRow := qX12_layRow_0 _ (List.mem_of_getElem? (i := 0) rfl)
theorem tX12_layRow_1 : (1, a_istore 3 2) ∈ kX12_layRow := qX12_layRow_0 _ (List.mem_of_getElem? (i := 1) rfl)
theorem tX12_layRow_2 : (2, a_iload 3 3) ∈ kX12_layRow := qX12_layRow_0 _ (List.mem_of_getElem? (i := 2) rfl)
theorem tX12_layRow_3 : (3, a_i 6 5) ∈ kX12_layRow := qX12_layRow_0 _ (List.mem_of_getElem? (i := 3) rfl)
theorem tX12_layRow_5 : (5, a_ic_ge 25 8) ∈ kX12_layRow := qX12_layRow_0 _ (List.mem_of_getElem? (i := 4) rfl)
theorem tX12_layRow_8 : (8, a_aload 0 9) ∈ kX12_layRow := qX12_layRow_0 _ (List.mem_of_getElem? (i := 5) rfl)
theorem tX12_layRow_9 : (9, a_getR 12 16 12) ∈ kX12_layRow := qX12_layRow_0 _ (List.mem_of_getElem? (i := 6) rfl)
theorem tX12_layRow_12 : (12, a_iload 3 13) ∈ kX12_layRow := qX12_layRow_0 _ (List.mem_of_getElem? (i := 7) rfl)
theorem tX12_layRow_13 : (13, a_iload 2 14) ∈ kX12_layRow := qX12_layRow_0 _ (List.mem_of_getElem? (i := 8) rfl)
theorem tX12_layRow_14 : (14, a_iload 3 15) ∈ kX12_layRow := qX12_layRow_0 _ (List.mem_of_getElem? (i := 9) rfl)
theorem tX12_layRow_15 : (15, a_ii (fun x y => x >>> (y &&& 31)) 16) ∈ kX12_layRow := qX12_layRow_0 _ (List.mem_of_getElem? (i := 10) rfl)
theorem tX12_layRow_16 : (16, a_i 1 17) ∈ kX12_layRow := qX12_layRow_0 _ (List.mem_of_getElem? (i := 11) rfl)
theorem tX12_layRow_17 : (17, a_ii (fun x y => x &&& y) 18) ∈ kX12_layRow := qX12_layRow_0 _ (List.mem_of_getElem? (i := 12) rfl)
theorem tX12_layRow_18 : (18, a_iast 19) ∈ kX12_layRow := qX12_layRow_0 _ (List.mem_of_getElem? (i := 13) rfl)
theorem tX12_layRow_19 : (19, a_iinc 3 1 22) ∈ kX12_layRow := qX12_layRow_0 _ (List.mem_of_getElem? (i := 14) rfl)
theorem tX12_layRow_22 : (22, a_goto 2) ∈ kX12_layRow := qX12_layRow_0 _ (List.mem_of_getElem? (i := 15) rfl)
theorem tX12_layRow_25 : (25, a_i 0 26) ∈ kX12_layRow := qX12_layRow_0 _ (List.mem_of_getElem? (i := 16) rfl)
theorem tX12_layRow_26 : (26, a_istore 3 27) ∈ kX12_layRow := qX12_layRow_0 _ (List.mem_of_getElem? (i := 17) rfl)
theorem tX12_layRow_27 : (27, a_iload 3 28) ∈ kX12_layRow := qX12_layRow_0 _ (List.mem_of_getElem? (i := 18) rfl)
theorem tX12_layRow_28 : (28, a_i 4 29) ∈ kX12_layRow := qX12_layRow_0 _ (List.mem_of_getElem? (i := 19) rfl)
theorem tX12_layRow_29 : (29, a_ic_ge 55 32) ∈ kX12_layRow := qX12_layRow_0 _ (List.mem_of_getElem? (i := 20) rfl)
theorem tX12_layRow_32 : (32, a_aload 0 33) ∈ kX12_layRow := qX12_layRow_0 _ (List.mem_of_getElem? (i := 21) rfl)
theorem tX12_layRow_33 : (33, a_getR 12 16 36) ∈ kX12_layRow := qX12_layRow_0 _ (List.mem_of_getElem? (i := 22) rfl)
theorem tX12_layRow_36 : (36, a_i 15 38) ∈ kX12_layRow := qX12_layRow_0 _ (List.mem_of_getElem? (i := 23) rfl)
theorem qX12_layRow_1 : ∀ q ∈ kX12_layRow_1, q ∈ kX12_layRow := fun _ h => (List.mem_append_right _ h)
theorem tX12_layRow_38 : (38, a_iload 3 39) ∈ kX12_layRow := qX12_layRow_1 _ (List.mem_of_getElem? (i := 0) rfl)
theorem tX12_layRow_39 : (39, a_ii (fun x y => x + y) 40) ∈ kX12_layRow := qX12_layRow_1 _ (List.mem_of_getElem? (i := 1) rfl)
theorem tX12_layRow_40 : (40, a_iload 2 41) ∈ kX12_layRow := qX12_layRow_1 _ (List.mem_of_getElem? (i := 2) rfl)
theorem tX12_layRow_41 : (41, a_i 6 43) ∈ kX12_layRow := qX12_layRow_1 _ (List.mem_of_getElem? (i := 3) rfl)
theorem tX12_layRow_43 : (43, a_iload 3 44) ∈ kX12_layRow := qX12_layRow_1 _ (List.mem_of_getElem? (i := 4) rfl)
theorem tX12_layRow_44 : (44, a_ii (fun x y => x + y) 45) ∈ kX12_layRow := qX12_layRow_1 _ (List.mem_of_getElem? (i := 5) rfl)
theorem tX12_layRow_45 : (45, a_ii (fun x y => x >>> (y &&& 31)) 46) ∈ kX12_layRow := qX12_layRow_1 _ (List.mem_of_getElem? (i := 6) rfl)
theorem tX12_layRow_46 : (46, a_i 1 47) ∈ kX12_layRow := qX12_layRow_1 _ (List.mem_of_getElem? (i := 7) rfl)
theorem tX12_layRow_47 : (47, a_ii (fun x y => x &&& y) 48) ∈ kX12_layRow := qX12_layRow_1 _ (List.mem_of_getElem? (i := 8) rfl)
theorem tX12_layRow_48 : (48, a_iast 49) ∈ kX12_layRow := qX12_layRow_1 _ (List.mem_of_getElem? (i := 9) rfl)
theorem tX12_layRow_49 : (49, a_iinc 3 1 52) ∈ kX12_layRow := qX12_layRow_1 _ (List.mem_of_getElem? (i := 10) rfl)
theorem tX12_layRow_52 : (52, a_goto 27) ∈ kX12_layRow := qX12_layRow_1 _ (List.mem_of_getElem? (i := 11) rfl)
theorem tX12_layRow_55 : (55, a_aload 0 56) ∈ kX12_layRow := qX12_layRow_1 _ (List.mem_of_getElem? (i := 12) rfl)
theorem tX12_layRow_56 : (56, a_iload 1 57) ∈ kX12_layRow := qX12_layRow_1 _ (List.mem_of_getElem? (i := 13) rfl)
theorem tX12_layRow_57 : (57, a_i 0 58) ∈ kX12_layRow := qX12_layRow_1 _ (List.mem_of_getElem? (i := 14) rfl)
theorem tX12_layRow_58 : (58, a_callV 12 160 3 61 0 0) ∈ kX12_layRow := qX12_layRow_1 _ (List.mem_of_getElem? (i := 15) rfl)
theorem tX12_layRow_61 : (61, a_vret) ∈ kX12_layRow := qX12_layRow_1 _ (List.mem_of_getElem? (i := 16) rfl)
theorem oX12_layRow : ∀ q ∈ kX12_layRow, zSnd zty false RX12 cX12_layRow 4 none false q := List.forall_mem_append.mpr ⟨oX12_layRow_0, oX12_layRow_1⟩
theorem dX12_told_0 : decode cX12_told 0 = .ok (.iload_n 2, 1) := by decide +kernel
theorem dX12_told_1 : decode cX12_told 1 = .ok (.bipush 14, 2) := by decide +kernel
theorem dX12_told_3 : decode cX12_told 3 = .ok (.if_icmp .le 21, 3) := by decide +kernel
theorem dX12_told_6 : decode cX12_told 6 = .ok (.aload_n 0, 1) := by decide +kernel
theorem dX12_told_7 : decode cX12_told 7 = .ok (.iload_n 1, 1) := by decide +kernel
theorem dX12_told_8 : decode cX12_told 8 = .ok (.iload_n 2, 1) := by decide +kernel
theorem dX12_told_9 : decode cX12_told 9 = .ok (.invokevirtual 153, 3) := by decide +kernel
theorem dX12_told_12 : decode cX12_told 12 = .ok (.ifCond .eq 12, 3) := by decide +kernel
theorem dX12_told_15 : decode cX12_told 15 = .ok (.aload_n 0, 1) := by decide +kernel
theorem dX12_told_16 : decode cX12_told 16 = .ok (.iload_n 1, 1) := by decide +kernel
theorem dX12_told_17 : decode cX12_told 17 = .ok (.iload_n 2, 1) := by decide +kernel
theorem dX12_told_18 : decode cX12_told 18 = .ok (.invokevirtual 173, 3) := by decide +kernel
theorem dX12_told_21 : decode cX12_told 21 = .ok (.goto 9, 3) := by decide +kernel
theorem dX12_told_24 : decode cX12_told 24 = .ok (.aload_n 0, 1) := by decide +kernel
theorem dX12_told_25 : decode cX12_told 25 = .ok (.getfield 52, 3) := by decide +kernel
theorem dX12_told_28 : decode cX12_told 28 = .ok (.iload_n 2, 1) := by decide +kernel
theorem dX12_told_29 : decode cX12_told 29 = .ok (.iaload, 1) := by decide +kernel
theorem dX12_told_30 : decode cX12_told 30 = .ok (.ireturn, 1) := by decide +kernel
def kX12_told_0 : List (Nat × zT) := [(0, a_iload 2 1), (1, a_i 14 3), (3, a_ic_le 24 6), (6, a_aload 0 7), (7, a_iload 1 8), (8, a_iload 2 9), (9, a_callV 12 153 3 12 0 0), (12, a_if_eq 24 15), (15, a_aload 0 16), (16, a_iload 1 17), (17, a_iload 2 18), (18, a_callV 12 159 3 21 0 0), (21, a_goto 30), (24, a_aload 0 25), (25, a_getR 12 16 28), (28, a_iload 2 29), (29, a_iald 30), (30, a_iret false)]
theorem oX12_told_0 : ∀ q ∈ kX12_told_0, zSnd zty false RX12 cX12_told 3 (some .int) false q := List.forall_mem_cons.mpr ⟨ok_iload_n dX12_told_0 rfl, List.forall_mem_cons.mpr ⟨ok_bipush dX12_told_1 (by decide), List.forall_mem_cons.mpr ⟨ok_ic_le dX12_told_3 (by decide), List.forall_mem_cons.mpr ⟨ok_aload_n dX12_told_6 rfl, List.forall_mem_cons.mpr ⟨ok_iload_n dX12_told_7 rfl, List.forall_mem_cons.mpr ⟨ok_iload_n dX12_told_8 rfl, List.forall_mem_cons.mpr ⟨ok_callV dX12_told_9 rfl rfl w1144 w1141 w1143 w13 s30 (by decide +kernel) (by decide), List.forall_mem_cons.mpr ⟨ok_if_eq dX12_told_12 (by decide), List.forall_mem_cons.mpr ⟨ok_aload_n dX12_told_15 rfl, List.forall_mem_cons.mpr ⟨ok_iload_n dX12_told_16 rfl, List.forall_mem_cons.mpr ⟨ok_iload_n dX12_told_17 rfl, List.forall_mem_cons.mpr ⟨ok_callV dX12_told_18 rfl rfl w1168 w1165 w1167 w13 s34 (by decide +kernel) (by decide), List.forall_mem_cons.mpr ⟨ok_goto dX12_told_21 (by decide), List.forall_mem_cons.mpr ⟨ok_aload_n dX12_told_24 rfl, List.forall_mem_cons.mpr ⟨ok_getR dX12_told_25 rfl in12 (by decide) rfl w973, List.forall_mem_cons.mpr ⟨ok_iload_n dX12_told_28 rfl, List.forall_mem_cons.mpr ⟨ok_iald dX12_told_29, List.forall_mem_cons.mpr ⟨ok_iret (bz := false) dX12_told_30 rfl, fun _ h => absurd h List.not_mem_nil⟩⟩⟩⟩⟩⟩⟩⟩⟩⟩⟩⟩⟩⟩⟩⟩⟩⟩
def kX12_told : List (Nat × zT) := kX12_told_0
theorem qX12_told_0 : ∀ q ∈ kX12_told_0, q ∈ kX12_told := fun _ h => h
theorem tX12_told_0 : (0, a_iload 2 1) ∈ kX12_told := qX12_told_0 _ (List.mem_of_getElem? (i := 0) rfl)
theorem tX12_told_1 : (1, a_i 14 3) ∈ kX12_told := qX12_told_0 _ (List.mem_of_getElem? (i := 1) rfl)
theorem tX12_told_3 : (3, a_ic_le 24 6) ∈ kX12_told := qX12_told_0 _ (List.mem_of_getElem? (i := 2) rfl)
theorem tX12_told_6 : (6, a_aload 0 7) ∈ kX12_told := qX12_told_0 _ (List.mem_of_getElem? (i := 3) rfl)
theorem tX12_told_7 : (7, a_iload 1 8) ∈ kX12_told := qX12_told_0 _ (List.mem_of_getElem? (i := 4) rfl)
theorem tX12_told_8 : (8, a_iload 2 9) ∈ kX12_told := qX12_told_0 _ (List.mem_of_getElem? (i := 5) rfl)
theorem tX12_told_9 : (9, a_callV 12 153 3 12 0 0) ∈ kX12_told := qX12_told_0 _ (List.mem_of_getElem? (i := 6) rfl)
theorem tX12_told_12 : (12, a_if_eq 24 15) ∈ kX12_told := qX12_told_0 _ (List.mem_of_getElem? (i := 7) rfl)
theorem tX12_told_15 : (15, a_aload 0 16) ∈ kX12_told := qX12_told_0 _ (List.mem_of_getElem? (i := 8) rfl)
theorem tX12_told_16 : (16, a_iload 1 17) ∈ kX12_told := qX12_told_0 _ (List.mem_of_getElem? (i := 9) rfl)
theorem tX12_told_17 : (17, a_iload 2 18) ∈ kX12_told := qX12_told_0 _ (List.mem_of_getElem? (i := 10) rfl)
theorem tX12_told_18 : (18, a_callV 12 159 3 21 0 0) ∈ kX12_told := qX12_told_0 _ (List.mem_of_getElem? (i := 11) rfl)
theorem tX12_told_21 : (21, a_goto 30) ∈ kX12_told := qX12_told_0 _ (List.mem_of_getElem? (i := 12) rfl)
theorem tX12_told_24 : (24, a_aload 0 25) ∈ kX12_told := qX12_told_0 _ (List.mem_of_getElem? (i := 13) rfl)
theorem tX12_told_25 : (25, a_getR 12 16 28) ∈ kX12_told := qX12_told_0 _ (List.mem_of_getElem? (i := 14) rfl)
theorem tX12_told_28 : (28, a_iload 2 29) ∈ kX12_told := qX12_told_0 _ (List.mem_of_getElem? (i := 15) rfl)
theorem tX12_told_29 : (29, a_iald 30) ∈ kX12_told := qX12_told_0 _ (List.mem_of_getElem? (i := 16) rfl)
theorem tX12_told_30 : (30, a_iret false) ∈ kX12_told := qX12_told_0 _ (List.mem_of_getElem? (i := 17) rfl)
theorem oX12_told : ∀ q ∈ kX12_told, zSnd zty false RX12 cX12_told 3 (some .int) false q := oX12_told_0
theorem dX12_stateNow_0 : decode cX12_stateNow 0 = .ok (.iconst 0, 1) := by decide +kernel
theorem dX12_stateNow_1 : decode cX12_stateNow 1 = .ok (.istore_n 1, 1) := by decide +kernel
theorem dX12_stateNow_2 : decode cX12_stateNow 2 = .ok (.iconst 0, 1) := by decide +kernel
theorem dX12_stateNow_3 : decode cX12_stateNow 3 = .ok (.istore_n 2, 1) := by decide +kernel
theorem dX12_stateNow_4 : decode cX12_stateNow 4 = .ok (.iload_n 2, 1) := by decide +kernel
theorem dX12_stateNow_5 : decode cX12_stateNow 5 = .ok (.iconst 4, 1) := by decide +kernel
theorem dX12_stateNow_6 : decode cX12_stateNow 6 = .ok (.if_icmp .ge 22, 3) := by decide +kernel
theorem dX12_stateNow_9 : decode cX12_stateNow 9 = .ok (.iload_n 1, 1) := by decide +kernel
theorem dX12_stateNow_10 : decode cX12_stateNow 10 = .ok (.aload_n 0, 1) := by decide +kernel
theorem dX12_stateNow_11 : decode cX12_stateNow 11 = .ok (.getfield 34, 3) := by decide +kernel
theorem dX12_stateNow_14 : decode cX12_stateNow 14 = .ok (.iload_n 2, 1) := by decide +kernel
theorem dX12_stateNow_15 : decode cX12_stateNow 15 = .ok (.iaload, 1) := by decide +kernel
theorem dX12_stateNow_16 : decode cX12_stateNow 16 = .ok (.iconst 2, 1) := by decide +kernel
theorem dX12_stateNow_17 : decode cX12_stateNow 17 = .ok (.iload_n 2, 1) := by decide +kernel
theorem dX12_stateNow_18 : decode cX12_stateNow 18 = .ok (.imul, 1) := by decide +kernel
theorem dX12_stateNow_19 : decode cX12_stateNow 19 = .ok (.ishl, 1) := by decide +kernel
theorem dX12_stateNow_20 : decode cX12_stateNow 20 = .ok (.ior, 1) := by decide +kernel
theorem dX12_stateNow_21 : decode cX12_stateNow 21 = .ok (.istore_n 1, 1) := by decide +kernel
theorem dX12_stateNow_22 : decode cX12_stateNow 22 = .ok (.iinc 2 1, 3) := by decide +kernel
theorem dX12_stateNow_25 : decode cX12_stateNow 25 = .ok (.goto (-21), 3) := by decide +kernel
theorem dX12_stateNow_28 : decode cX12_stateNow 28 = .ok (.iload_n 1, 1) := by decide +kernel
theorem dX12_stateNow_29 : decode cX12_stateNow 29 = .ok (.ireturn, 1) := by decide +kernel
def kX12_stateNow_0 : List (Nat × zT) := [(0, a_i 0 1), (1, a_istore 1 2), (2, a_i 0 3), (3, a_istore 2 4), (4, a_iload 2 5), (5, a_i 4 6), (6, a_ic_ge 28 9), (9, a_iload 1 10), (10, a_aload 0 11), (11, a_getR 12 8 14), (14, a_iload 2 15), (15, a_iald 16), (16, a_i 2 17), (17, a_iload 2 18), (18, a_ii (fun x y => x * y) 19), (19, a_ii (fun x y => x <<< (y &&& 31)) 20), (20, a_ii (fun x y => x ||| y) 21), (21, a_istore 1 22), (22, a_iinc 2 1 25), (25, a_goto 4), (28, a_iload 1 29), (29, a_iret false)]
theorem oX12_stateNow_0 : ∀ q ∈ kX12_stateNow_0, zSnd zty false RX12 cX12_stateNow 3 (some .int) false q := List.forall_mem_cons.mpr ⟨ok_iconst dX12_stateNow_0 (by decide), List.forall_mem_cons.mpr ⟨ok_istore_n dX12_stateNow_1 rfl (by decide), List.forall_mem_cons.mpr ⟨ok_iconst dX12_stateNow_2 (by decide), List.forall_mem_cons.mpr ⟨ok_istore_n dX12_stateNow_3 rfl (by decide), List.forall_mem_cons.mpr ⟨ok_iload_n dX12_stateNow_4 rfl, List.forall_mem_cons.mpr ⟨ok_iconst dX12_stateNow_5 (by decide), List.forall_mem_cons.mpr ⟨ok_ic_ge dX12_stateNow_6 (by decide), List.forall_mem_cons.mpr ⟨ok_iload_n dX12_stateNow_9 rfl, List.forall_mem_cons.mpr ⟨ok_aload_n dX12_stateNow_10 rfl, List.forall_mem_cons.mpr ⟨ok_getR dX12_stateNow_11 rfl in12 (by decide) rfl w965, List.forall_mem_cons.mpr ⟨ok_iload_n dX12_stateNow_14 rfl, List.forall_mem_cons.mpr ⟨ok_iald dX12_stateNow_15, List.forall_mem_cons.mpr ⟨ok_iconst dX12_stateNow_16 (by decide), List.forall_mem_cons.mpr ⟨ok_iload_n dX12_stateNow_17 rfl, List.forall_mem_cons.mpr ⟨ok_imul dX12_stateNow_18, List.forall_mem_cons.mpr ⟨ok_ishl dX12_stateNow_19, List.forall_mem_cons.mpr ⟨ok_ior dX12_stateNow_20, List.forall_mem_cons.mpr ⟨ok_istore_n dX12_stateNow_21 rfl (by decide), List.forall_mem_cons.mpr ⟨ok_iinc dX12_stateNow_22 (by decide) (by decide), List.forall_mem_cons.mpr ⟨ok_goto dX12_stateNow_25 (by decide), List.forall_mem_cons.mpr ⟨ok_iload_n dX12_stateNow_28 rfl, List.forall_mem_cons.mpr ⟨ok_iret (bz := false) dX12_stateNow_29 rfl, fun _ h => absurd h List.not_mem_nil⟩⟩⟩⟩⟩⟩⟩⟩⟩⟩⟩⟩⟩⟩⟩⟩⟩⟩⟩⟩⟩⟩
def kX12_stateNow : List (Nat × zT) := kX12_stateNow_0
theorem qX12_stateNow_0 : ∀ q ∈ kX12_stateNow_0, q ∈ kX12_stateNow := fun _ h => h
theorem tX12_stateNow_0 : (0, a_i 0 1) ∈ kX12_stateNow := qX12_stateNow_0 _ (List.mem_of_getElem? (i := 0) rfl)
theorem tX12_stateNow_1 : (1, a_istore 1 2) ∈ kX12_stateNow := qX12_stateNow_0 _ (List.mem_of_getElem? (i := 1) rfl)
theorem tX12_stateNow_2 : (2, a_i 0 3) ∈ kX12_stateNow := qX12_stateNow_0 _ (List.mem_of_getElem? (i := 2) rfl)
theorem tX12_stateNow_3 : (3, a_istore 2 4) ∈ kX12_stateNow := qX12_stateNow_0 _ (List.mem_of_getElem? (i := 3) rfl)
theorem tX12_stateNow_4 : (4, a_iload 2 5) ∈ kX12_stateNow := qX12_stateNow_0 _ (List.mem_of_getElem? (i := 4) rfl)
theorem tX12_stateNow_5 : (5, a_i 4 6) ∈ kX12_stateNow := qX12_stateNow_0 _ (List.mem_of_getElem? (i := 5) rfl)
theorem tX12_stateNow_6 : (6, a_ic_ge 28 9) ∈ kX12_stateNow := qX12_stateNow_0 _ (List.mem_of_getElem? (i := 6) rfl)
theorem tX12_stateNow_9 : (9, a_iload 1 10) ∈ kX12_stateNow := qX12_stateNow_0 _ (List.mem_of_getElem? (i := 7) rfl)
theorem tX12_stateNow_10 : (10, a_aload 0 11) ∈ kX12_stateNow := qX12_stateNow_0 _ (List.mem_of_getElem? (i := 8) rfl)
theorem tX12_stateNow_11 : (11, a_getR 12 8 14) ∈ kX12_stateNow := qX12_stateNow_0 _ (List.mem_of_getElem? (i := 9) rfl)
theorem tX12_stateNow_14 : (14, a_iload 2 15) ∈ kX12_stateNow := qX12_stateNow_0 _ (List.mem_of_getElem? (i := 10) rfl)
theorem tX12_stateNow_15 : (15, a_iald 16) ∈ kX12_stateNow := qX12_stateNow_0 _ (List.mem_of_getElem? (i := 11) rfl)
theorem tX12_stateNow_16 : (16, a_i 2 17) ∈ kX12_stateNow := qX12_stateNow_0 _ (List.mem_of_getElem? (i := 12) rfl)
theorem tX12_stateNow_17 : (17, a_iload 2 18) ∈ kX12_stateNow := qX12_stateNow_0 _ (List.mem_of_getElem? (i := 13) rfl)
theorem tX12_stateNow_18 : (18, a_ii (fun x y => x * y) 19) ∈ kX12_stateNow := qX12_stateNow_0 _ (List.mem_of_getElem? (i := 14) rfl)
theorem tX12_stateNow_19 : (19, a_ii (fun x y => x <<< (y &&& 31)) 20) ∈ kX12_stateNow := qX12_stateNow_0 _ (List.mem_of_getElem? (i := 15) rfl)
theorem tX12_stateNow_20 : (20, a_ii (fun x y => x ||| y) 21) ∈ kX12_stateNow := qX12_stateNow_0 _ (List.mem_of_getElem? (i := 16) rfl)
theorem tX12_stateNow_21 : (21, a_istore 1 22) ∈ kX12_stateNow := qX12_stateNow_0 _ (List.mem_of_getElem? (i := 17) rfl)
theorem tX12_stateNow_22 : (22, a_iinc 2 1 25) ∈ kX12_stateNow := qX12_stateNow_0 _ (List.mem_of_getElem? (i := 18) rfl)
theorem tX12_stateNow_25 : (25, a_goto 4) ∈ kX12_stateNow := qX12_stateNow_0 _ (List.mem_of_getElem? (i := 19) rfl)
theorem tX12_stateNow_28 : (28, a_iload 1 29) ∈ kX12_stateNow := qX12_stateNow_0 _ (List.mem_of_getElem? (i := 20) rfl)
theorem tX12_stateNow_29 : (29, a_iret false) ∈ kX12_stateNow := qX12_stateNow_0 _ (List.mem_of_getElem? (i := 21) rfl)
theorem oX12_stateNow : ∀ q ∈ kX12_stateNow, zSnd zty false RX12 cX12_stateNow 3 (some .int) false q := oX12_stateNow_0
theorem dX12_state_0 : decode cX12_state 0 = .ok (.iload_n 1, 1) := by decide +kernel
theorem dX12_state_1 : decode cX12_state 1 = .ok (.iconst 0, 1) := by decide +kernel
theorem dX12_state_2 : decode cX12_state 2 = .ok (.sipush 255, 3) := by decide +kernel
theorem dX12_state_5 : decode cX12_state 5 = .ok (.invokestatic 112, 3) := by decide +kernel
theorem dX12_state_8 : decode cX12_state 8 = .ok (.istore_n 2, 1) := by decide +kernel
theorem dX12_state_9 : decode cX12_state 9 = .ok (.iconst 0, 1) := by decide +kernel
theorem dX12_state_10 : decode cX12_state 10 = .ok (.istore_n 3, 1) := by decide +kernel
theorem dX12_state_11 : decode cX12_state 11 = .ok (.iload_n 3, 1) := by decide +kernel
theorem dX12_state_12 : decode cX12_state 12 = .ok (.iconst 4, 1) := by decide +kernel
theorem dX12_state_13 : decode cX12_state 13 = .ok (.if_icmp .ge 30, 3) := by decide +kernel
theorem dX12_state_16 : decode cX12_state 16 = .ok (.iload_n 2, 1) := by decide +kernel
theorem dX12_state_17 : decode cX12_state 17 = .ok (.ifCond .eq 18, 3) := by decide +kernel
theorem dX12_state_20 : decode cX12_state 20 = .ok (.iload_n 1, 1) := by decide +kernel
theorem dX12_state_21 : decode cX12_state 21 = .ok (.iconst 2, 1) := by decide +kernel
theorem dX12_state_22 : decode cX12_state 22 = .ok (.iload_n 3, 1) := by decide +kernel
theorem dX12_state_23 : decode cX12_state 23 = .ok (.imul, 1) := by decide +kernel
theorem dX12_state_24 : decode cX12_state 24 = .ok (.ishr, 1) := by decide +kernel
theorem dX12_state_25 : decode cX12_state 25 = .ok (.iconst 3, 1) := by decide +kernel
theorem dX12_state_26 : decode cX12_state 26 = .ok (.iand, 1) := by decide +kernel
theorem dX12_state_27 : decode cX12_state 27 = .ok (.iconst 3, 1) := by decide +kernel
theorem dX12_state_28 : decode cX12_state 28 = .ok (.if_icmp .ge 7, 3) := by decide +kernel
theorem dX12_state_31 : decode cX12_state 31 = .ok (.iconst 1, 1) := by decide +kernel
theorem dX12_state_32 : decode cX12_state 32 = .ok (.goto 4, 3) := by decide +kernel
theorem dX12_state_35 : decode cX12_state 35 = .ok (.iconst 0, 1) := by decide +kernel
theorem dX12_state_36 : decode cX12_state 36 = .ok (.istore_n 2, 1) := by decide +kernel
theorem dX12_state_37 : decode cX12_state 37 = .ok (.iinc 3 1, 3) := by decide +kernel
theorem dX12_state_40 : decode cX12_state 40 = .ok (.goto (-29), 3) := by decide +kernel
theorem dX12_state_43 : decode cX12_state 43 = .ok (.iload_n 2, 1) := by decide +kernel
theorem dX12_state_44 : decode cX12_state 44 = .ok (.ifCond .ne 5, 3) := by decide +kernel
theorem dX12_state_47 : decode cX12_state 47 = .ok (.iconst (-1), 1) := by decide +kernel
theorem dX12_state_48 : decode cX12_state 48 = .ok (.ireturn, 1) := by decide +kernel
theorem dX12_state_49 : decode cX12_state 49 = .ok (.aload_n 0, 1) := by decide +kernel
theorem dX12_state_50 : decode cX12_state 50 = .ok (.invokevirtual 179, 3) := by decide +kernel
theorem dX12_state_53 : decode cX12_state 53 = .ok (.istore_n 3, 1) := by decide +kernel
theorem dX12_state_54 : decode cX12_state 54 = .ok (.iconst 0, 1) := by decide +kernel
theorem dX12_state_55 : decode cX12_state 55 = .ok (.istore 4, 2) := by decide +kernel
theorem dX12_state_57 : decode cX12_state 57 = .ok (.iload 4, 2) := by decide +kernel
theorem dX12_state_59 : decode cX12_state 59 = .ok (.iconst 4, 1) := by decide +kernel
theorem dX12_state_60 : decode cX12_state 60 = .ok (.if_icmp .ge 24, 3) := by decide +kernel
theorem dX12_state_63 : decode cX12_state 63 = .ok (.aload_n 0, 1) := by decide +kernel
theorem dX12_state_64 : decode cX12_state 64 = .ok (.getfield 34, 3) := by decide +kernel
theorem dX12_state_67 : decode cX12_state 67 = .ok (.iload 4, 2) := by decide +kernel
theorem dX12_state_69 : decode cX12_state 69 = .ok (.iload_n 1, 1) := by decide +kernel
theorem dX12_state_70 : decode cX12_state 70 = .ok (.iconst 2, 1) := by decide +kernel
theorem dX12_state_71 : decode cX12_state 71 = .ok (.iload 4, 2) := by decide +kernel
theorem dX12_state_73 : decode cX12_state 73 = .ok (.imul, 1) := by decide +kernel
theorem dX12_state_74 : decode cX12_state 74 = .ok (.ishr, 1) := by decide +kernel
theorem dX12_state_75 : decode cX12_state 75 = .ok (.iconst 3, 1) := by decide +kernel
theorem dX12_state_76 : decode cX12_state 76 = .ok (.iand, 1) := by decide +kernel
theorem dX12_state_77 : decode cX12_state 77 = .ok (.iastore, 1) := by decide +kernel
theorem dX12_state_78 : decode cX12_state 78 = .ok (.iinc 4 1, 3) := by decide +kernel
theorem dX12_state_81 : decode cX12_state 81 = .ok (.goto (-24), 3) := by decide +kernel
theorem dX12_state_84 : decode cX12_state 84 = .ok (.iload_n 3, 1) := by decide +kernel
theorem dX12_state_85 : decode cX12_state 85 = .ok (.ireturn, 1) := by decide +kernel
def kX12_state_0 : List (Nat × zT) := [(0, a_iload 1 1), (1, a_i 0 2), (2, a_i 255 5), (5, a_call 138 3 8 0 0), (8, a_istore 2 9), (9, a_i 0 10), (10, a_istore 3 11), (11, a_iload 3 12), (12, a_i 4 13), (13, a_ic_ge 43 16), (16, a_iload 2 17), (17, a_if_eq 35 20), (20, a_iload 1 21), (21, a_i 2 22), (22, a_iload 3 23), (23, a_ii (fun x y => x * y) 24), (24, a_ii (fun x y => x >>> (y &&& 31)) 25), (25, a_i 3 26), (26, a_ii (fun x y => x &&& y) 27), (27, a_i 3 28), (28, a_ic_ge 35 31), (31, a_i 1 32), (32, a_goto 36), (35, a_i 0 36)]
theorem oX12_state_0 : ∀ q ∈ kX12_state_0, zSnd zty false RX12 cX12_state 5 (some .int) false q := List.forall_mem_cons.mpr ⟨ok_iload_n dX12_state_0 rfl, List.forall_mem_cons.mpr ⟨ok_iconst dX12_state_1 (by decide), List.forall_mem_cons.mpr ⟨ok_sipush dX12_state_2 (by decide), List.forall_mem_cons.mpr ⟨ok_callS dX12_state_5 rfl w1084 w1082 w1083 w13 (by decide +kernel) (by decide), List.forall_mem_cons.mpr ⟨ok_istore_n dX12_state_8 rfl (by decide), List.forall_mem_cons.mpr ⟨ok_iconst dX12_state_9 (by decide), List.forall_mem_cons.mpr ⟨ok_istore_n dX12_state_10 rfl (by decide), List.forall_mem_cons.mpr ⟨ok_iload_n dX12_state_11 rfl, List.forall_mem_cons.mpr ⟨ok_iconst dX12_state_12 (by decide), List.forall_mem_cons.mpr ⟨ok_ic_ge dX12_state_13 (by decide), List.forall_mem_cons.mpr ⟨ok_iload_n dX12_state_16 rfl, List.forall_mem_cons.mpr ⟨ok_if_eq dX12_state_17 (by decide), List.forall_mem_cons.mpr ⟨ok_iload_n dX12_state_20 rfl, List.forall_mem_cons.mpr ⟨ok_iconst dX12_state_21 (by decide), List.forall_mem_cons.mpr ⟨ok_iload_n dX12_state_22 rfl, List.forall_mem_cons.mpr ⟨ok_imul dX12_state_23, List.forall_mem_cons.mpr ⟨ok_ishr dX12_state_24, List.forall_mem_cons.mpr ⟨ok_iconst dX12_state_25 (by decide), List.forall_mem_cons.mpr ⟨ok_iand dX12_state_26, List.forall_mem_cons.mpr ⟨ok_iconst dX12_state_27 (by decide), List.forall_mem_cons.mpr ⟨ok_ic_ge dX12_state_28 (by decide), List.forall_mem_cons.mpr ⟨ok_iconst dX12_state_31 (by decide), List.forall_mem_cons.mpr ⟨ok_goto dX12_state_32 (by decide), List.forall_mem_cons.mpr ⟨ok_iconst dX12_state_35 (by decide), fun _ h => absurd h List.not_mem_nil⟩⟩⟩⟩⟩⟩⟩⟩⟩⟩⟩⟩⟩⟩⟩⟩⟩⟩⟩⟩⟩⟩⟩⟩
def kX12_state_1 : List (Nat × zT) := [(36, a_istore 2 37), (37, a_iinc 3 1 40), (40, a_goto 11), (43, a_iload 2 44), (44, a_if_ne 49 47), (47, a_i (-1) 48), (48, a_iret false), (49, a_aload 0 50), (50, a_callV 12 163 1 53 0 0), (53, a_istore 3 54), (54, a_i 0 55), (55, a_istore 4 57), (57, a_iload 4 59), (59, a_i 4 60), (60, a_ic_ge 84 63), (63, a_aload 0 64), (64, a_getR 12 8 67), (67, a_iload 4 69), (69, a_iload 1 70), (70, a_i 2 71), (71, a_iload 4 73), (73, a_ii (fun x y => x * y) 74), (74, a_ii (fun x y => x >>> (y &&& 31)) 75), (75, a_i 3 76)]
theorem oX12_state_1 : ∀ q ∈ kX12_state_1, zSnd zty false RX12 cX12_state 5 (some .int) false q := List.forall_mem_cons.mpr ⟨ok_istore_n dX12_state_36 rfl (by decide), List.forall_mem_cons.mpr ⟨ok_iinc dX12_state_37 (by decide) (by decide), List.forall_mem_cons.mpr ⟨ok_goto dX12_state_40 (by decide), List.forall_mem_cons.mpr ⟨ok_iload_n dX12_state_43 rfl, List.forall_mem_cons.mpr ⟨ok_if_ne dX12_state_44 (by decide), List.forall_mem_cons.mpr ⟨ok_iconst dX12_state_47 (by decide), List.forall_mem_cons.mpr ⟨ok_iret (bz := false) dX12_state_48 rfl, List.forall_mem_cons.mpr ⟨ok_aload_n dX12_state_49 rfl, List.forall_mem_cons.mpr ⟨ok_callV dX12_state_50 rfl rfl w1156 w1153 w1155 w13 s32 (by decide +kernel) (by decide), List.forall_mem_cons.mpr ⟨ok_istore_n dX12_state_53 rfl (by decide), List.forall_mem_cons.mpr ⟨ok_iconst dX12_state_54 (by decide), List.forall_mem_cons.mpr ⟨ok_istore dX12_state_55 (by decide), List.forall_mem_cons.mpr ⟨ok_iload dX12_state_57, List.forall_mem_cons.mpr ⟨ok_iconst dX12_state_59 (by decide), List.forall_mem_cons.mpr ⟨ok_ic_ge dX12_state_60 (by decide), List.forall_mem_cons.mpr ⟨ok_aload_n dX12_state_63 rfl, List.forall_mem_cons.mpr ⟨ok_getR dX12_state_64 rfl in12 (by decide) rfl w965, List.forall_mem_cons.mpr ⟨ok_iload dX12_state_67, List.forall_mem_cons.mpr ⟨ok_iload_n dX12_state_69 rfl, List.forall_mem_cons.mpr ⟨ok_iconst dX12_state_70 (by decide), List.forall_mem_cons.mpr ⟨ok_iload dX12_state_71, List.forall_mem_cons.mpr ⟨ok_imul dX12_state_73, List.forall_mem_cons.mpr ⟨ok_ishr dX12_state_74, List.forall_mem_cons.mpr ⟨ok_iconst dX12_state_75 (by decide), fun _ h => absurd h List.not_mem_nil⟩⟩⟩⟩⟩⟩⟩⟩⟩⟩⟩⟩⟩⟩⟩⟩⟩⟩⟩⟩⟩⟩⟩⟩
def kX12_state_2 : List (Nat × zT) := [(76, a_ii (fun x y => x &&& y) 77), (77, a_iast 78), (78, a_iinc 4 1 81), (81, a_goto 57), (84, a_iload 3 85), (85, a_iret false)]
theorem oX12_state_2 : ∀ q ∈ kX12_state_2, zSnd zty false RX12 cX12_state 5 (some .int) false q := List.forall_mem_cons.mpr ⟨ok_iand dX12_state_76, List.forall_mem_cons.mpr ⟨ok_iast dX12_state_77, List.forall_mem_cons.mpr ⟨ok_iinc dX12_state_78 (by decide) (by decide), List.forall_mem_cons.mpr ⟨ok_goto dX12_state_81 (by decide), List.forall_mem_cons.mpr ⟨ok_iload_n dX12_state_84 rfl, List.forall_mem_cons.mpr ⟨ok_iret (bz := false) dX12_state_85 rfl, fun _ h => absurd h List.not_mem_nil⟩⟩⟩⟩⟩⟩
def kX12_state : List (Nat × zT) := kX12_state_0 ++ (kX12_state_1 ++ (kX12_state_2))
theorem qX12_state_0 : ∀ q ∈ kX12_state_0, q ∈ kX12_state := fun _ h => (List.mem_append_left _ h)
theorem tX12_state_0 : (0, a_iload 1 1) ∈ kX12_state := qX12_state_0 _ (List.mem_of_getElem? (i := 0) rfl)
theorem tX12_state_1 : (1, a_i 0 2) ∈ kX12_state := qX12_state_0 _ (List.mem_of_getElem? (i := 1) rfl)
theorem tX12_state_2 : (2, a_i 255 5) ∈ kX12_state := qX12_state_0 _ (List.mem_of_getElem? (i := 2) rfl)
theorem tX12_state_5 : (5, a_call 138 3 8 0 0) ∈ kX12_state := qX12_state_0 _ (List.mem_of_getElem? (i := 3) rfl)
theorem tX12_state_8 : (8, a_istore 2 9) ∈ kX12_state := qX12_state_0 _ (List.mem_of_getElem? (i := 4) rfl)
theorem tX12_state_9 : (9, a_i 0 10) ∈ kX12_state := qX12_state_0 _ (List.mem_of_getElem? (i := 5) rfl)
theorem tX12_state_10 : (10, a_istore 3 11) ∈ kX12_state := qX12_state_0 _ (List.mem_of_getElem? (i := 6) rfl)
theorem tX12_state_11 : (11, a_iload 3 12) ∈ kX12_state := qX12_state_0 _ (List.mem_of_getElem? (i := 7) rfl)
theorem tX12_state_12 : (12, a_i 4 13) ∈ kX12_state := qX12_state_0 _ (List.mem_of_getElem? (i := 8) rfl)
theorem tX12_state_13 : (13, a_ic_ge 43 16) ∈ kX12_state := qX12_state_0 _ (List.mem_of_getElem? (i := 9) rfl)
theorem tX12_state_16 : (16, a_iload 2 17) ∈ kX12_state := qX12_state_0 _ (List.mem_of_getElem? (i := 10) rfl)
theorem tX12_state_17 : (17, a_if_eq 35 20) ∈ kX12_state := qX12_state_0 _ (List.mem_of_getElem? (i := 11) rfl)
theorem tX12_state_20 : (20, a_iload 1 21) ∈ kX12_state := qX12_state_0 _ (List.mem_of_getElem? (i := 12) rfl)
theorem tX12_state_21 : (21, a_i 2 22) ∈ kX12_state := qX12_state_0 _ (List.mem_of_getElem? (i := 13) rfl)
theorem tX12_state_22 : (22, a_iload 3 23) ∈ kX12_state := qX12_state_0 _ (List.mem_of_getElem? (i := 14) rfl)
theorem tX12_state_23 : (23, a_ii (fun x y => x * y) 24) ∈ kX12_state := qX12_state_0 _ (List.mem_of_getElem? (i := 15) rfl)
theorem tX12_state_24 : (24, a_ii (fun x y => x >>> (y &&& 31)) 25) ∈ kX12_state := qX12_state_0 _ (List.mem_of_getElem? (i := 16) rfl)
theorem tX12_state_25 : (25, a_i 3 26) ∈ kX12_state := qX12_state_0 _ (List.mem_of_getElem? (i := 17) rfl)
theorem tX12_state_26 : (26, a_ii (fun x y => x &&& y) 27) ∈ kX12_state := qX12_state_0 _ (List.mem_of_getElem? (i := 18) rfl)
theorem tX12_state_27 : (27, a_i 3 28) ∈ kX12_state := qX12_state_0 _ (List.mem_of_getElem? (i := 19) rfl)
theorem tX12_state_28 : (28, a_ic_ge 35 31) ∈ kX12_state := qX12_state_0 _ (List.mem_of_getElem? (i := 20) rfl)
theorem tX12_state_31 : (31, a_i 1 32) ∈ kX12_state := qX12_state_0 _ (List.mem_of_getElem? (i := 21) rfl)
theorem tX12_state_32 : (32, a_goto 36) ∈ kX12_state := qX12_state_0 _ (List.mem_of_getElem? (i := 22) rfl)
theorem tX12_state_35 : (35, a_i 0 36) ∈ kX12_state := qX12_state_0 _ (List.mem_of_getElem? (i := 23) rfl)
theorem qX12_state_1 : ∀ q ∈ kX12_state_1, q ∈ kX12_state := fun _ h => (List.mem_append_right _ (List.mem_append_left _ h))
theorem tX12_state_36 : (36, a_istore 2 37) ∈ kX12_state := qX12_state_1 _ (List.mem_of_getElem? (i := 0) rfl)
theorem tX12_state_37 : (37, a_iinc 3 1 40) ∈ kX12_state := qX12_state_1 _ (List.mem_of_getElem? (i := 1) rfl)
theorem tX12_state_40 : (40, a_goto 11) ∈ kX12_state := qX12_state_1 _ (List.mem_of_getElem? (i := 2) rfl)
theorem tX12_state_43 : (43, a_iload 2 44) ∈ kX12_state := qX12_state_1 _ (List.mem_of_getElem? (i := 3) rfl)
theorem tX12_state_44 : (44, a_if_ne 49 47) ∈ kX12_state := qX12_state_1 _ (List.mem_of_getElem? (i := 4) rfl)
theorem tX12_state_47 : (47, a_i (-1) 48) ∈ kX12_state := qX12_state_1 _ (List.mem_of_getElem? (i := 5) rfl)
theorem tX12_state_48 : (48, a_iret false) ∈ kX12_state := qX12_state_1 _ (List.mem_of_getElem? (i := 6) rfl)
theorem tX12_state_49 : (49, a_aload 0 50) ∈ kX12_state := qX12_state_1 _ (List.mem_of_getElem? (i := 7) rfl)
theorem tX12_state_50 : (50, a_callV 12 163 1 53 0 0) ∈ kX12_state := qX12_state_1 _ (List.mem_of_getElem? (i := 8) rfl)
theorem tX12_state_53 : (53, a_istore 3 54) ∈ kX12_state := qX12_state_1 _ (List.mem_of_getElem? (i := 9) rfl)
theorem tX12_state_54 : (54, a_i 0 55) ∈ kX12_state := qX12_state_1 _ (List.mem_of_getElem? (i := 10) rfl)
theorem tX12_state_55 : (55, a_istore 4 57) ∈ kX12_state := qX12_state_1 _ (List.mem_of_getElem? (i := 11) rfl)
theorem tX12_state_57 : (57, a_iload 4 59) ∈ kX12_state := qX12_state_1 _ (List.mem_of_getElem? (i := 12) rfl)
theorem tX12_state_59 : (59, a_i 4 60) ∈ kX12_state := qX12_state_1 _ (List.mem_of_getElem? (i := 13) rfl)
theorem tX12_state_60 : (60, a_ic_ge 84 63) ∈ kX12_state := qX12_state_1 _ (List.mem_of_getElem? (i := 14) rfl)
theorem tX12_state_63 : (63, a_aload 0 64) ∈ kX12_state := qX12_state_1 _ (List.mem_of_getElem? (i := 15) rfl)
theorem tX12_state_64 : (64, a_getR 12 8 67) ∈ kX12_state := qX12_state_1 _ (List.mem_of_getElem? (i := 16) rfl)
theorem tX12_state_67 : (67, a_iload 4 69) ∈ kX12_state := qX12_state_1 _ (List.mem_of_getElem? (i := 17) rfl)
theorem tX12_state_69 : (69, a_iload 1 70) ∈ kX12_state := qX12_state_1 _ (List.mem_of_getElem? (i := 18) rfl)
theorem tX12_state_70 : (70, a_i 2 71) ∈ kX12_state := qX12_state_1 _ (List.mem_of_getElem? (i := 19) rfl)
theorem tX12_state_71 : (71, a_iload 4 73) ∈ kX12_state := qX12_state_1 _ (List.mem_of_getElem? (i := 20) rfl)
theorem tX12_state_73 : (73, a_ii (fun x y => x * y) 74) ∈ kX12_state := qX12_state_1 _ (List.mem_of_getElem? (i := 21) rfl)
theorem tX12_state_74 : (74, a_ii (fun x y => x >>> (y &&& 31)) 75) ∈ kX12_state := qX12_state_1 _ (List.mem_of_getElem? (i := 22) rfl)
theorem tX12_state_75 : (75, a_i 3 76) ∈ kX12_state := qX12_state_1 _ (List.mem_of_getElem? (i := 23) rfl)
theorem qX12_state_2 : ∀ q ∈ kX12_state_2, q ∈ kX12_state := fun _ h => (List.mem_append_right _ (List.mem_append_right _ h))
theorem tX12_state_76 : (76, a_ii (fun x y => x &&& y) 77) ∈ kX12_state := qX12_state_2 _ (List.mem_of_getElem? (i := 0) rfl)
theorem tX12_state_77 : (77, a_iast 78) ∈ kX12_state := qX12_state_2 _ (List.mem_of_getElem? (i := 1) rfl)
theorem tX12_state_78 : (78, a_iinc 4 1 81) ∈ kX12_state := qX12_state_2 _ (List.mem_of_getElem? (i := 2) rfl)
theorem tX12_state_81 : (81, a_goto 57) ∈ kX12_state := qX12_state_2 _ (List.mem_of_getElem? (i := 3) rfl)
theorem tX12_state_84 : (84, a_iload 3 85) ∈ kX12_state := qX12_state_2 _ (List.mem_of_getElem? (i := 4) rfl)
theorem tX12_state_85 : (85, a_iret false) ∈ kX12_state := qX12_state_2 _ (List.mem_of_getElem? (i := 5) rfl)
theorem oX12_state : ∀ q ∈ kX12_state, zSnd zty false RX12 cX12_state 5 (some .int) false q := List.forall_mem_append.mpr ⟨oX12_state_0, List.forall_mem_append.mpr ⟨oX12_state_1, oX12_state_2⟩⟩
theorem dX12_step_0 : decode cX12_step 0 = .ok (.iload_n 1, 1) := by decide +kernel
theorem dX12_step_1 : decode cX12_step 1 = .ok (.iconst 0, 1) := by decide +kernel
theorem dX12_step_2 : decode cX12_step 2 = .ok (.bipush 63, 2) := by decide +kernel
theorem dX12_step_4 : decode cX12_step 4 = .ok (.invokestatic 112, 3) := by decide +kernel
theorem dX12_step_7 : decode cX12_step 7 = .ok (.ifCond .eq 13, 3) := by decide +kernel
theorem dX12_step_10 : decode cX12_step 10 = .ok (.iload_n 2, 1) := by decide +kernel
theorem dX12_step_11 : decode cX12_step 11 = .ok (.iconst 0, 1) := by decide +kernel
theorem dX12_step_12 : decode cX12_step 12 = .ok (.bipush 63, 2) := by decide +kernel
theorem dX12_step_14 : decode cX12_step 14 = .ok (.invokestatic 112, 3) := by decide +kernel
theorem dX12_step_17 : decode cX12_step 17 = .ok (.ifCond .ne 5, 3) := by decide +kernel
theorem dX12_step_20 : decode cX12_step 20 = .ok (.iconst (-1), 1) := by decide +kernel
theorem dX12_step_21 : decode cX12_step 21 = .ok (.ireturn, 1) := by decide +kernel
theorem dX12_step_22 : decode cX12_step 22 = .ok (.iconst 0, 1) := by decide +kernel
theorem dX12_step_23 : decode cX12_step 23 = .ok (.istore_n 3, 1) := by decide +kernel
theorem dX12_step_24 : decode cX12_step 24 = .ok (.iload_n 3, 1) := by decide +kernel
theorem dX12_step_25 : decode cX12_step 25 = .ok (.bipush 6, 2) := by decide +kernel
theorem dX12_step_27 : decode cX12_step 27 = .ok (.if_icmp .ge 33, 3) := by decide +kernel
theorem dX12_step_30 : decode cX12_step 30 = .ok (.aload_n 0, 1) := by decide +kernel
theorem dX12_step_31 : decode cX12_step 31 = .ok (.getfield 52, 3) := by decide +kernel
theorem dX12_step_34 : decode cX12_step 34 = .ok (.iload_n 3, 1) := by decide +kernel
theorem dX12_step_35 : decode cX12_step 35 = .ok (.iload_n 2, 1) := by decide +kernel
theorem dX12_step_36 : decode cX12_step 36 = .ok (.iload_n 3, 1) := by decide +kernel
theorem dX12_step_37 : decode cX12_step 37 = .ok (.ishr, 1) := by decide +kernel
theorem dX12_step_38 : decode cX12_step 38 = .ok (.iconst 1, 1) := by decide +kernel
theorem dX12_step_39 : decode cX12_step 39 = .ok (.iand, 1) := by decide +kernel
theorem dX12_step_40 : decode cX12_step 40 = .ok (.iconst 1, 1) := by decide +kernel
theorem dX12_step_41 : decode cX12_step 41 = .ok (.if_icmp .ne 7, 3) := by decide +kernel
theorem dX12_step_44 : decode cX12_step 44 = .ok (.iconst 2, 1) := by decide +kernel
theorem dX12_step_45 : decode cX12_step 45 = .ok (.goto 8, 3) := by decide +kernel
theorem dX12_step_48 : decode cX12_step 48 = .ok (.iload_n 1, 1) := by decide +kernel
theorem dX12_step_49 : decode cX12_step 49 = .ok (.iload_n 3, 1) := by decide +kernel
theorem dX12_step_50 : decode cX12_step 50 = .ok (.ishr, 1) := by decide +kernel
theorem dX12_step_51 : decode cX12_step 51 = .ok (.iconst 1, 1) := by decide +kernel
theorem dX12_step_52 : decode cX12_step 52 = .ok (.iand, 1) := by decide +kernel
theorem dX12_step_53 : decode cX12_step 53 = .ok (.iastore, 1) := by decide +kernel
theorem dX12_step_54 : decode cX12_step 54 = .ok (.iinc 3 1, 3) := by decide +kernel
theorem dX12_step_57 : decode cX12_step 57 = .ok (.goto (-33), 3) := by decide +kernel
theorem dX12_step_60 : decode cX12_step 60 = .ok (.iconst 0, 1) := by decide +kernel
theorem dX12_step_61 : decode cX12_step 61 = .ok (.istore_n 3, 1) := by decide +kernel
theorem dX12_step_62 : decode cX12_step 62 = .ok (.iload_n 3, 1) := by decide +kernel
theorem dX12_step_63 : decode cX12_step 63 = .ok (.iconst 4, 1) := by decide +kernel
theorem dX12_step_64 : decode cX12_step 64 = .ok (.if_icmp .ge 24, 3) := by decide +kernel
theorem dX12_step_67 : decode cX12_step 67 = .ok (.aload_n 0, 1) := by decide +kernel
theorem dX12_step_68 : decode cX12_step 68 = .ok (.getfield 52, 3) := by decide +kernel
theorem dX12_step_71 : decode cX12_step 71 = .ok (.bipush 15, 2) := by decide +kernel
theorem dX12_step_73 : decode cX12_step 73 = .ok (.iload_n 3, 1) := by decide +kernel
theorem dX12_step_74 : decode cX12_step 74 = .ok (.iadd, 1) := by decide +kernel
theorem dX12_step_75 : decode cX12_step 75 = .ok (.aload_n 0, 1) := by decide +kernel
theorem dX12_step_76 : decode cX12_step 76 = .ok (.getfield 34, 3) := by decide +kernel
theorem dX12_step_79 : decode cX12_step 79 = .ok (.iload_n 3, 1) := by decide +kernel
theorem dX12_step_80 : decode cX12_step 80 = .ok (.iaload, 1) := by decide +kernel
theorem dX12_step_81 : decode cX12_step 81 = .ok (.iastore, 1) := by decide +kernel
theorem dX12_step_82 : decode cX12_step 82 = .ok (.iinc 3 1, 3) := by decide +kernel
theorem dX12_step_85 : decode cX12_step 85 = .ok (.goto (-23), 3) := by decide +kernel
theorem dX12_step_88 : decode cX12_step 88 = .ok (.aload_n 0, 1) := by decide +kernel
theorem dX12_step_89 : decode cX12_step 89 = .ok (.iconst 0, 1) := by decide +kernel
theorem dX12_step_90 : decode cX12_step 90 = .ok (.iconst 2, 1) := by decide +kernel
theorem dX12_step_91 : decode cX12_step 91 = .ok (.invokevirtual 176, 3) := by decide +kernel
theorem dX12_step_94 : decode cX12_step 94 = .ok (.iconst 0, 1) := by decide +kernel
theorem dX12_step_95 : decode cX12_step 95 = .ok (.istore_n 3, 1) := by decide +kernel
theorem dX12_step_96 : decode cX12_step 96 = .ok (.iload_n 3, 1) := by decide +kernel
theorem dX12_step_97 : decode cX12_step 97 = .ok (.bipush 19, 2) := by decide +kernel
theorem dX12_step_99 : decode cX12_step 99 = .ok (.if_icmp .ge 21, 3) := by decide +kernel
theorem dX12_step_102 : decode cX12_step 102 = .ok (.aload_n 0, 1) := by decide +kernel
theorem dX12_step_103 : decode cX12_step 103 = .ok (.getfield 62, 3) := by decide +kernel
theorem dX12_step_106 : decode cX12_step 106 = .ok (.iload_n 3, 1) := by decide +kernel
theorem dX12_step_107 : decode cX12_step 107 = .ok (.aload_n 0, 1) := by decide +kernel
theorem dX12_step_108 : decode cX12_step 108 = .ok (.getfield 52, 3) := by decide +kernel
theorem dX12_step_111 : decode cX12_step 111 = .ok (.iload_n 3, 1) := by decide +kernel
theorem dX12_step_112 : decode cX12_step 112 = .ok (.iaload, 1) := by decide +kernel
theorem dX12_step_113 : decode cX12_step 113 = .ok (.iastore, 1) := by decide +kernel
theorem dX12_step_114 : decode cX12_step 114 = .ok (.iinc 3 1, 3) := by decide +kernel
theorem dX12_step_117 : decode cX12_step 117 = .ok (.goto (-21), 3) := by decide +kernel
theorem dX12_step_120 : decode cX12_step 120 = .ok (.iconst 0, 1) := by decide +kernel
theorem dX12_step_121 : decode cX12_step 121 = .ok (.istore_n 3, 1) := by decide +kernel
theorem dX12_step_122 : decode cX12_step 122 = .ok (.iload_n 3, 1) := by decide +kernel
theorem dX12_step_123 : decode cX12_step 123 = .ok (.iconst 4, 1) := by decide +kernel
theorem dX12_step_124 : decode cX12_step 124 = .ok (.if_icmp .ge 24, 3) := by decide +kernel
theorem dX12_step_127 : decode cX12_step 127 = .ok (.aload_n 0, 1) := by decide +kernel
theorem dX12_step_128 : decode cX12_step 128 = .ok (.getfield 34, 3) := by decide +kernel
theorem dX12_step_131 : decode cX12_step 131 = .ok (.iload_n 3, 1) := by decide +kernel
theorem dX12_step_132 : decode cX12_step 132 = .ok (.aload_n 0, 1) := by decide +kernel
theorem dX12_step_133 : decode cX12_step 133 = .ok (.iconst 0, 1) := by decide +kernel
theorem dX12_step_134 : decode cX12_step 134 = .ok (.bipush 15, 2) := by decide +kernel
theorem dX12_step_136 : decode cX12_step 136 = .ok (.iload_n 3, 1) := by decide +kernel
theorem dX12_step_137 : decode cX12_step 137 = .ok (.iadd, 1) := by decide +kernel
theorem dX12_step_138 : decode cX12_step 138 = .ok (.invokevirtual 183, 3) := by decide +kernel
theorem dX12_step_141 : decode cX12_step 141 = .ok (.iastore, 1) := by decide +kernel
theorem dX12_step_142 : decode cX12_step 142 = .ok (.iinc 3 1, 3) := by decide +kernel
theorem dX12_step_145 : decode cX12_step 145 = .ok (.goto (-23), 3) := by decide +kernel
theorem dX12_step_148 : decode cX12_step 148 = .ok (.aload_n 0, 1) := by decide +kernel
theorem dX12_step_149 : decode cX12_step 149 = .ok (.dup, 1) := by decide +kernel
theorem dX12_step_150 : decode cX12_step 150 = .ok (.getfield 150, 3) := by decide +kernel
theorem dX12_step_153 : decode cX12_step 153 = .ok (.iconst 1, 1) := by decide +kernel
theorem dX12_step_154 : decode cX12_step 154 = .ok (.iadd, 1) := by decide +kernel
theorem dX12_step_155 : decode cX12_step 155 = .ok (.putfield 150, 3) := by decide +kernel
theorem dX12_step_158 : decode cX12_step 158 = .ok (.aload_n 0, 1) := by decide +kernel
theorem dX12_step_159 : decode cX12_step 159 = .ok (.invokevirtual 179, 3) := by decide +kernel
theorem dX12_step_162 : decode cX12_step 162 = .ok (.ireturn, 1) := by decide +kernel
def kX12_step_0 : List (Nat × zT) := [(0, a_iload 1 1), (1, a_i 0 2), (2, a_i 63 4), (4, a_call 138 3 7 0 0), (7, a_if_eq 20 10), (10, a_iload 2 11), (11, a_i 0 12), (12, a_i 63 14), (14, a_call 138 3 17 0 0), (17, a_if_ne 22 20), (20, a_i (-1) 21), (21, a_iret false), (22, a_i 0 23), (23, a_istore 3 24), (24, a_iload 3 25), (25, a_i 6 27), (27, a_ic_ge 60 30), (30, a_aload 0 31), (31, a_getR 12 16 34), (34, a_iload 3 35), (35, a_iload 2 36), (36, a_iload 3 37), (37, a_ii (fun x y => x >>> (y &&& 31)) 38), (38, a_i 1 39)]
theorem oX12_step_0 : ∀ q ∈ kX12_step_0, zSnd zty false RX12 cX12_step 4 (some .int) false q := List.forall_mem_cons.mpr ⟨ok_iload_n dX12_step_0 rfl, List.forall_mem_cons.mpr ⟨ok_iconst dX12_step_1 (by decide), List.forall_mem_cons.mpr ⟨ok_bipush dX12_step_2 (by decide), List.forall_mem_cons.mpr ⟨ok_callS dX12_step_4 rfl w1084 w1082 w1083 w13 (by decide +kernel) (by decide), List.forall_mem_cons.mpr ⟨ok_if_eq dX12_step_7 (by decide), List.forall_mem_cons.mpr ⟨ok_iload_n dX12_step_10 rfl, List.forall_mem_cons.mpr ⟨ok_iconst dX12_step_11 (by decide), List.forall_mem_cons.mpr ⟨ok_bipush dX12_step_12 (by decide), List.forall_mem_cons.mpr ⟨ok_callS dX12_step_14 rfl w1084 w1082 w1083 w13 (by decide +kernel) (by decide), List.forall_mem_cons.mpr ⟨ok_if_ne dX12_step_17 (by decide), List.forall_mem_cons.mpr ⟨ok_iconst dX12_step_20 (by decide), List.forall_mem_cons.mpr ⟨ok_iret (bz := false) dX12_step_21 rfl, List.forall_mem_cons.mpr ⟨ok_iconst dX12_step_22 (by decide), List.forall_mem_cons.mpr ⟨ok_istore_n dX12_step_23 rfl (by decide), List.forall_mem_cons.mpr ⟨ok_iload_n dX12_step_24 rfl, List.forall_mem_cons.mpr ⟨ok_bipush dX12_step_25 (by decide), List.forall_mem_cons.mpr ⟨ok_ic_ge dX12_step_27 (by decide), List.forall_mem_cons.mpr ⟨ok_aload_n dX12_step_30 rfl, List.forall_mem_cons.mpr ⟨ok_getR dX12_step_31 rfl in12 (by decide) rfl w973, List.forall_mem_cons.mpr ⟨ok_iload_n dX12_step_34 rfl, List.forall_mem_cons.mpr ⟨ok_iload_n dX12_step_35 rfl, List.forall_mem_cons.mpr ⟨ok_iload_n dX12_step_36 rfl, List.forall_mem_cons.mpr ⟨ok_ishr dX12_step_37, List.forall_mem_cons.mpr ⟨ok_iconst dX12_step_38 (by decide), fun _ h => absurd h List.not_mem_nil⟩⟩⟩⟩⟩⟩⟩⟩⟩⟩⟩⟩⟩⟩⟩⟩⟩⟩⟩⟩⟩⟩⟩⟩
def kX12_step_1 : List (Nat × zT) := [(39, a_ii (fun x y => x &&& y) 40), (40, a_i 1 41), (41, a_ic_ne 48 44), (44, a_i 2 45), (45, a_goto 53), (48, a_iload 1 49), (49, a_iload 3 50), (50, a_ii (fun x y => x >>> (y &&& 31)) 51), (51, a_i 1 52), (52, a_ii (fun x y => x &&& y) 53), (53, a_iast 54), (54, a_iinc 3 1 57), (57, a_goto 24), (60, a_i 0 61), (61, a_istore 3 62), (62, a_iload 3 63), (63, a_i 4 64), (64, a_ic_ge 88 67), (67, a_aload 0 68), (68, a_getR 12 16 71), (71, a_i 15 73), (73, a_iload 3 74), (74, a_ii (fun x y => x + y) 75), (75, a_aload 0 76)]
theorem oX12_step_1 : ∀ q ∈ kX12_step_1, zSnd zty false RX12 cX12_step 4 (some .int) false q := List.forall_mem_cons.mpr ⟨ok_iand dX12_step_39, List.forall_mem_cons.mpr ⟨ok_iconst dX12_step_40 (by decide), List.forall_mem_cons.mpr ⟨ok_ic_ne dX12_step_41 (by decide), List.forall_mem_cons.mpr ⟨ok_iconst dX12_step_44 (by decide), List.forall_mem_cons.mpr ⟨ok_goto dX12_step_45 (by decide), List.forall_mem_cons.mpr ⟨ok_iload_n dX12_step_48 rfl, List.forall_mem_cons.mpr ⟨ok_iload_n dX12_step_49 rfl, List.forall_mem_cons.mpr ⟨ok_ishr dX12_step_50, List.forall_mem_cons.mpr ⟨ok_iconst dX12_step_51 (by decide), List.forall_mem_cons.mpr ⟨ok_iand dX12_step_52, List.forall_mem_cons.mpr ⟨ok_iast dX12_step_53, List.forall_mem_cons.mpr ⟨ok_iinc dX12_step_54 (by decide) (by decide), List.forall_mem_cons.mpr ⟨ok_goto dX12_step_57 (by decide), List.forall_mem_cons.mpr ⟨ok_iconst dX12_step_60 (by decide), List.forall_mem_cons.mpr ⟨ok_istore_n dX12_step_61 rfl (by decide), List.forall_mem_cons.mpr ⟨ok_iload_n dX12_step_62 rfl, List.forall_mem_cons.mpr ⟨ok_iconst dX12_step_63 (by decide), List.forall_mem_cons.mpr ⟨ok_ic_ge dX12_step_64 (by decide), List.forall_mem_cons.mpr ⟨ok_aload_n dX12_step_67 rfl, List.forall_mem_cons.mpr ⟨ok_getR dX12_step_68 rfl in12 (by decide) rfl w973, List.forall_mem_cons.mpr ⟨ok_bipush dX12_step_71 (by decide), List.forall_mem_cons.mpr ⟨ok_iload_n dX12_step_73 rfl, List.forall_mem_cons.mpr ⟨ok_iadd dX12_step_74, List.forall_mem_cons.mpr ⟨ok_aload_n dX12_step_75 rfl, fun _ h => absurd h List.not_mem_nil⟩⟩⟩⟩⟩⟩⟩⟩⟩⟩⟩⟩⟩⟩⟩⟩⟩⟩⟩⟩⟩⟩⟩⟩
def kX12_step_2 : List (Nat × zT) := [(76, a_getR 12 8 79), (79, a_iload 3 80), (80, a_iald 81), (81, a_iast 82), (82, a_iinc 3 1 85), (85, a_goto 62), (88, a_aload 0 89), (89, a_i 0 90), (90, a_i 2 91), (91, a_callV 12 160 3 94 0 0), (94, a_i 0 95), (95, a_istore 3 96), (96, a_iload 3 97), (97, a_i 19 99), (99, a_ic_ge 120 102), (102, a_aload 0 103), (103, a_getR 12 20 106), (106, a_iload 3 107), (107, a_aload 0 108), (108, a_getR 12 16 111), (111, a_iload 3 112), (112, a_iald 113), (113, a_iast 114), (114, a_iinc 3 1 117)]
theorem oX12_step_2 : ∀ q ∈ kX12_step_2, zSnd zty false RX12 cX12_step 4 (some .int) false q := List.forall_mem_cons.mpr ⟨ok_getR dX12_step_76 rfl in12 (by decide) rfl w965, List.forall_mem_cons.mpr ⟨ok_iload_n dX12_step_79 rfl, List.forall_mem_cons.mpr ⟨ok_iald dX12_step_80, List.forall_mem_cons.mpr ⟨ok_iast dX12_step_81, List.forall_mem_cons.mpr ⟨ok_iinc dX12_step_82 (by decide) (by decide), List.forall_mem_cons.mpr ⟨ok_goto dX12_step_85 (by decide), List.forall_mem_cons.mpr ⟨ok_aload_n dX12_step_88 rfl, List.forall_mem_cons.mpr ⟨ok_iconst dX12_step_89 (by decide), List.forall_mem_cons.mpr ⟨ok_iconst dX12_step_90 (by decide), List.forall_mem_cons.mpr ⟨ok_callV dX12_step_91 rfl rfl w1164 w1161 w1163 w13 s33 (by decide +kernel) (by decide), List.forall_mem_cons.mpr ⟨ok_iconst dX12_step_94 (by decide), List.forall_mem_cons.mpr ⟨ok_istore_n dX12_step_95 rfl (by decide), List.forall_mem_cons.mpr ⟨ok_iload_n dX12_step_96 rfl, List.forall_mem_cons.mpr ⟨ok_bipush dX12_step_97 (by decide), List.forall_mem_cons.mpr ⟨ok_ic_ge dX12_step_99 (by decide), List.forall_mem_cons.mpr ⟨ok_aload_n dX12_step_102 rfl, List.forall_mem_cons.mpr ⟨ok_getR dX12_step_103 rfl in12 (by decide) rfl w977, List.forall_mem_cons.mpr ⟨ok_iload_n dX12_step_106 rfl, List.forall_mem_cons.mpr ⟨ok_aload_n dX12_step_107 rfl, List.forall_mem_cons.mpr ⟨ok_getR dX12_step_108 rfl in12 (by decide) rfl w973, List.forall_mem_cons.mpr ⟨ok_iload_n dX12_step_111 rfl, List.forall_mem_cons.mpr ⟨ok_iald dX12_step_112, List.forall_mem_cons.mpr ⟨ok_iast dX12_step_113, List.forall_mem_cons.mpr ⟨ok_iinc dX12_step_114 (by decide) (by decide), fun _ h => absurd h List.not_mem_nil⟩⟩⟩⟩⟩⟩⟩⟩⟩⟩⟩⟩⟩⟩⟩⟩⟩⟩⟩⟩⟩⟩⟩⟩
def kX12_step_3 : List (Nat × zT) := [(117, a_goto 96), (120, a_i 0 121), (121, a_istore 3 122), (122, a_iload 3 123), (123, a_i 4 124), (124, a_ic_ge 148 127), (127, a_aload 0 128), (128, a_getR 12 8 131), (131, a_iload 3 132), (132, a_aload 0 133), (133, a_i 0 134), (134, a_i 15 136), (136, a_iload 3 137), (137, a_ii (fun x y => x + y) 138), (138, a_callV 12 162 3 141 0 0), (141, a_iast 142), (142, a_iinc 3 1 145), (145, a_goto 122), (148, a_aload 0 149), (149, a_dup 150), (150, a_getI 12 12 153), (153, a_i 1 154), (154, a_ii (fun x y => x + y) 155), (155, a_putI 12 12 158 false)]
theorem oX12_step_3 : ∀ q ∈ kX12_step_3, zSnd zty false RX12 cX12_step 4 (some .int) false q := List.forall_mem_cons.mpr ⟨ok_goto dX12_step_117 (by decide), List.forall_mem_cons.mpr ⟨ok_iconst dX12_step_120 (by decide), List.forall_mem_cons.mpr ⟨ok_istore_n dX12_step_121 rfl (by decide), List.forall_mem_cons.mpr ⟨ok_iload_n dX12_step_122 rfl, List.forall_mem_cons.mpr ⟨ok_iconst dX12_step_123 (by decide), List.forall_mem_cons.mpr ⟨ok_ic_ge dX12_step_124 (by decide), List.forall_mem_cons.mpr ⟨ok_aload_n dX12_step_127 rfl, List.forall_mem_cons.mpr ⟨ok_getR dX12_step_128 rfl in12 (by decide) rfl w965, List.forall_mem_cons.mpr ⟨ok_iload_n dX12_step_131 rfl, List.forall_mem_cons.mpr ⟨ok_aload_n dX12_step_132 rfl, List.forall_mem_cons.mpr ⟨ok_iconst dX12_step_133 (by decide), List.forall_mem_cons.mpr ⟨ok_bipush dX12_step_134 (by decide), List.forall_mem_cons.mpr ⟨ok_iload_n dX12_step_136 rfl, List.forall_mem_cons.mpr ⟨ok_iadd dX12_step_137, List.forall_mem_cons.mpr ⟨ok_callV dX12_step_138 rfl rfl w1182 w1179 w1181 w13 s36 (by decide +kernel) (by decide), List.forall_mem_cons.mpr ⟨ok_iast dX12_step_141, List.forall_mem_cons.mpr ⟨ok_iinc dX12_step_142 (by decide) (by decide), List.forall_mem_cons.mpr ⟨ok_goto dX12_step_145 (by decide), List.forall_mem_cons.mpr ⟨ok_aload_n dX12_step_148 rfl, List.forall_mem_cons.mpr ⟨ok_dup dX12_step_149, List.forall_mem_cons.mpr ⟨ok_getI dX12_step_150 rfl in12 (by decide) rfl w969, List.forall_mem_cons.mpr ⟨ok_iconst dX12_step_153 (by decide), List.forall_mem_cons.mpr ⟨ok_iadd dX12_step_154, List.forall_mem_cons.mpr ⟨ok_putI (bz := false) dX12_step_155 rfl in12 tyX12 tyX12_ok nmX12 (by decide) rfl w969 rfl rfl, fun _ h => absurd h List.not_mem_nil⟩⟩⟩⟩⟩⟩⟩⟩⟩⟩⟩⟩⟩⟩⟩⟩⟩⟩⟩⟩⟩⟩⟩⟩
def kX12_step_4 : List (Nat × zT) := [(158, a_aload 0 159), (159, a_callV 12 163 1 162 0 0), (162, a_iret false)]
theorem oX12_step_4 : ∀ q ∈ kX12_step_4, zSnd zty false RX12 cX12_step 4 (some .int) false q := List.forall_mem_cons.mpr ⟨ok_aload_n dX12_step_158 rfl, List.forall_mem_cons.mpr ⟨ok_callV dX12_step_159 rfl rfl w1156 w1153 w1155 w13 s32 (by decide +kernel) (by decide), List.forall_mem_cons.mpr ⟨ok_iret (bz := false) dX12_step_162 rfl, fun _ h => absurd h List.not_mem_nil⟩⟩⟩
def kX12_step : List (Nat × zT) := kX12_step_0 ++ (kX12_step_1 ++ (kX12_step_2 ++ (kX12_step_3 ++ (kX12_step_4))))
theorem qX12_step_0 : ∀ q ∈ kX12_step_0, q ∈ kX12_step := fun _ h => (List.mem_append_left _ h)
theorem tX12_step_0 : (0, a_iload 1 1) ∈ kX12_step := qX12_step_0 _ (List.mem_of_getElem? (i := 0) rfl)
theorem tX12_step_1 : (1, a_i 0 2) ∈ kX12_step := qX12_step_0 _ (List.mem_of_getElem? (i := 1) rfl)
theorem tX12_step_2 : (2, a_i 63 4) ∈ kX12_step := qX12_step_0 _ (List.mem_of_getElem? (i := 2) rfl)
theorem tX12_step_4 : (4, a_call 138 3 7 0 0) ∈ kX12_step := qX12_step_0 _ (List.mem_of_getElem? (i := 3) rfl)
theorem tX12_step_7 : (7, a_if_eq 20 10) ∈ kX12_step := qX12_step_0 _ (List.mem_of_getElem? (i := 4) rfl)
theorem tX12_step_10 : (10, a_iload 2 11) ∈ kX12_step := qX12_step_0 _ (List.mem_of_getElem? (i := 5) rfl)
theorem tX12_step_11 : (11, a_i 0 12) ∈ kX12_step := qX12_step_0 _ (List.mem_of_getElem? (i := 6) rfl)
theorem tX12_step_12 : (12, a_i 63 14) ∈ kX12_step := qX12_step_0 _ (List.mem_of_getElem? (i := 7) rfl)
theorem tX12_step_14 : (14, a_call 138 3 17 0 0) ∈ kX12_step := qX12_step_0 _ (List.mem_of_getElem? (i := 8) rfl)
theorem tX12_step_17 : (17, a_if_ne 22 20) ∈ kX12_step := qX12_step_0 _ (List.mem_of_getElem? (i := 9) rfl)
theorem tX12_step_20 : (20, a_i (-1) 21) ∈ kX12_step := qX12_step_0 _ (List.mem_of_getElem? (i := 10) rfl)
theorem tX12_step_21 : (21, a_iret false) ∈ kX12_step := qX12_step_0 _ (List.mem_of_getElem? (i := 11) rfl)
theorem tX12_step_22 : (22, a_i 0 23) ∈ kX12_step := qX12_step_0 _ (List.mem_of_getElem? (i := 12) rfl)
theorem tX12_step_23 : (23, a_istore 3 24) ∈ kX12_step := qX12_step_0 _ (List.mem_of_getElem? (i := 13) rfl)
theorem tX12_step_24 : (24, a_iload 3 25) ∈ kX12_step := qX12_step_0 _ (List.mem_of_getElem? (i := 14) rfl)
theorem tX12_step_25 : (25, a_i 6 27) ∈ kX12_step := qX12_step_0 _ (List.mem_of_getElem? (i := 15) rfl)
theorem tX12_step_27 : (27, a_ic_ge 60 30) ∈ kX12_step := qX12_step_0 _ (List.mem_of_getElem? (i := 16) rfl)
theorem tX12_step_30 : (30, a_aload 0 31) ∈ kX12_step := qX12_step_0 _ (List.mem_of_getElem? (i := 17) rfl)
theorem tX12_step_31 : (31, a_getR 12 16 34) ∈ kX12_step := qX12_step_0 _ (List.mem_of_getElem? (i := 18) rfl)
theorem tX12_step_34 : (34, a_iload 3 35) ∈ kX12_step := qX12_step_0 _ (List.mem_of_getElem? (i := 19) rfl)
theorem tX12_step_35 : (35, a_iload 2 36) ∈ kX12_step := qX12_step_0 _ (List.mem_of_getElem? (i := 20) rfl)
theorem tX12_step_36 : (36, a_iload 3 37) ∈ kX12_step := qX12_step_0 _ (List.mem_of_getElem? (i := 21) rfl)
theorem tX12_step_37 : (37, a_ii (fun x y => x >>> (y &&& 31)) 38) ∈ kX12_step := qX12_step_0 _ (List.mem_of_getElem? (i := 22) rfl)
theorem tX12_step_38 : (38, a_i 1 39) ∈ kX12_step := qX12_step_0 _ (List.mem_of_getElem? (i := 23) rfl)
theorem qX12_step_1 : ∀ q ∈ kX12_step_1, q ∈ kX12_step := fun _ h => (List.mem_append_right _ (List.mem_append_left _ h))
theorem tX12_step_39 : (39, a_ii (fun x y => x &&& y) 40) ∈ kX12_step := qX12_step_1 _ (List.mem_of_getElem? (i := 0) rfl)
theorem tX12_step_40 : (40, a_i 1 41) ∈ kX12_step := qX12_step_1 _ (List.mem_of_getElem? (i := 1) rfl)
theorem tX12_step_41 : (41, a_ic_ne 48 44) ∈ kX12_step := qX12_step_1 _ (List.mem_of_getElem? (i := 2) rfl)
theorem tX12_step_44 : (44, a_i 2 45) ∈ kX12_step := qX12_step_1 _ (List.mem_of_getElem? (i := 3) rfl)
theorem tX12_step_45 : (45, a_goto 53) ∈ kX12_step := qX12_step_1 _ (List.mem_of_getElem? (i := 4) rfl)
theorem tX12_step_48 : (48, a_iload 1 49) ∈ kX12_step := qX12_step_1 _ (List.mem_of_getElem? (i := 5) rfl)
theorem tX12_step_49 : (49, a_iload 3 50) ∈ kX12_step := qX12_step_1 _ (List.mem_of_getElem? (i := 6) rfl)
theorem tX12_step_50 : (50, a_ii (fun x y => x >>> (y &&& 31)) 51) ∈ kX12_step := qX12_step_1 _ (List.mem_of_getElem? (i := 7) rfl)
theorem tX12_step_51 : (51, a_i 1 52) ∈ kX12_step := qX12_step_1 _ (List.mem_of_getElem? (i := 8) rfl)
theorem tX12_step_52 : (52, a_ii (fun x y => x &&& y) 53) ∈ kX12_step := qX12_step_1 _ (List.mem_of_getElem? (i := 9) rfl)
theorem tX12_step_53 : (53, a_iast 54) ∈ kX12_step := qX12_step_1 _ (List.mem_of_getElem? (i := 10) rfl)
theorem tX12_step_54 : (54, a_iinc 3 1 57) ∈ kX12_step := qX12_step_1 _ (List.mem_of_getElem? (i := 11) rfl)
theorem tX12_step_57 : (57, a_goto 24) ∈ kX12_step := qX12_step_1 _ (List.mem_of_getElem? (i := 12) rfl)
theorem tX12_step_60 : (60, a_i 0 61) ∈ kX12_step := qX12_step_1 _ (List.mem_of_getElem? (i := 13) rfl)
theorem tX12_step_61 : (61, a_istore 3 62) ∈ kX12_step := qX12_step_1 _ (List.mem_of_getElem? (i := 14) rfl)
theorem tX12_step_62 : (62, a_iload 3 63) ∈ kX12_step := qX12_step_1 _ (List.mem_of_getElem? (i := 15) rfl)
theorem tX12_step_63 : (63, a_i 4 64) ∈ kX12_step := qX12_step_1 _ (List.mem_of_getElem? (i := 16) rfl)
theorem tX12_step_64 : (64, a_ic_ge 88 67) ∈ kX12_step := qX12_step_1 _ (List.mem_of_getElem? (i := 17) rfl)
theorem tX12_step_67 : (67, a_aload 0 68) ∈ kX12_step := qX12_step_1 _ (List.mem_of_getElem? (i := 18) rfl)
theorem tX12_step_68 : (68, a_getR 12 16 71) ∈ kX12_step := qX12_step_1 _ (List.mem_of_getElem? (i := 19) rfl)
theorem tX12_step_71 : (71, a_i 15 73) ∈ kX12_step := qX12_step_1 _ (List.mem_of_getElem? (i := 20) rfl)
theorem tX12_step_73 : (73, a_iload 3 74) ∈ kX12_step := qX12_step_1 _ (List.mem_of_getElem? (i := 21) rfl)
theorem tX12_step_74 : (74, a_ii (fun x y => x + y) 75) ∈ kX12_step := qX12_step_1 _ (List.mem_of_getElem? (i := 22) rfl)
theorem tX12_step_75 : (75, a_aload 0 76) ∈ kX12_step := qX12_step_1 _ (List.mem_of_getElem? (i := 23) rfl)
theorem qX12_step_2 : ∀ q ∈ kX12_step_2, q ∈ kX12_step := fun _ h => (List.mem_append_right _ (List.mem_append_right _ (List.mem_append_left _ h)))
theorem tX12_step_76 : (76, a_getR 12 8 79) ∈ kX12_step := qX12_step_2 _ (List.mem_of_getElem? (i := 0) rfl)
theorem tX12_step_79 : (79, a_iload 3 80) ∈ kX12_step := qX12_step_2 _ (List.mem_of_getElem? (i := 1) rfl)
theorem tX12_step_80 : (80, a_iald 81) ∈ kX12_step := qX12_step_2 _ (List.mem_of_getElem? (i := 2) rfl)
theorem tX12_step_81 : (81, a_iast 82) ∈ kX12_step := qX12_step_2 _ (List.mem_of_getElem? (i := 3) rfl)
theorem tX12_step_82 : (82, a_iinc 3 1 85) ∈ kX12_step := qX12_step_2 _ (List.mem_of_getElem? (i := 4) rfl)
theorem tX12_step_85 : (85, a_goto 62) ∈ kX12_step := qX12_step_2 _ (List.mem_of_getElem? (i := 5) rfl)
theorem tX12_step_88 : (88, a_aload 0 89) ∈ kX12_step := qX12_step_2 _ (List.mem_of_getElem? (i := 6) rfl)
theorem tX12_step_89 : (89, a_i 0 90) ∈ kX12_step := qX12_step_2 _ (List.mem_of_getElem? (i := 7) rfl)
theorem tX12_step_90 : (90, a_i 2 91) ∈ kX12_step := qX12_step_2 _ (List.mem_of_getElem? (i := 8) rfl)
theorem tX12_step_91 : (91, a_callV 12 160 3 94 0 0) ∈ kX12_step := qX12_step_2 _ (List.mem_of_getElem? (i := 9) rfl)
theorem tX12_step_94 : (94, a_i 0 95) ∈ kX12_step := qX12_step_2 _ (List.mem_of_getElem? (i := 10) rfl)
theorem tX12_step_95 : (95, a_istore 3 96) ∈ kX12_step := qX12_step_2 _ (List.mem_of_getElem? (i := 11) rfl)
theorem tX12_step_96 : (96, a_iload 3 97) ∈ kX12_step := qX12_step_2 _ (List.mem_of_getElem? (i := 12) rfl)
theorem tX12_step_97 : (97, a_i 19 99) ∈ kX12_step := qX12_step_2 _ (List.mem_of_getElem? (i := 13) rfl)
theorem tX12_step_99 : (99, a_ic_ge 120 102) ∈ kX12_step := qX12_step_2 _ (List.mem_of_getElem? (i := 14) rfl)
theorem tX12_step_102 : (102, a_aload 0 103) ∈ kX12_step := qX12_step_2 _ (List.mem_of_getElem? (i := 15) rfl)
theorem tX12_step_103 : (103, a_getR 12 20 106) ∈ kX12_step := qX12_step_2 _ (List.mem_of_getElem? (i := 16) rfl)
theorem tX12_step_106 : (106, a_iload 3 107) ∈ kX12_step := qX12_step_2 _ (List.mem_of_getElem? (i := 17) rfl)
theorem tX12_step_107 : (107, a_aload 0 108) ∈ kX12_step := qX12_step_2 _ (List.mem_of_getElem? (i := 18) rfl)
theorem tX12_step_108 : (108, a_getR 12 16 111) ∈ kX12_step := qX12_step_2 _ (List.mem_of_getElem? (i := 19) rfl)
theorem tX12_step_111 : (111, a_iload 3 112) ∈ kX12_step := qX12_step_2 _ (List.mem_of_getElem? (i := 20) rfl)
theorem tX12_step_112 : (112, a_iald 113) ∈ kX12_step := qX12_step_2 _ (List.mem_of_getElem? (i := 21) rfl)
theorem tX12_step_113 : (113, a_iast 114) ∈ kX12_step := qX12_step_2 _ (List.mem_of_getElem? (i := 22) rfl)
theorem tX12_step_114 : (114, a_iinc 3 1 117) ∈ kX12_step := qX12_step_2 _ (List.mem_of_getElem? (i := 23) rfl)
theorem qX12_step_3 : ∀ q ∈ kX12_step_3, q ∈ kX12_step := fun _ h => (List.mem_append_right _ (List.mem_append_right _ (List.mem_append_right _ (List.mem_append_left _ h))))
theorem tX12_step_117 : (117, a_goto 96) ∈ kX12_step := qX12_step_3 _ (List.mem_of_getElem? (i := 0) rfl)
theorem tX12_step_120 : (120, a_i 0 121) ∈ kX12_step := qX12_step_3 _ (List.mem_of_getElem? (i := 1) rfl)
theorem tX12_step_121 : (121, a_istore 3 122) ∈ kX12_step := qX12_step_3 _ (List.mem_of_getElem? (i := 2) rfl)
theorem tX12_step_122 : (122, a_iload 3 123) ∈ kX12_step := qX12_step_3 _ (List.mem_of_getElem? (i := 3) rfl)
theorem tX12_step_123 : (123, a_i 4 124) ∈ kX12_step := qX12_step_3 _ (List.mem_of_getElem? (i := 4) rfl)
theorem tX12_step_124 : (124, a_ic_ge 148 127) ∈ kX12_step := qX12_step_3 _ (List.mem_of_getElem? (i := 5) rfl)
theorem tX12_step_127 : (127, a_aload 0 128) ∈ kX12_step := qX12_step_3 _ (List.mem_of_getElem? (i := 6) rfl)
theorem tX12_step_128 : (128, a_getR 12 8 131) ∈ kX12_step := qX12_step_3 _ (List.mem_of_getElem? (i := 7) rfl)
theorem tX12_step_131 : (131, a_iload 3 132) ∈ kX12_step := qX12_step_3 _ (List.mem_of_getElem? (i := 8) rfl)
theorem tX12_step_132 : (132, a_aload 0 133) ∈ kX12_step := qX12_step_3 _ (List.mem_of_getElem? (i := 9) rfl)
theorem tX12_step_133 : (133, a_i 0 134) ∈ kX12_step := qX12_step_3 _ (List.mem_of_getElem? (i := 10) rfl)
theorem tX12_step_134 : (134, a_i 15 136) ∈ kX12_step := qX12_step_3 _ (List.mem_of_getElem? (i := 11) rfl)
theorem tX12_step_136 : (136, a_iload 3 137) ∈ kX12_step := qX12_step_3 _ (List.mem_of_getElem? (i := 12) rfl)
theorem tX12_step_137 : (137, a_ii (fun x y => x + y) 138) ∈ kX12_step := qX12_step_3 _ (List.mem_of_getElem? (i := 13) rfl)
theorem tX12_step_138 : (138, a_callV 12 162 3 141 0 0) ∈ kX12_step := qX12_step_3 _ (List.mem_of_getElem? (i := 14) rfl)
theorem tX12_step_141 : (141, a_iast 142) ∈ kX12_step := qX12_step_3 _ (List.mem_of_getElem? (i := 15) rfl)
theorem tX12_step_142 : (142, a_iinc 3 1 145) ∈ kX12_step := qX12_step_3 _ (List.mem_of_getElem? (i := 16) rfl)
theorem tX12_step_145 : (145, a_goto 122) ∈ kX12_step := qX12_step_3 _ (List.mem_of_getElem? (i := 17) rfl)
theorem tX12_step_148 : (148, a_aload 0 149) ∈ kX12_step := qX12_step_3 _ (List.mem_of_getElem? (i := 18) rfl)
theorem tX12_step_149 : (149, a_dup 150) ∈ kX12_step := qX12_step_3 _ (List.mem_of_getElem? (i := 19) rfl)
theorem tX12_step_150 : (150, a_getI 12 12 153) ∈ kX12_step := qX12_step_3 _ (List.mem_of_getElem? (i := 20) rfl)
theorem tX12_step_153 : (153, a_i 1 154) ∈ kX12_step := qX12_step_3 _ (List.mem_of_getElem? (i := 21) rfl)
theorem tX12_step_154 : (154, a_ii (fun x y => x + y) 155) ∈ kX12_step := qX12_step_3 _ (List.mem_of_getElem? (i := 22) rfl)
theorem tX12_step_155 : (155, a_putI 12 12 158 false) ∈ kX12_step := qX12_step_3 _ (List.mem_of_getElem? (i := 23) rfl)
theorem qX12_step_4 : ∀ q ∈ kX12_step_4, q ∈ kX12_step := fun _ h => (List.mem_append_right _ (List.mem_append_right _ (List.mem_append_right _ (List.mem_append_right _ h))))
theorem tX12_step_158 : (158, a_aload 0 159) ∈ kX12_step := qX12_step_4 _ (List.mem_of_getElem? (i := 0) rfl)
theorem tX12_step_159 : (159, a_callV 12 163 1 162 0 0) ∈ kX12_step := qX12_step_4 _ (List.mem_of_getElem? (i := 1) rfl)
theorem tX12_step_162 : (162, a_iret false) ∈ kX12_step := qX12_step_4 _ (List.mem_of_getElem? (i := 2) rfl)
theorem oX12_step : ∀ q ∈ kX12_step, zSnd zty false RX12 cX12_step 4 (some .int) false q := List.forall_mem_append.mpr ⟨oX12_step_0, List.forall_mem_append.mpr ⟨oX12_step_1, List.forall_mem_append.mpr ⟨oX12_step_2, List.forall_mem_append.mpr ⟨oX12_step_3, oX12_step_4⟩⟩⟩⟩
theorem dX12_value_0 : decode cX12_value 0 = .ok (.iload_n 1, 1) := by decide +kernel
theorem dX12_value_1 : decode cX12_value 1 = .ok (.iconst 0, 1) := by decide +kernel
theorem dX12_value_2 : decode cX12_value 2 = .ok (.bipush 18, 2) := by decide +kernel
theorem dX12_value_4 : decode cX12_value 4 = .ok (.invokestatic 112, 3) := by decide +kernel
theorem dX12_value_7 : decode cX12_value 7 = .ok (.ifCond .ne 5, 3) := by decide +kernel
theorem dX12_value_10 : decode cX12_value 10 = .ok (.iconst (-1), 1) := by decide +kernel
theorem dX12_value_11 : decode cX12_value 11 = .ok (.ireturn, 1) := by decide +kernel
theorem dX12_value_12 : decode cX12_value 12 = .ok (.aload_n 0, 1) := by decide +kernel
theorem dX12_value_13 : decode cX12_value 13 = .ok (.getfield 150, 3) := by decide +kernel
theorem dX12_value_16 : decode cX12_value 16 = .ok (.ifCond .ne 8, 3) := by decide +kernel
theorem dX12_value_19 : decode cX12_value 19 = .ok (.bipush (-2), 2) := by decide +kernel
theorem dX12_value_21 : decode cX12_value 21 = .ok (.goto 9, 3) := by decide +kernel
theorem dX12_value_24 : decode cX12_value 24 = .ok (.aload_n 0, 1) := by decide +kernel
theorem dX12_value_25 : decode cX12_value 25 = .ok (.getfield 62, 3) := by decide +kernel
theorem dX12_value_28 : decode cX12_value 28 = .ok (.iload_n 1, 1) := by decide +kernel
theorem dX12_value_29 : decode cX12_value 29 = .ok (.iaload, 1) := by decide +kernel
theorem dX12_value_30 : decode cX12_value 30 = .ok (.ireturn, 1) := by decide +kernel
def kX12_value_0 : List (Nat × zT) := [(0, a_iload 1 1), (1, a_i 0 2), (2, a_i 18 4), (4, a_call 138 3 7 0 0), (7, a_if_ne 12 10), (10, a_i (-1) 11), (11, a_iret false), (12, a_aload 0 13), (13, a_getI 12 12 16), (16, a_if_ne 24 19), (19, a_i (-2) 21), (21, a_goto 30), (24, a_aload 0 25), (25, a_getR 12 20 28), (28, a_iload 1 29), (29, a_iald 30), (30, a_iret false)]
theorem oX12_value_0 : ∀ q ∈ kX12_value_0, zSnd zty false RX12 cX12_value 2 (some .int) false q := List.forall_mem_cons.mpr ⟨ok_iload_n dX12_value_0 rfl, List.forall_mem_cons.mpr ⟨ok_iconst dX12_value_1 (by decide), List.forall_mem_cons.mpr ⟨ok_bipush dX12_value_2 (by decide), List.forall_mem_cons.mpr ⟨ok_callS dX12_value_4 rfl w1084 w1082 w1083 w13 (by decide +kernel) (by decide), List.forall_mem_cons.mpr ⟨ok_if_ne dX12_value_7 (by decide), List.forall_mem_cons.mpr ⟨ok_iconst dX12_value_10 (by decide), List.forall_mem_cons.mpr ⟨ok_iret (bz := false) dX12_value_11 rfl, List.forall_mem_cons.mpr ⟨ok_aload_n dX12_value_12 rfl, List.forall_mem_cons.mpr ⟨ok_getI dX12_value_13 rfl in12 (by decide) rfl w969, List.forall_mem_cons.mpr ⟨ok_if_ne dX12_value_16 (by decide), List.forall_mem_cons.mpr ⟨ok_bipush dX12_value_19 (by decide), List.forall_mem_cons.mpr ⟨ok_goto dX12_value_21 (by decide), List.forall_mem_cons.mpr ⟨ok_aload_n dX12_value_24 rfl, List.forall_mem_cons.mpr ⟨ok_getR dX12_value_25 rfl in12 (by decide) rfl w977, List.forall_mem_cons.mpr ⟨ok_iload_n dX12_value_28 rfl, List.forall_mem_cons.mpr ⟨ok_iald dX12_value_29, List.forall_mem_cons.mpr ⟨ok_iret (bz := false) dX12_value_30 rfl, fun _ h => absurd h List.not_mem_nil⟩⟩⟩⟩⟩⟩⟩⟩⟩⟩⟩⟩⟩⟩⟩⟩⟩
def kX12_value : List (Nat × zT) := kX12_value_0
theorem qX12_value_0 : ∀ q ∈ kX12_value_0, q ∈ kX12_value := fun _ h => h
theorem tX12_value_0 : (0, a_iload 1 1) ∈ kX12_value := qX12_value_0 _ (List.mem_of_getElem? (i := 0) rfl)
theorem tX12_value_1 : (1, a_i 0 2) ∈ kX12_value := qX12_value_0 _ (List.mem_of_getElem? (i := 1) rfl)
theorem tX12_value_2 : (2, a_i 18 4) ∈ kX12_value := qX12_value_0 _ (List.mem_of_getElem? (i := 2) rfl)
theorem tX12_value_4 : (4, a_call 138 3 7 0 0) ∈ kX12_value := qX12_value_0 _ (List.mem_of_getElem? (i := 3) rfl)
theorem tX12_value_7 : (7, a_if_ne 12 10) ∈ kX12_value := qX12_value_0 _ (List.mem_of_getElem? (i := 4) rfl)
theorem tX12_value_10 : (10, a_i (-1) 11) ∈ kX12_value := qX12_value_0 _ (List.mem_of_getElem? (i := 5) rfl)
theorem tX12_value_11 : (11, a_iret false) ∈ kX12_value := qX12_value_0 _ (List.mem_of_getElem? (i := 6) rfl)
theorem tX12_value_12 : (12, a_aload 0 13) ∈ kX12_value := qX12_value_0 _ (List.mem_of_getElem? (i := 7) rfl)
theorem tX12_value_13 : (13, a_getI 12 12 16) ∈ kX12_value := qX12_value_0 _ (List.mem_of_getElem? (i := 8) rfl)
theorem tX12_value_16 : (16, a_if_ne 24 19) ∈ kX12_value := qX12_value_0 _ (List.mem_of_getElem? (i := 9) rfl)
theorem tX12_value_19 : (19, a_i (-2) 21) ∈ kX12_value := qX12_value_0 _ (List.mem_of_getElem? (i := 10) rfl)
theorem tX12_value_21 : (21, a_goto 30) ∈ kX12_value := qX12_value_0 _ (List.mem_of_getElem? (i := 11) rfl)
theorem tX12_value_24 : (24, a_aload 0 25) ∈ kX12_value := qX12_value_0 _ (List.mem_of_getElem? (i := 12) rfl)
theorem tX12_value_25 : (25, a_getR 12 20 28) ∈ kX12_value := qX12_value_0 _ (List.mem_of_getElem? (i := 13) rfl)
theorem tX12_value_28 : (28, a_iload 1 29) ∈ kX12_value := qX12_value_0 _ (List.mem_of_getElem? (i := 14) rfl)
theorem tX12_value_29 : (29, a_iald 30) ∈ kX12_value := qX12_value_0 _ (List.mem_of_getElem? (i := 15) rfl)
theorem tX12_value_30 : (30, a_iret false) ∈ kX12_value := qX12_value_0 _ (List.mem_of_getElem? (i := 16) rfl)
theorem oX12_value : ∀ q ∈ kX12_value, zSnd zty false RX12 cX12_value 2 (some .int) false q := oX12_value_0
theorem dX12_truth_0 : decode cX12_truth 0 = .ok (.iload_n 1, 1) := by decide +kernel
theorem dX12_truth_1 : decode cX12_truth 1 = .ok (.iconst 0, 1) := by decide +kernel
theorem dX12_truth_2 : decode cX12_truth 2 = .ok (.iconst 1, 1) := by decide +kernel
theorem dX12_truth_3 : decode cX12_truth 3 = .ok (.invokestatic 112, 3) := by decide +kernel
theorem dX12_truth_6 : decode cX12_truth 6 = .ok (.ifCond .eq 24, 3) := by decide +kernel
theorem dX12_truth_9 : decode cX12_truth 9 = .ok (.iload_n 2, 1) := by decide +kernel
theorem dX12_truth_10 : decode cX12_truth 10 = .ok (.iconst 0, 1) := by decide +kernel
theorem dX12_truth_11 : decode cX12_truth 11 = .ok (.bipush 18, 2) := by decide +kernel
theorem dX12_truth_13 : decode cX12_truth 13 = .ok (.invokestatic 112, 3) := by decide +kernel
theorem dX12_truth_16 : decode cX12_truth 16 = .ok (.ifCond .eq 14, 3) := by decide +kernel
theorem dX12_truth_19 : decode cX12_truth 19 = .ok (.iload_n 3, 1) := by decide +kernel
theorem dX12_truth_20 : decode cX12_truth 20 = .ok (.iconst 0, 1) := by decide +kernel
theorem dX12_truth_21 : decode cX12_truth 21 = .ok (.sipush 1023, 3) := by decide +kernel
theorem dX12_truth_24 : decode cX12_truth 24 = .ok (.invokestatic 112, 3) := by decide +kernel
theorem dX12_truth_27 : decode cX12_truth 27 = .ok (.ifCond .ne 5, 3) := by decide +kernel
theorem dX12_truth_30 : decode cX12_truth 30 = .ok (.iconst (-1), 1) := by decide +kernel
theorem dX12_truth_31 : decode cX12_truth 31 = .ok (.ireturn, 1) := by decide +kernel
theorem dX12_truth_32 : decode cX12_truth 32 = .ok (.aload_n 0, 1) := by decide +kernel
theorem dX12_truth_33 : decode cX12_truth 33 = .ok (.iload_n 1, 1) := by decide +kernel
theorem dX12_truth_34 : decode cX12_truth 34 = .ok (.iload_n 3, 1) := by decide +kernel
theorem dX12_truth_35 : decode cX12_truth 35 = .ok (.invokevirtual 186, 3) := by decide +kernel
theorem dX12_truth_38 : decode cX12_truth 38 = .ok (.aload_n 0, 1) := by decide +kernel
theorem dX12_truth_39 : decode cX12_truth 39 = .ok (.iload_n 1, 1) := by decide +kernel
theorem dX12_truth_40 : decode cX12_truth 40 = .ok (.iload_n 2, 1) := by decide +kernel
theorem dX12_truth_41 : decode cX12_truth 41 = .ok (.invokevirtual 183, 3) := by decide +kernel
theorem dX12_truth_44 : decode cX12_truth 44 = .ok (.ireturn, 1) := by decide +kernel
def kX12_truth_0 : List (Nat × zT) := [(0, a_iload 1 1), (1, a_i 0 2), (2, a_i 1 3), (3, a_call 138 3 6 0 0), (6, a_if_eq 30 9), (9, a_iload 2 10), (10, a_i 0 11), (11, a_i 18 13), (13, a_call 138 3 16 0 0), (16, a_if_eq 30 19), (19, a_iload 3 20), (20, a_i 0 21), (21, a_i 1023 24), (24, a_call 138 3 27 0 0), (27, a_if_ne 32 30), (30, a_i (-1) 31), (31, a_iret false), (32, a_aload 0 33), (33, a_iload 1 34), (34, a_iload 3 35), (35, a_callV 12 161 3 38 0 0), (38, a_aload 0 39), (39, a_iload 1 40), (40, a_iload 2 41)]
theorem oX12_truth_0 : ∀ q ∈ kX12_truth_0, zSnd zty false RX12 cX12_truth 4 (some .int) false q := List.forall_mem_cons.mpr ⟨ok_iload_n dX12_truth_0 rfl, List.forall_mem_cons.mpr ⟨ok_iconst dX12_truth_1 (by decide), List.forall_mem_cons.mpr ⟨ok_iconst dX12_truth_2 (by decide), List.forall_mem_cons.mpr ⟨ok_callS dX12_truth_3 rfl w1084 w1082 w1083 w13 (by decide +kernel) (by decide), List.forall_mem_cons.mpr ⟨ok_if_eq dX12_truth_6 (by decide), List.forall_mem_cons.mpr ⟨ok_iload_n dX12_truth_9 rfl, List.forall_mem_cons.mpr ⟨ok_iconst dX12_truth_10 (by decide), List.forall_mem_cons.mpr ⟨ok_bipush dX12_truth_11 (by decide), List.forall_mem_cons.mpr ⟨ok_callS dX12_truth_13 rfl w1084 w1082 w1083 w13 (by decide +kernel) (by decide), List.forall_mem_cons.mpr ⟨ok_if_eq dX12_truth_16 (by decide), List.forall_mem_cons.mpr ⟨ok_iload_n dX12_truth_19 rfl, List.forall_mem_cons.mpr ⟨ok_iconst dX12_truth_20 (by decide), List.forall_mem_cons.mpr ⟨ok_sipush dX12_truth_21 (by decide), List.forall_mem_cons.mpr ⟨ok_callS dX12_truth_24 rfl w1084 w1082 w1083 w13 (by decide +kernel) (by decide), List.forall_mem_cons.mpr ⟨ok_if_ne dX12_truth_27 (by decide), List.forall_mem_cons.mpr ⟨ok_iconst dX12_truth_30 (by decide), List.forall_mem_cons.mpr ⟨ok_iret (bz := false) dX12_truth_31 rfl, List.forall_mem_cons.mpr ⟨ok_aload_n dX12_truth_32 rfl, List.forall_mem_cons.mpr ⟨ok_iload_n dX12_truth_33 rfl, List.forall_mem_cons.mpr ⟨ok_iload_n dX12_truth_34 rfl, List.forall_mem_cons.mpr ⟨ok_callV dX12_truth_35 rfl rfl w1194 w1191 w1193 w13 s37 (by decide +kernel) (by decide), List.forall_mem_cons.mpr ⟨ok_aload_n dX12_truth_38 rfl, List.forall_mem_cons.mpr ⟨ok_iload_n dX12_truth_39 rfl, List.forall_mem_cons.mpr ⟨ok_iload_n dX12_truth_40 rfl, fun _ h => absurd h List.not_mem_nil⟩⟩⟩⟩⟩⟩⟩⟩⟩⟩⟩⟩⟩⟩⟩⟩⟩⟩⟩⟩⟩⟩⟩⟩
def kX12_truth_1 : List (Nat × zT) := [(41, a_callV 12 162 3 44 0 0), (44, a_iret false)]
theorem oX12_truth_1 : ∀ q ∈ kX12_truth_1, zSnd zty false RX12 cX12_truth 4 (some .int) false q := List.forall_mem_cons.mpr ⟨ok_callV dX12_truth_41 rfl rfl w1182 w1179 w1181 w13 s36 (by decide +kernel) (by decide), List.forall_mem_cons.mpr ⟨ok_iret (bz := false) dX12_truth_44 rfl, fun _ h => absurd h List.not_mem_nil⟩⟩
def kX12_truth : List (Nat × zT) := kX12_truth_0 ++ (kX12_truth_1)
theorem qX12_truth_0 : ∀ q ∈ kX12_truth_0, q ∈ kX12_truth := fun _ h => (List.mem_append_left _ h)
theorem tX12_truth_0 : (0, a_iload 1 1) ∈ kX12_truth := qX12_truth_0 _ (List.mem_of_getElem? (i := 0) rfl)
theorem tX12_truth_1 : (1, a_i 0 2) ∈ kX12_truth := qX12_truth_0 _ (List.mem_of_getElem? (i := 1) rfl)
theorem tX12_truth_2 : (2, a_i 1 3) ∈ kX12_truth := qX12_truth_0 _ (List.mem_of_getElem? (i := 2) rfl)
theorem tX12_truth_3 : (3, a_call 138 3 6 0 0) ∈ kX12_truth := qX12_truth_0 _ (List.mem_of_getElem? (i := 3) rfl)
theorem tX12_truth_6 : (6, a_if_eq 30 9) ∈ kX12_truth := qX12_truth_0 _ (List.mem_of_getElem? (i := 4) rfl)
theorem tX12_truth_9 : (9, a_iload 2 10) ∈ kX12_truth := qX12_truth_0 _ (List.mem_of_getElem? (i := 5) rfl)
theorem tX12_truth_10 : (10, a_i 0 11) ∈ kX12_truth := qX12_truth_0 _ (List.mem_of_getElem? (i := 6) rfl)
theorem tX12_truth_11 : (11, a_i 18 13) ∈ kX12_truth := qX12_truth_0 _ (List.mem_of_getElem? (i := 7) rfl)
theorem tX12_truth_13 : (13, a_call 138 3 16 0 0) ∈ kX12_truth := qX12_truth_0 _ (List.mem_of_getElem? (i := 8) rfl)
theorem tX12_truth_16 : (16, a_if_eq 30 19) ∈ kX12_truth := qX12_truth_0 _ (List.mem_of_getElem? (i := 9) rfl)
theorem tX12_truth_19 : (19, a_iload 3 20) ∈ kX12_truth := qX12_truth_0 _ (List.mem_of_getElem? (i := 10) rfl)
theorem tX12_truth_20 : (20, a_i 0 21) ∈ kX12_truth := qX12_truth_0 _ (List.mem_of_getElem? (i := 11) rfl)
theorem tX12_truth_21 : (21, a_i 1023 24) ∈ kX12_truth := qX12_truth_0 _ (List.mem_of_getElem? (i := 12) rfl)
theorem tX12_truth_24 : (24, a_call 138 3 27 0 0) ∈ kX12_truth := qX12_truth_0 _ (List.mem_of_getElem? (i := 13) rfl)
theorem tX12_truth_27 : (27, a_if_ne 32 30) ∈ kX12_truth := qX12_truth_0 _ (List.mem_of_getElem? (i := 14) rfl)
theorem tX12_truth_30 : (30, a_i (-1) 31) ∈ kX12_truth := qX12_truth_0 _ (List.mem_of_getElem? (i := 15) rfl)
theorem tX12_truth_31 : (31, a_iret false) ∈ kX12_truth := qX12_truth_0 _ (List.mem_of_getElem? (i := 16) rfl)
theorem tX12_truth_32 : (32, a_aload 0 33) ∈ kX12_truth := qX12_truth_0 _ (List.mem_of_getElem? (i := 17) rfl)
theorem tX12_truth_33 : (33, a_iload 1 34) ∈ kX12_truth := qX12_truth_0 _ (List.mem_of_getElem? (i := 18) rfl)
theorem tX12_truth_34 : (34, a_iload 3 35) ∈ kX12_truth := qX12_truth_0 _ (List.mem_of_getElem? (i := 19) rfl)
theorem tX12_truth_35 : (35, a_callV 12 161 3 38 0 0) ∈ kX12_truth := qX12_truth_0 _ (List.mem_of_getElem? (i := 20) rfl)
theorem tX12_truth_38 : (38, a_aload 0 39) ∈ kX12_truth := qX12_truth_0 _ (List.mem_of_getElem? (i := 21) rfl)
theorem tX12_truth_39 : (39, a_iload 1 40) ∈ kX12_truth := qX12_truth_0 _ (List.mem_of_getElem? (i := 22) rfl)
theorem tX12_truth_40 : (40, a_iload 2 41) ∈ kX12_truth := qX12_truth_0 _ (List.mem_of_getElem? (i := 23) rfl)
theorem qX12_truth_1 : ∀ q ∈ kX12_truth_1, q ∈ kX12_truth := fun _ h => (List.mem_append_right _ h)
theorem tX12_truth_41 : (41, a_callV 12 162 3 44 0 0) ∈ kX12_truth := qX12_truth_1 _ (List.mem_of_getElem? (i := 0) rfl)
theorem tX12_truth_44 : (44, a_iret false) ∈ kX12_truth := qX12_truth_1 _ (List.mem_of_getElem? (i := 1) rfl)
theorem oX12_truth : ∀ q ∈ kX12_truth, zSnd zty false RX12 cX12_truth 4 (some .int) false q := List.forall_mem_append.mpr ⟨oX12_truth_0, oX12_truth_1⟩
theorem dX12_ones_0 : decode cX12_ones 0 = .ok (.iload_n 1, 1) := by decide +kernel
theorem dX12_ones_1 : decode cX12_ones 1 = .ok (.iconst 0, 1) := by decide +kernel
theorem dX12_ones_2 : decode cX12_ones 2 = .ok (.iconst 1, 1) := by decide +kernel
theorem dX12_ones_3 : decode cX12_ones 3 = .ok (.invokestatic 112, 3) := by decide +kernel
theorem dX12_ones_6 : decode cX12_ones 6 = .ok (.ifCond .eq 13, 3) := by decide +kernel
theorem dX12_ones_9 : decode cX12_ones 9 = .ok (.iload_n 2, 1) := by decide +kernel
theorem dX12_ones_10 : decode cX12_ones 10 = .ok (.iconst 0, 1) := by decide +kernel
theorem dX12_ones_11 : decode cX12_ones 11 = .ok (.bipush 18, 2) := by decide +kernel
theorem dX12_ones_13 : decode cX12_ones 13 = .ok (.invokestatic 112, 3) := by decide +kernel
theorem dX12_ones_16 : decode cX12_ones 16 = .ok (.ifCond .ne 5, 3) := by decide +kernel
theorem dX12_ones_19 : decode cX12_ones 19 = .ok (.iconst (-1), 1) := by decide +kernel
theorem dX12_ones_20 : decode cX12_ones 20 = .ok (.ireturn, 1) := by decide +kernel
theorem dX12_ones_21 : decode cX12_ones 21 = .ok (.iconst 0, 1) := by decide +kernel
theorem dX12_ones_22 : decode cX12_ones 22 = .ok (.istore_n 3, 1) := by decide +kernel
theorem dX12_ones_23 : decode cX12_ones 23 = .ok (.iconst 0, 1) := by decide +kernel
theorem dX12_ones_24 : decode cX12_ones 24 = .ok (.istore 4, 2) := by decide +kernel
theorem dX12_ones_26 : decode cX12_ones 26 = .ok (.iload 4, 2) := by decide +kernel
theorem dX12_ones_28 : decode cX12_ones 28 = .ok (.sipush 1024, 3) := by decide +kernel
theorem dX12_ones_31 : decode cX12_ones 31 = .ok (.if_icmp .ge 25, 3) := by decide +kernel
theorem dX12_ones_34 : decode cX12_ones 34 = .ok (.aload_n 0, 1) := by decide +kernel
theorem dX12_ones_35 : decode cX12_ones 35 = .ok (.iload_n 1, 1) := by decide +kernel
theorem dX12_ones_36 : decode cX12_ones 36 = .ok (.iload 4, 2) := by decide +kernel
theorem dX12_ones_38 : decode cX12_ones 38 = .ok (.invokevirtual 186, 3) := by decide +kernel
theorem dX12_ones_41 : decode cX12_ones 41 = .ok (.iload_n 3, 1) := by decide +kernel
theorem dX12_ones_42 : decode cX12_ones 42 = .ok (.aload_n 0, 1) := by decide +kernel
theorem dX12_ones_43 : decode cX12_ones 43 = .ok (.iload_n 1, 1) := by decide +kernel
theorem dX12_ones_44 : decode cX12_ones 44 = .ok (.iload_n 2, 1) := by decide +kernel
theorem dX12_ones_45 : decode cX12_ones 45 = .ok (.invokevirtual 183, 3) := by decide +kernel
theorem dX12_ones_48 : decode cX12_ones 48 = .ok (.iadd, 1) := by decide +kernel
theorem dX12_ones_49 : decode cX12_ones 49 = .ok (.istore_n 3, 1) := by decide +kernel
theorem dX12_ones_50 : decode cX12_ones 50 = .ok (.iinc 4 1, 3) := by decide +kernel
theorem dX12_ones_53 : decode cX12_ones 53 = .ok (.goto (-27), 3) := by decide +kernel
theorem dX12_ones_56 : decode cX12_ones 56 = .ok (.iload_n 3, 1) := by decide +kernel
theorem dX12_ones_57 : decode cX12_ones 57 = .ok (.ireturn, 1) := by decide +kernel
def kX12_ones_0 : List (Nat × zT) := [(0, a_iload 1 1), (1, a_i 0 2), (2, a_i 1 3), (3, a_call 138 3 6 0 0), (6, a_if_eq 19 9), (9, a_iload 2 10), (10, a_i 0 11), (11, a_i 18 13), (13, a_call 138 3 16 0 0), (16, a_if_ne 21 19), (19, a_i (-1) 20), (20, a_iret false), (21, a_i 0 22), (22, a_istore 3 23), (23, a_i 0 24), (24, a_istore 4 26), (26, a_iload 4 28), (28, a_i 1024 31), (31, a_ic_ge 56 34), (34, a_aload 0 35), (35, a_iload 1 36), (36, a_iload 4 38), (38, a_callV 12 161 3 41 0 0), (41, a_iload 3 42)]
theorem oX12_ones_0 : ∀ q ∈ kX12_ones_0, zSnd zty false RX12 cX12_ones 5 (some .int) false q := List.forall_mem_cons.mpr ⟨ok_iload_n dX12_ones_0 rfl, List.forall_mem_cons.mpr ⟨ok_iconst dX12_ones_1 (by decide), List.forall_mem_cons.mpr ⟨ok_iconst dX12_ones_2 (by decide), List.forall_mem_cons.mpr ⟨ok_callS dX12_ones_3 rfl w1084 w1082 w1083 w13 (by decide +kernel) (by decide), List.forall_mem_cons.mpr ⟨ok_if_eq dX12_ones_6 (by decide), List.forall_mem_cons.mpr ⟨ok_iload_n dX12_ones_9 rfl, List.forall_mem_cons.mpr ⟨ok_iconst dX12_ones_10 (by decide), List.forall_mem_cons.mpr ⟨ok_bipush dX12_ones_11 (by decide), List.forall_mem_cons.mpr ⟨ok_callS dX12_ones_13 rfl w1084 w1082 w1083 w13 (by decide +kernel) (by decide), List.forall_mem_cons.mpr ⟨ok_if_ne dX12_ones_16 (by decide), List.forall_mem_cons.mpr ⟨ok_iconst dX12_ones_19 (by decide), List.forall_mem_cons.mpr ⟨ok_iret (bz := false) dX12_ones_20 rfl, List.forall_mem_cons.mpr ⟨ok_iconst dX12_ones_21 (by decide), List.forall_mem_cons.mpr ⟨ok_istore_n dX12_ones_22 rfl (by decide), List.forall_mem_cons.mpr ⟨ok_iconst dX12_ones_23 (by decide), List.forall_mem_cons.mpr ⟨ok_istore dX12_ones_24 (by decide), List.forall_mem_cons.mpr ⟨ok_iload dX12_ones_26, List.forall_mem_cons.mpr ⟨ok_sipush dX12_ones_28 (by decide), List.forall_mem_cons.mpr ⟨ok_ic_ge dX12_ones_31 (by decide), List.forall_mem_cons.mpr ⟨ok_aload_n dX12_ones_34 rfl, List.forall_mem_cons.mpr ⟨ok_iload_n dX12_ones_35 rfl, List.forall_mem_cons.mpr ⟨ok_iload dX12_ones_36, List.forall_mem_cons.mpr ⟨ok_callV dX12_ones_38 rfl rfl w1194 w1191 w1193 w13 s37 (by decide +kernel) (by decide), List.forall_mem_cons.mpr ⟨ok_iload_n dX12_ones_41 rfl, fun _ h => absurd h List.not_mem_nil⟩⟩⟩⟩⟩⟩⟩⟩⟩⟩⟩⟩⟩⟩⟩⟩⟩⟩⟩⟩⟩⟩⟩⟩
def kX12_ones_1 : List (Nat × zT) := [(42, a_aload 0 43), (43, a_iload 1 44), (44, a_iload 2 45), (45, a_callV 12 162 3 48 0 0), (48, a_ii (fun x y => x + y) 49), (49, a_istore 3 50), (50, a_iinc 4 1 53), (53, a_goto 26), (56, a_iload 3 57), (57, a_iret false)]
theorem oX12_ones_1 : ∀ q ∈ kX12_ones_1, zSnd zty false RX12 cX12_ones 5 (some .int) false q := List.forall_mem_cons.mpr ⟨ok_aload_n dX12_ones_42 rfl, List.forall_mem_cons.mpr ⟨ok_iload_n dX12_ones_43 rfl, List.forall_mem_cons.mpr ⟨ok_iload_n dX12_ones_44 rfl, List.forall_mem_cons.mpr ⟨ok_callV dX12_ones_45 rfl rfl w1182 w1179 w1181 w13 s36 (by decide +kernel) (by decide), List.forall_mem_cons.mpr ⟨ok_iadd dX12_ones_48, List.forall_mem_cons.mpr ⟨ok_istore_n dX12_ones_49 rfl (by decide), List.forall_mem_cons.mpr ⟨ok_iinc dX12_ones_50 (by decide) (by decide), List.forall_mem_cons.mpr ⟨ok_goto dX12_ones_53 (by decide), List.forall_mem_cons.mpr ⟨ok_iload_n dX12_ones_56 rfl, List.forall_mem_cons.mpr ⟨ok_iret (bz := false) dX12_ones_57 rfl, fun _ h => absurd h List.not_mem_nil⟩⟩⟩⟩⟩⟩⟩⟩⟩⟩
def kX12_ones : List (Nat × zT) := kX12_ones_0 ++ (kX12_ones_1)
theorem qX12_ones_0 : ∀ q ∈ kX12_ones_0, q ∈ kX12_ones := fun _ h => (List.mem_append_left _ h)
theorem tX12_ones_0 : (0, a_iload 1 1) ∈ kX12_ones := qX12_ones_0 _ (List.mem_of_getElem? (i := 0) rfl)
theorem tX12_ones_1 : (1, a_i 0 2) ∈ kX12_ones := qX12_ones_0 _ (List.mem_of_getElem? (i := 1) rfl)
theorem tX12_ones_2 : (2, a_i 1 3) ∈ kX12_ones := qX12_ones_0 _ (List.mem_of_getElem? (i := 2) rfl)
theorem tX12_ones_3 : (3, a_call 138 3 6 0 0) ∈ kX12_ones := qX12_ones_0 _ (List.mem_of_getElem? (i := 3) rfl)
theorem tX12_ones_6 : (6, a_if_eq 19 9) ∈ kX12_ones := qX12_ones_0 _ (List.mem_of_getElem? (i := 4) rfl)
theorem tX12_ones_9 : (9, a_iload 2 10) ∈ kX12_ones := qX12_ones_0 _ (List.mem_of_getElem? (i := 5) rfl)
theorem tX12_ones_10 : (10, a_i 0 11) ∈ kX12_ones := qX12_ones_0 _ (List.mem_of_getElem? (i := 6) rfl)
theorem tX12_ones_11 : (11, a_i 18 13) ∈ kX12_ones := qX12_ones_0 _ (List.mem_of_getElem? (i := 7) rfl)
theorem tX12_ones_13 : (13, a_call 138 3 16 0 0) ∈ kX12_ones := qX12_ones_0 _ (List.mem_of_getElem? (i := 8) rfl)
theorem tX12_ones_16 : (16, a_if_ne 21 19) ∈ kX12_ones := qX12_ones_0 _ (List.mem_of_getElem? (i := 9) rfl)
theorem tX12_ones_19 : (19, a_i (-1) 20) ∈ kX12_ones := qX12_ones_0 _ (List.mem_of_getElem? (i := 10) rfl)
theorem tX12_ones_20 : (20, a_iret false) ∈ kX12_ones := qX12_ones_0 _ (List.mem_of_getElem? (i := 11) rfl)
theorem tX12_ones_21 : (21, a_i 0 22) ∈ kX12_ones := qX12_ones_0 _ (List.mem_of_getElem? (i := 12) rfl)
theorem tX12_ones_22 : (22, a_istore 3 23) ∈ kX12_ones := qX12_ones_0 _ (List.mem_of_getElem? (i := 13) rfl)
theorem tX12_ones_23 : (23, a_i 0 24) ∈ kX12_ones := qX12_ones_0 _ (List.mem_of_getElem? (i := 14) rfl)
theorem tX12_ones_24 : (24, a_istore 4 26) ∈ kX12_ones := qX12_ones_0 _ (List.mem_of_getElem? (i := 15) rfl)
theorem tX12_ones_26 : (26, a_iload 4 28) ∈ kX12_ones := qX12_ones_0 _ (List.mem_of_getElem? (i := 16) rfl)
theorem tX12_ones_28 : (28, a_i 1024 31) ∈ kX12_ones := qX12_ones_0 _ (List.mem_of_getElem? (i := 17) rfl)
theorem tX12_ones_31 : (31, a_ic_ge 56 34) ∈ kX12_ones := qX12_ones_0 _ (List.mem_of_getElem? (i := 18) rfl)
theorem tX12_ones_34 : (34, a_aload 0 35) ∈ kX12_ones := qX12_ones_0 _ (List.mem_of_getElem? (i := 19) rfl)
theorem tX12_ones_35 : (35, a_iload 1 36) ∈ kX12_ones := qX12_ones_0 _ (List.mem_of_getElem? (i := 20) rfl)
theorem tX12_ones_36 : (36, a_iload 4 38) ∈ kX12_ones := qX12_ones_0 _ (List.mem_of_getElem? (i := 21) rfl)
theorem tX12_ones_38 : (38, a_callV 12 161 3 41 0 0) ∈ kX12_ones := qX12_ones_0 _ (List.mem_of_getElem? (i := 22) rfl)
theorem tX12_ones_41 : (41, a_iload 3 42) ∈ kX12_ones := qX12_ones_0 _ (List.mem_of_getElem? (i := 23) rfl)
theorem qX12_ones_1 : ∀ q ∈ kX12_ones_1, q ∈ kX12_ones := fun _ h => (List.mem_append_right _ h)
theorem tX12_ones_42 : (42, a_aload 0 43) ∈ kX12_ones := qX12_ones_1 _ (List.mem_of_getElem? (i := 0) rfl)
theorem tX12_ones_43 : (43, a_iload 1 44) ∈ kX12_ones := qX12_ones_1 _ (List.mem_of_getElem? (i := 1) rfl)
theorem tX12_ones_44 : (44, a_iload 2 45) ∈ kX12_ones := qX12_ones_1 _ (List.mem_of_getElem? (i := 2) rfl)
theorem tX12_ones_45 : (45, a_callV 12 162 3 48 0 0) ∈ kX12_ones := qX12_ones_1 _ (List.mem_of_getElem? (i := 3) rfl)
theorem tX12_ones_48 : (48, a_ii (fun x y => x + y) 49) ∈ kX12_ones := qX12_ones_1 _ (List.mem_of_getElem? (i := 4) rfl)
theorem tX12_ones_49 : (49, a_istore 3 50) ∈ kX12_ones := qX12_ones_1 _ (List.mem_of_getElem? (i := 5) rfl)
theorem tX12_ones_50 : (50, a_iinc 4 1 53) ∈ kX12_ones := qX12_ones_1 _ (List.mem_of_getElem? (i := 6) rfl)
theorem tX12_ones_53 : (53, a_goto 26) ∈ kX12_ones := qX12_ones_1 _ (List.mem_of_getElem? (i := 7) rfl)
theorem tX12_ones_56 : (56, a_iload 3 57) ∈ kX12_ones := qX12_ones_1 _ (List.mem_of_getElem? (i := 8) rfl)
theorem tX12_ones_57 : (57, a_iret false) ∈ kX12_ones := qX12_ones_1 _ (List.mem_of_getElem? (i := 9) rfl)
theorem oX12_ones : ∀ q ∈ kX12_ones, zSnd zty false RX12 cX12_ones 5 (some .int) false q := List.forall_mem_append.mpr ⟨oX12_ones_0, oX12_ones_1⟩
theorem dX12_start_0 : decode cX12_start 0 = .ok (.iload_n 1, 1) := by decide +kernel
theorem dX12_start_1 : decode cX12_start 1 = .ok (.iconst 0, 1) := by decide +kernel
theorem dX12_start_2 : decode cX12_start 2 = .ok (.bipush 15, 2) := by decide +kernel
theorem dX12_start_4 : decode cX12_start 4 = .ok (.invokestatic 112, 3) := by decide +kernel
theorem dX12_start_7 : decode cX12_start 7 = .ok (.ifCond .ne 5, 3) := by decide +kernel
theorem dX12_start_10 : decode cX12_start 10 = .ok (.iconst (-1), 1) := by decide +kernel
theorem dX12_start_11 : decode cX12_start 11 = .ok (.ireturn, 1) := by decide +kernel
theorem dX12_start_12 : decode cX12_start 12 = .ok (.aload_n 0, 1) := by decide +kernel
theorem dX12_start_13 : decode cX12_start 13 = .ok (.getfield 37, 3) := by decide +kernel
theorem dX12_start_16 : decode cX12_start 16 = .ok (.iconst 0, 1) := by decide +kernel
theorem dX12_start_17 : decode cX12_start 17 = .ok (.iaload, 1) := by decide +kernel
theorem dX12_start_18 : decode cX12_start 18 = .ok (.istore_n 2, 1) := by decide +kernel
theorem dX12_start_19 : decode cX12_start 19 = .ok (.aload_n 0, 1) := by decide +kernel
theorem dX12_start_20 : decode cX12_start 20 = .ok (.getfield 37, 3) := by decide +kernel
theorem dX12_start_23 : decode cX12_start 23 = .ok (.iconst 0, 1) := by decide +kernel
theorem dX12_start_24 : decode cX12_start 24 = .ok (.iload_n 1, 1) := by decide +kernel
theorem dX12_start_25 : decode cX12_start 25 = .ok (.iastore, 1) := by decide +kernel
theorem dX12_start_26 : decode cX12_start 26 = .ok (.iload_n 2, 1) := by decide +kernel
theorem dX12_start_27 : decode cX12_start 27 = .ok (.ireturn, 1) := by decide +kernel
def kX12_start_0 : List (Nat × zT) := [(0, a_iload 1 1), (1, a_i 0 2), (2, a_i 15 4), (4, a_call 138 3 7 0 0), (7, a_if_ne 12 10), (10, a_i (-1) 11), (11, a_iret false), (12, a_aload 0 13), (13, a_getR 12 9 16), (16, a_i 0 17), (17, a_iald 18), (18, a_istore 2 19), (19, a_aload 0 20), (20, a_getR 12 9 23), (23, a_i 0 24), (24, a_iload 1 25), (25, a_iast 26), (26, a_iload 2 27), (27, a_iret false)]
theorem oX12_start_0 : ∀ q ∈ kX12_start_0, zSnd zty false RX12 cX12_start 3 (some .int) false q := List.forall_mem_cons.mpr ⟨ok_iload_n dX12_start_0 rfl, List.forall_mem_cons.mpr ⟨ok_iconst dX12_start_1 (by decide), List.forall_mem_cons.mpr ⟨ok_bipush dX12_start_2 (by decide), List.forall_mem_cons.mpr ⟨ok_callS dX12_start_4 rfl w1084 w1082 w1083 w13 (by decide +kernel) (by decide), List.forall_mem_cons.mpr ⟨ok_if_ne dX12_start_7 (by decide), List.forall_mem_cons.mpr ⟨ok_iconst dX12_start_10 (by decide), List.forall_mem_cons.mpr ⟨ok_iret (bz := false) dX12_start_11 rfl, List.forall_mem_cons.mpr ⟨ok_aload_n dX12_start_12 rfl, List.forall_mem_cons.mpr ⟨ok_getR dX12_start_13 rfl in12 (by decide) rfl w966, List.forall_mem_cons.mpr ⟨ok_iconst dX12_start_16 (by decide), List.forall_mem_cons.mpr ⟨ok_iald dX12_start_17, List.forall_mem_cons.mpr ⟨ok_istore_n dX12_start_18 rfl (by decide), List.forall_mem_cons.mpr ⟨ok_aload_n dX12_start_19 rfl, List.forall_mem_cons.mpr ⟨ok_getR dX12_start_20 rfl in12 (by decide) rfl w966, List.forall_mem_cons.mpr ⟨ok_iconst dX12_start_23 (by decide), List.forall_mem_cons.mpr ⟨ok_iload_n dX12_start_24 rfl, List.forall_mem_cons.mpr ⟨ok_iast dX12_start_25, List.forall_mem_cons.mpr ⟨ok_iload_n dX12_start_26 rfl, List.forall_mem_cons.mpr ⟨ok_iret (bz := false) dX12_start_27 rfl, fun _ h => absurd h List.not_mem_nil⟩⟩⟩⟩⟩⟩⟩⟩⟩⟩⟩⟩⟩⟩⟩⟩⟩⟩⟩
def kX12_start : List (Nat × zT) := kX12_start_0
theorem qX12_start_0 : ∀ q ∈ kX12_start_0, q ∈ kX12_start := fun _ h => h
theorem tX12_start_0 : (0, a_iload 1 1) ∈ kX12_start := qX12_start_0 _ (List.mem_of_getElem? (i := 0) rfl)
theorem tX12_start_1 : (1, a_i 0 2) ∈ kX12_start := qX12_start_0 _ (List.mem_of_getElem? (i := 1) rfl)
theorem tX12_start_2 : (2, a_i 15 4) ∈ kX12_start := qX12_start_0 _ (List.mem_of_getElem? (i := 2) rfl)
theorem tX12_start_4 : (4, a_call 138 3 7 0 0) ∈ kX12_start := qX12_start_0 _ (List.mem_of_getElem? (i := 3) rfl)
theorem tX12_start_7 : (7, a_if_ne 12 10) ∈ kX12_start := qX12_start_0 _ (List.mem_of_getElem? (i := 4) rfl)
theorem tX12_start_10 : (10, a_i (-1) 11) ∈ kX12_start := qX12_start_0 _ (List.mem_of_getElem? (i := 5) rfl)
theorem tX12_start_11 : (11, a_iret false) ∈ kX12_start := qX12_start_0 _ (List.mem_of_getElem? (i := 6) rfl)
theorem tX12_start_12 : (12, a_aload 0 13) ∈ kX12_start := qX12_start_0 _ (List.mem_of_getElem? (i := 7) rfl)
theorem tX12_start_13 : (13, a_getR 12 9 16) ∈ kX12_start := qX12_start_0 _ (List.mem_of_getElem? (i := 8) rfl)
theorem tX12_start_16 : (16, a_i 0 17) ∈ kX12_start := qX12_start_0 _ (List.mem_of_getElem? (i := 9) rfl)
theorem tX12_start_17 : (17, a_iald 18) ∈ kX12_start := qX12_start_0 _ (List.mem_of_getElem? (i := 10) rfl)
theorem tX12_start_18 : (18, a_istore 2 19) ∈ kX12_start := qX12_start_0 _ (List.mem_of_getElem? (i := 11) rfl)
theorem tX12_start_19 : (19, a_aload 0 20) ∈ kX12_start := qX12_start_0 _ (List.mem_of_getElem? (i := 12) rfl)
theorem tX12_start_20 : (20, a_getR 12 9 23) ∈ kX12_start := qX12_start_0 _ (List.mem_of_getElem? (i := 13) rfl)
theorem tX12_start_23 : (23, a_i 0 24) ∈ kX12_start := qX12_start_0 _ (List.mem_of_getElem? (i := 14) rfl)
theorem tX12_start_24 : (24, a_iload 1 25) ∈ kX12_start := qX12_start_0 _ (List.mem_of_getElem? (i := 15) rfl)
theorem tX12_start_25 : (25, a_iast 26) ∈ kX12_start := qX12_start_0 _ (List.mem_of_getElem? (i := 16) rfl)
theorem tX12_start_26 : (26, a_iload 2 27) ∈ kX12_start := qX12_start_0 _ (List.mem_of_getElem? (i := 17) rfl)
theorem tX12_start_27 : (27, a_iret false) ∈ kX12_start := qX12_start_0 _ (List.mem_of_getElem? (i := 18) rfl)
theorem oX12_start : ∀ q ∈ kX12_start, zSnd zty false RX12 cX12_start 3 (some .int) false q := oX12_start_0
theorem dX12_states_0 : decode cX12_states 0 = .ok (.iconst 1, 1) := by decide +kernel
theorem dX12_states_1 : decode cX12_states 1 = .ok (.aload_n 0, 1) := by decide +kernel
theorem dX12_states_2 : decode cX12_states 2 = .ok (.getfield 37, 3) := by decide +kernel
theorem dX12_states_5 : decode cX12_states 5 = .ok (.iconst 0, 1) := by decide +kernel
theorem dX12_states_6 : decode cX12_states 6 = .ok (.iaload, 1) := by decide +kernel
theorem dX12_states_7 : decode cX12_states 7 = .ok (.ishl, 1) := by decide +kernel
theorem dX12_states_8 : decode cX12_states 8 = .ok (.istore_n 1, 1) := by decide +kernel
theorem dX12_states_9 : decode cX12_states 9 = .ok (.iconst 0, 1) := by decide +kernel
theorem dX12_states_10 : decode cX12_states 10 = .ok (.istore_n 2, 1) := by decide +kernel
theorem dX12_states_11 : decode cX12_states 11 = .ok (.iload_n 1, 1) := by decide +kernel
theorem dX12_states_12 : decode cX12_states 12 = .ok (.iload_n 2, 1) := by decide +kernel
theorem dX12_states_13 : decode cX12_states 13 = .ok (.if_icmp .eq 84, 3) := by decide +kernel
theorem dX12_states_16 : decode cX12_states 16 = .ok (.iload_n 1, 1) := by decide +kernel
theorem dX12_states_17 : decode cX12_states 17 = .ok (.istore_n 2, 1) := by decide +kernel
theorem dX12_states_18 : decode cX12_states 18 = .ok (.iconst 0, 1) := by decide +kernel
theorem dX12_states_19 : decode cX12_states 19 = .ok (.istore_n 3, 1) := by decide +kernel
theorem dX12_states_20 : decode cX12_states 20 = .ok (.iload_n 3, 1) := by decide +kernel
theorem dX12_states_21 : decode cX12_states 21 = .ok (.sipush 1024, 3) := by decide +kernel
theorem dX12_states_24 : decode cX12_states 24 = .ok (.if_icmp .ge 70, 3) := by decide +kernel
theorem dX12_states_27 : decode cX12_states 27 = .ok (.iload_n 2, 1) := by decide +kernel
theorem dX12_states_28 : decode cX12_states 28 = .ok (.iload_n 3, 1) := by decide +kernel
theorem dX12_states_29 : decode cX12_states 29 = .ok (.bipush 6, 2) := by decide +kernel
theorem dX12_states_31 : decode cX12_states 31 = .ok (.ishr, 1) := by decide +kernel
theorem dX12_states_32 : decode cX12_states 32 = .ok (.ishr, 1) := by decide +kernel
theorem dX12_states_33 : decode cX12_states 33 = .ok (.iconst 1, 1) := by decide +kernel
theorem dX12_states_34 : decode cX12_states 34 = .ok (.iand, 1) := by decide +kernel
theorem dX12_states_35 : decode cX12_states 35 = .ok (.iconst 1, 1) := by decide +kernel
theorem dX12_states_36 : decode cX12_states 36 = .ok (.if_icmp .ne 52, 3) := by decide +kernel
theorem dX12_states_39 : decode cX12_states 39 = .ok (.aload_n 0, 1) := by decide +kernel
theorem dX12_states_40 : decode cX12_states 40 = .ok (.iconst 0, 1) := by decide +kernel
theorem dX12_states_41 : decode cX12_states 41 = .ok (.iload_n 3, 1) := by decide +kernel
theorem dX12_states_42 : decode cX12_states 42 = .ok (.invokevirtual 186, 3) := by decide +kernel
theorem dX12_states_45 : decode cX12_states 45 = .ok (.iconst 0, 1) := by decide +kernel
theorem dX12_states_46 : decode cX12_states 46 = .ok (.istore 4, 2) := by decide +kernel
theorem dX12_states_48 : decode cX12_states 48 = .ok (.iconst 0, 1) := by decide +kernel
theorem dX12_states_49 : decode cX12_states 49 = .ok (.istore 5, 2) := by decide +kernel
theorem dX12_states_51 : decode cX12_states 51 = .ok (.iload 5, 2) := by decide +kernel
theorem dX12_states_53 : decode cX12_states 53 = .ok (.iconst 4, 1) := by decide +kernel
theorem dX12_states_54 : decode cX12_states 54 = .ok (.if_icmp .ge 27, 3) := by decide +kernel
theorem dX12_states_57 : decode cX12_states 57 = .ok (.iload 4, 2) := by decide +kernel
theorem dX12_states_59 : decode cX12_states 59 = .ok (.aload_n 0, 1) := by decide +kernel
theorem dX12_states_60 : decode cX12_states 60 = .ok (.iconst 0, 1) := by decide +kernel
theorem dX12_states_61 : decode cX12_states 61 = .ok (.bipush 15, 2) := by decide +kernel
theorem dX12_states_63 : decode cX12_states 63 = .ok (.iload 5, 2) := by decide +kernel
theorem dX12_states_65 : decode cX12_states 65 = .ok (.iadd, 1) := by decide +kernel
theorem dX12_states_66 : decode cX12_states 66 = .ok (.invokevirtual 183, 3) := by decide +kernel
theorem dX12_states_69 : decode cX12_states 69 = .ok (.iload 5, 2) := by decide +kernel
theorem dX12_states_71 : decode cX12_states 71 = .ok (.ishl, 1) := by decide +kernel
theorem dX12_states_72 : decode cX12_states 72 = .ok (.ior, 1) := by decide +kernel
theorem dX12_states_73 : decode cX12_states 73 = .ok (.istore 4, 2) := by decide +kernel
theorem dX12_states_75 : decode cX12_states 75 = .ok (.iinc 5 1, 3) := by decide +kernel
theorem dX12_states_78 : decode cX12_states 78 = .ok (.goto (-27), 3) := by decide +kernel
theorem dX12_states_81 : decode cX12_states 81 = .ok (.iload_n 1, 1) := by decide +kernel
theorem dX12_states_82 : decode cX12_states 82 = .ok (.iconst 1, 1) := by decide +kernel
theorem dX12_states_83 : decode cX12_states 83 = .ok (.iload 4, 2) := by decide +kernel
theorem dX12_states_85 : decode cX12_states 85 = .ok (.ishl, 1) := by decide +kernel
theorem dX12_states_86 : decode cX12_states 86 = .ok (.ior, 1) := by decide +kernel
theorem dX12_states_87 : decode cX12_states 87 = .ok (.istore_n 1, 1) := by decide +kernel
theorem dX12_states_88 : decode cX12_states 88 = .ok (.iinc 3 1, 3) := by decide +kernel
theorem dX12_states_91 : decode cX12_states 91 = .ok (.goto (-71), 3) := by decide +kernel
theorem dX12_states_94 : decode cX12_states 94 = .ok (.goto (-83), 3) := by decide +kernel
theorem dX12_states_97 : decode cX12_states 97 = .ok (.iload_n 1, 1) := by decide +kernel
theorem dX12_states_98 : decode cX12_states 98 = .ok (.ireturn, 1) := by decide +kernel
def kX12_states_0 : List (Nat × zT) := [(0, a_i 1 1), (1, a_aload 0 2), (2, a_getR 12 9 5), (5, a_i 0 6), (6, a_iald 7), (7, a_ii (fun x y => x <<< (y &&& 31)) 8), (8, a_istore 1 9), (9, a_i 0 10), (10, a_istore 2 11), (11, a_iload 1 12), (12, a_iload 2 13), (13, a_ic_eq 97 16), (16, a_iload 1 17), (17, a_istore 2 18), (18, a_i 0 19), (19, a_istore 3 20), (20, a_iload 3 21), (21, a_i 1024 24), (24, a_ic_ge 94 27), (27, a_iload 2 28), (28, a_iload 3 29), (29, a_i 6 31), (31, a_ii (fun x y => x >>> (y &&& 31)) 32), (32, a_ii (fun x y => x >>> (y &&& 31)) 33)]
theorem oX12_states_0 : ∀ q ∈ kX12_states_0, zSnd zty false RX12 cX12_states 6 (some .int) false q := List.forall_mem_cons.mpr ⟨ok_iconst dX12_states_0 (by decide), List.forall_mem_cons.mpr ⟨ok_aload_n dX12_states_1 rfl, List.forall_mem_cons.mpr ⟨ok_getR dX12_states_2 rfl in12 (by decide) rfl w966, List.forall_mem_cons.mpr ⟨ok_iconst dX12_states_5 (by decide), List.forall_mem_cons.mpr ⟨ok_iald dX12_states_6, List.forall_mem_cons.mpr ⟨ok_ishl dX12_states_7, List.forall_mem_cons.mpr ⟨ok_istore_n dX12_states_8 rfl (by decide), List.forall_mem_cons.mpr ⟨ok_iconst dX12_states_9 (by decide), List.forall_mem_cons.mpr ⟨ok_istore_n dX12_states_10 rfl (by decide), List.forall_mem_cons.mpr ⟨ok_iload_n dX12_states_11 rfl, List.forall_mem_cons.mpr ⟨ok_iload_n dX12_states_12 rfl, List.forall_mem_cons.mpr ⟨ok_ic_eq dX12_states_13 (by decide), List.forall_mem_cons.mpr ⟨ok_iload_n dX12_states_16 rfl, List.forall_mem_cons.mpr ⟨ok_istore_n dX12_states_17 rfl (by decide), List.forall_mem_cons.mpr ⟨ok_iconst dX12_states_18 (by decide), List.forall_mem_cons.mpr ⟨ok_istore_n dX12_states_19 rfl (by decide), List.forall_mem_cons.mpr ⟨ok_iload_n dX12_states_20 rfl, List.forall_mem_cons.mpr ⟨ok_sipush dX12_states_21 (by decide), List.forall_mem_cons.mpr ⟨ok_ic_ge dX12_states_24 (by decide), List.forall_mem_cons.mpr ⟨ok_iload_n dX12_states_27 rfl, List.forall_mem_cons.mpr ⟨ok_iload_n dX12_states_28 rfl, List.forall_mem_cons.mpr ⟨ok_bipush dX12_states_29 (by decide), List.forall_mem_cons.mpr ⟨ok_ishr dX12_states_31, List.forall_mem_cons.mpr ⟨ok_ishr dX12_states_32, fun _ h => absurd h List.not_mem_nil⟩⟩⟩⟩⟩⟩⟩⟩⟩⟩⟩⟩⟩⟩⟩⟩⟩⟩⟩⟩⟩⟩⟩⟩
def kX12_states_1 : List (Nat × zT) := [(33, a_i 1 34), (34, a_ii (fun x y => x &&& y) 35), (35, a_i 1 36), (36, a_ic_ne 88 39), (39, a_aload 0 40), (40, a_i 0 41), (41, a_iload 3 42), (42, a_callV 12 161 3 45 0 0), (45, a_i 0 46), (46, a_istore 4 48), (48, a_i 0 49), (49, a_istore 5 51), (51, a_iload 5 53), (53, a_i 4 54), (54, a_ic_ge 81 57), (57, a_iload 4 59), (59, a_aload 0 60), (60, a_i 0 61), (61, a_i 15 63), (63, a_iload 5 65), (65, a_ii (fun x y => x + y) 66), (66, a_callV 12 162 3 69 0 0), (69, a_iload 5 71), (71, a_ii (fun x y => x <<< (y &&& 31)) 72)]
theorem oX12_states_1 : ∀ q ∈ kX12_states_1, zSnd zty false RX12 cX12_states 6 (some .int) false q := List.forall_mem_cons.mpr ⟨ok_iconst dX12_states_33 (by decide), List.forall_mem_cons.mpr ⟨ok_iand dX12_states_34, List.forall_mem_cons.mpr ⟨ok_iconst dX12_states_35 (by decide), List.forall_mem_cons.mpr ⟨ok_ic_ne dX12_states_36 (by decide), List.forall_mem_cons.mpr ⟨ok_aload_n dX12_states_39 rfl, List.forall_mem_cons.mpr ⟨ok_iconst dX12_states_40 (by decide), List.forall_mem_cons.mpr ⟨ok_iload_n dX12_states_41 rfl, List.forall_mem_cons.mpr ⟨ok_callV dX12_states_42 rfl rfl w1194 w1191 w1193 w13 s37 (by decide +kernel) (by decide), List.forall_mem_cons.mpr ⟨ok_iconst dX12_states_45 (by decide), List.forall_mem_cons.mpr ⟨ok_istore dX12_states_46 (by decide), List.forall_mem_cons.mpr ⟨ok_iconst dX12_states_48 (by decide), List.forall_mem_cons.mpr ⟨ok_istore dX12_states_49 (by decide), List.forall_mem_cons.mpr ⟨ok_iload dX12_states_51, List.forall_mem_cons.mpr ⟨ok_iconst dX12_states_53 (by decide), List.forall_mem_cons.mpr ⟨ok_ic_ge dX12_states_54 (by decide), List.forall_mem_cons.mpr ⟨ok_iload dX12_states_57, List.forall_mem_cons.mpr ⟨ok_aload_n dX12_states_59 rfl, List.forall_mem_cons.mpr ⟨ok_iconst dX12_states_60 (by decide), List.forall_mem_cons.mpr ⟨ok_bipush dX12_states_61 (by decide), List.forall_mem_cons.mpr ⟨ok_iload dX12_states_63, List.forall_mem_cons.mpr ⟨ok_iadd dX12_states_65, List.forall_mem_cons.mpr ⟨ok_callV dX12_states_66 rfl rfl w1182 w1179 w1181 w13 s36 (by decide +kernel) (by decide), List.forall_mem_cons.mpr ⟨ok_iload dX12_states_69, List.forall_mem_cons.mpr ⟨ok_ishl dX12_states_71, fun _ h => absurd h List.not_mem_nil⟩⟩⟩⟩⟩⟩⟩⟩⟩⟩⟩⟩⟩⟩⟩⟩⟩⟩⟩⟩⟩⟩⟩⟩
def kX12_states_2 : List (Nat × zT) := [(72, a_ii (fun x y => x ||| y) 73), (73, a_istore 4 75), (75, a_iinc 5 1 78), (78, a_goto 51), (81, a_iload 1 82), (82, a_i 1 83), (83, a_iload 4 85), (85, a_ii (fun x y => x <<< (y &&& 31)) 86), (86, a_ii (fun x y => x ||| y) 87), (87, a_istore 1 88), (88, a_iinc 3 1 91), (91, a_goto 20), (94, a_goto 11), (97, a_iload 1 98), (98, a_iret false)]
theorem oX12_states_2 : ∀ q ∈ kX12_states_2, zSnd zty false RX12 cX12_states 6 (some .int) false q := List.forall_mem_cons.mpr ⟨ok_ior dX12_states_72, List.forall_mem_cons.mpr ⟨ok_istore dX12_states_73 (by decide), List.forall_mem_cons.mpr ⟨ok_iinc dX12_states_75 (by decide) (by decide), List.forall_mem_cons.mpr ⟨ok_goto dX12_states_78 (by decide), List.forall_mem_cons.mpr ⟨ok_iload_n dX12_states_81 rfl, List.forall_mem_cons.mpr ⟨ok_iconst dX12_states_82 (by decide), List.forall_mem_cons.mpr ⟨ok_iload dX12_states_83, List.forall_mem_cons.mpr ⟨ok_ishl dX12_states_85, List.forall_mem_cons.mpr ⟨ok_ior dX12_states_86, List.forall_mem_cons.mpr ⟨ok_istore_n dX12_states_87 rfl (by decide), List.forall_mem_cons.mpr ⟨ok_iinc dX12_states_88 (by decide) (by decide), List.forall_mem_cons.mpr ⟨ok_goto dX12_states_91 (by decide), List.forall_mem_cons.mpr ⟨ok_goto dX12_states_94 (by decide), List.forall_mem_cons.mpr ⟨ok_iload_n dX12_states_97 rfl, List.forall_mem_cons.mpr ⟨ok_iret (bz := false) dX12_states_98 rfl, fun _ h => absurd h List.not_mem_nil⟩⟩⟩⟩⟩⟩⟩⟩⟩⟩⟩⟩⟩⟩⟩
def kX12_states : List (Nat × zT) := kX12_states_0 ++ (kX12_states_1 ++ (kX12_states_2))
theorem qX12_states_0 : ∀ q ∈ kX12_states_0, q ∈ kX12_states := fun _ h => (List.mem_append_left _ h)
theorem tX12_states_0 : (0, a_i 1 1) ∈ kX12_states := qX12_states_0 _ (List.mem_of_getElem? (i := 0) rfl)
theorem tX12_states_1 : (1, a_aload 0 2) ∈ kX12_states := qX12_states_0 _ (List.mem_of_getElem? (i := 1) rfl)
theorem tX12_states_2 : (2, a_getR 12 9 5) ∈ kX12_states := qX12_states_0 _ (List.mem_of_getElem? (i := 2) rfl)
theorem tX12_states_5 : (5, a_i 0 6) ∈ kX12_states := qX12_states_0 _ (List.mem_of_getElem? (i := 3) rfl)
theorem tX12_states_6 : (6, a_iald 7) ∈ kX12_states := qX12_states_0 _ (List.mem_of_getElem? (i := 4) rfl)
theorem tX12_states_7 : (7, a_ii (fun x y => x <<< (y &&& 31)) 8) ∈ kX12_states := qX12_states_0 _ (List.mem_of_getElem? (i := 5) rfl)
theorem tX12_states_8 : (8, a_istore 1 9) ∈ kX12_states := qX12_states_0 _ (List.mem_of_getElem? (i := 6) rfl)
theorem tX12_states_9 : (9, a_i 0 10) ∈ kX12_states := qX12_states_0 _ (List.mem_of_getElem? (i := 7) rfl)
theorem tX12_states_10 : (10, a_istore 2 11) ∈ kX12_states := qX12_states_0 _ (List.mem_of_getElem? (i := 8) rfl)
theorem tX12_states_11 : (11, a_iload 1 12) ∈ kX12_states := qX12_states_0 _ (List.mem_of_getElem? (i := 9) rfl)
theorem tX12_states_12 : (12, a_iload 2 13) ∈ kX12_states := qX12_states_0 _ (List.mem_of_getElem? (i := 10) rfl)
theorem tX12_states_13 : (13, a_ic_eq 97 16) ∈ kX12_states := qX12_states_0 _ (List.mem_of_getElem? (i := 11) rfl)
theorem tX12_states_16 : (16, a_iload 1 17) ∈ kX12_states := qX12_states_0 _ (List.mem_of_getElem? (i := 12) rfl)
theorem tX12_states_17 : (17, a_istore 2 18) ∈ kX12_states := qX12_states_0 _ (List.mem_of_getElem? (i := 13) rfl)
theorem tX12_states_18 : (18, a_i 0 19) ∈ kX12_states := qX12_states_0 _ (List.mem_of_getElem? (i := 14) rfl)
theorem tX12_states_19 : (19, a_istore 3 20) ∈ kX12_states := qX12_states_0 _ (List.mem_of_getElem? (i := 15) rfl)
theorem tX12_states_20 : (20, a_iload 3 21) ∈ kX12_states := qX12_states_0 _ (List.mem_of_getElem? (i := 16) rfl)
theorem tX12_states_21 : (21, a_i 1024 24) ∈ kX12_states := qX12_states_0 _ (List.mem_of_getElem? (i := 17) rfl)
theorem tX12_states_24 : (24, a_ic_ge 94 27) ∈ kX12_states := qX12_states_0 _ (List.mem_of_getElem? (i := 18) rfl)
theorem tX12_states_27 : (27, a_iload 2 28) ∈ kX12_states := qX12_states_0 _ (List.mem_of_getElem? (i := 19) rfl)
theorem tX12_states_28 : (28, a_iload 3 29) ∈ kX12_states := qX12_states_0 _ (List.mem_of_getElem? (i := 20) rfl)
theorem tX12_states_29 : (29, a_i 6 31) ∈ kX12_states := qX12_states_0 _ (List.mem_of_getElem? (i := 21) rfl)
theorem tX12_states_31 : (31, a_ii (fun x y => x >>> (y &&& 31)) 32) ∈ kX12_states := qX12_states_0 _ (List.mem_of_getElem? (i := 22) rfl)
theorem tX12_states_32 : (32, a_ii (fun x y => x >>> (y &&& 31)) 33) ∈ kX12_states := qX12_states_0 _ (List.mem_of_getElem? (i := 23) rfl)
theorem qX12_states_1 : ∀ q ∈ kX12_states_1, q ∈ kX12_states := fun _ h => (List.mem_append_right _ (List.mem_append_left _ h))
theorem tX12_states_33 : (33, a_i 1 34) ∈ kX12_states := qX12_states_1 _ (List.mem_of_getElem? (i := 0) rfl)
theorem tX12_states_34 : (34, a_ii (fun x y => x &&& y) 35) ∈ kX12_states := qX12_states_1 _ (List.mem_of_getElem? (i := 1) rfl)
theorem tX12_states_35 : (35, a_i 1 36) ∈ kX12_states := qX12_states_1 _ (List.mem_of_getElem? (i := 2) rfl)
theorem tX12_states_36 : (36, a_ic_ne 88 39) ∈ kX12_states := qX12_states_1 _ (List.mem_of_getElem? (i := 3) rfl)
theorem tX12_states_39 : (39, a_aload 0 40) ∈ kX12_states := qX12_states_1 _ (List.mem_of_getElem? (i := 4) rfl)
theorem tX12_states_40 : (40, a_i 0 41) ∈ kX12_states := qX12_states_1 _ (List.mem_of_getElem? (i := 5) rfl)
theorem tX12_states_41 : (41, a_iload 3 42) ∈ kX12_states := qX12_states_1 _ (List.mem_of_getElem? (i := 6) rfl)
theorem tX12_states_42 : (42, a_callV 12 161 3 45 0 0) ∈ kX12_states := qX12_states_1 _ (List.mem_of_getElem? (i := 7) rfl)
theorem tX12_states_45 : (45, a_i 0 46) ∈ kX12_states := qX12_states_1 _ (List.mem_of_getElem? (i := 8) rfl)
theorem tX12_states_46 : (46, a_istore 4 48) ∈ kX12_states := qX12_states_1 _ (List.mem_of_getElem? (i := 9) rfl)
theorem tX12_states_48 : (48, a_i 0 49) ∈ kX12_states := qX12_states_1 _ (List.mem_of_getElem? (i := 10) rfl)
theorem tX12_states_49 : (49, a_istore 5 51) ∈ kX12_states := qX12_states_1 _ (List.mem_of_getElem? (i := 11) rfl)
theorem tX12_states_51 : (51, a_iload 5 53) ∈ kX12_states := qX12_states_1 _ (List.mem_of_getElem? (i := 12) rfl)
theorem tX12_states_53 : (53, a_i 4 54) ∈ kX12_states := qX12_states_1 _ (List.mem_of_getElem? (i := 13) rfl)
theorem tX12_states_54 : (54, a_ic_ge 81 57) ∈ kX12_states := qX12_states_1 _ (List.mem_of_getElem? (i := 14) rfl)
theorem tX12_states_57 : (57, a_iload 4 59) ∈ kX12_states := qX12_states_1 _ (List.mem_of_getElem? (i := 15) rfl)
theorem tX12_states_59 : (59, a_aload 0 60) ∈ kX12_states := qX12_states_1 _ (List.mem_of_getElem? (i := 16) rfl)
theorem tX12_states_60 : (60, a_i 0 61) ∈ kX12_states := qX12_states_1 _ (List.mem_of_getElem? (i := 17) rfl)
theorem tX12_states_61 : (61, a_i 15 63) ∈ kX12_states := qX12_states_1 _ (List.mem_of_getElem? (i := 18) rfl)
theorem tX12_states_63 : (63, a_iload 5 65) ∈ kX12_states := qX12_states_1 _ (List.mem_of_getElem? (i := 19) rfl)
theorem tX12_states_65 : (65, a_ii (fun x y => x + y) 66) ∈ kX12_states := qX12_states_1 _ (List.mem_of_getElem? (i := 20) rfl)
theorem tX12_states_66 : (66, a_callV 12 162 3 69 0 0) ∈ kX12_states := qX12_states_1 _ (List.mem_of_getElem? (i := 21) rfl)
theorem tX12_states_69 : (69, a_iload 5 71) ∈ kX12_states := qX12_states_1 _ (List.mem_of_getElem? (i := 22) rfl)
theorem tX12_states_71 : (71, a_ii (fun x y => x <<< (y &&& 31)) 72) ∈ kX12_states := qX12_states_1 _ (List.mem_of_getElem? (i := 23) rfl)
theorem qX12_states_2 : ∀ q ∈ kX12_states_2, q ∈ kX12_states := fun _ h => (List.mem_append_right _ (List.mem_append_right _ h))
theorem tX12_states_72 : (72, a_ii (fun x y => x ||| y) 73) ∈ kX12_states := qX12_states_2 _ (List.mem_of_getElem? (i := 0) rfl)
theorem tX12_states_73 : (73, a_istore 4 75) ∈ kX12_states := qX12_states_2 _ (List.mem_of_getElem? (i := 1) rfl)
theorem tX12_states_75 : (75, a_iinc 5 1 78) ∈ kX12_states := qX12_states_2 _ (List.mem_of_getElem? (i := 2) rfl)
theorem tX12_states_78 : (78, a_goto 51) ∈ kX12_states := qX12_states_2 _ (List.mem_of_getElem? (i := 3) rfl)
theorem tX12_states_81 : (81, a_iload 1 82) ∈ kX12_states := qX12_states_2 _ (List.mem_of_getElem? (i := 4) rfl)
theorem tX12_states_82 : (82, a_i 1 83) ∈ kX12_states := qX12_states_2 _ (List.mem_of_getElem? (i := 5) rfl)
theorem tX12_states_83 : (83, a_iload 4 85) ∈ kX12_states := qX12_states_2 _ (List.mem_of_getElem? (i := 6) rfl)
theorem tX12_states_85 : (85, a_ii (fun x y => x <<< (y &&& 31)) 86) ∈ kX12_states := qX12_states_2 _ (List.mem_of_getElem? (i := 7) rfl)
theorem tX12_states_86 : (86, a_ii (fun x y => x ||| y) 87) ∈ kX12_states := qX12_states_2 _ (List.mem_of_getElem? (i := 8) rfl)
theorem tX12_states_87 : (87, a_istore 1 88) ∈ kX12_states := qX12_states_2 _ (List.mem_of_getElem? (i := 9) rfl)
theorem tX12_states_88 : (88, a_iinc 3 1 91) ∈ kX12_states := qX12_states_2 _ (List.mem_of_getElem? (i := 10) rfl)
theorem tX12_states_91 : (91, a_goto 20) ∈ kX12_states := qX12_states_2 _ (List.mem_of_getElem? (i := 11) rfl)
theorem tX12_states_94 : (94, a_goto 11) ∈ kX12_states := qX12_states_2 _ (List.mem_of_getElem? (i := 12) rfl)
theorem tX12_states_97 : (97, a_iload 1 98) ∈ kX12_states := qX12_states_2 _ (List.mem_of_getElem? (i := 13) rfl)
theorem tX12_states_98 : (98, a_iret false) ∈ kX12_states := qX12_states_2 _ (List.mem_of_getElem? (i := 14) rfl)
theorem oX12_states : ∀ q ∈ kX12_states, zSnd zty false RX12 cX12_states 6 (some .int) false q := List.forall_mem_append.mpr ⟨oX12_states_0, List.forall_mem_append.mpr ⟨oX12_states_1, oX12_states_2⟩⟩
theorem dX12_differ_0 : decode cX12_differ 0 = .ok (.iload_n 1, 1) := by decide +kernel
theorem dX12_differ_1 : decode cX12_differ 1 = .ok (.bipush 6, 2) := by decide +kernel
theorem dX12_differ_3 : decode cX12_differ 3 = .ok (.bipush 18, 2) := by decide +kernel
theorem dX12_differ_5 : decode cX12_differ 5 = .ok (.invokestatic 112, 3) := by decide +kernel
theorem dX12_differ_8 : decode cX12_differ 8 = .ok (.ifCond .ne 5, 3) := by decide +kernel
theorem dX12_differ_11 : decode cX12_differ 11 = .ok (.iconst (-1), 1) := by decide +kernel
theorem dX12_differ_12 : decode cX12_differ 12 = .ok (.ireturn, 1) := by decide +kernel
theorem dX12_differ_13 : decode cX12_differ 13 = .ok (.aload_n 0, 1) := by decide +kernel
theorem dX12_differ_14 : decode cX12_differ 14 = .ok (.invokevirtual 189, 3) := by decide +kernel
theorem dX12_differ_17 : decode cX12_differ 17 = .ok (.istore_n 2, 1) := by decide +kernel
theorem dX12_differ_18 : decode cX12_differ 18 = .ok (.iconst 0, 1) := by decide +kernel
theorem dX12_differ_19 : decode cX12_differ 19 = .ok (.istore_n 3, 1) := by decide +kernel
theorem dX12_differ_20 : decode cX12_differ 20 = .ok (.iload_n 3, 1) := by decide +kernel
theorem dX12_differ_21 : decode cX12_differ 21 = .ok (.sipush 1024, 3) := by decide +kernel
theorem dX12_differ_24 : decode cX12_differ 24 = .ok (.if_icmp .ge 54, 3) := by decide +kernel
theorem dX12_differ_27 : decode cX12_differ 27 = .ok (.iload_n 2, 1) := by decide +kernel
theorem dX12_differ_28 : decode cX12_differ 28 = .ok (.iload_n 3, 1) := by decide +kernel
theorem dX12_differ_29 : decode cX12_differ 29 = .ok (.bipush 6, 2) := by decide +kernel
theorem dX12_differ_31 : decode cX12_differ 31 = .ok (.ishr, 1) := by decide +kernel
theorem dX12_differ_32 : decode cX12_differ 32 = .ok (.ishr, 1) := by decide +kernel
theorem dX12_differ_33 : decode cX12_differ 33 = .ok (.iconst 1, 1) := by decide +kernel
theorem dX12_differ_34 : decode cX12_differ 34 = .ok (.iand, 1) := by decide +kernel
theorem dX12_differ_35 : decode cX12_differ 35 = .ok (.iconst 1, 1) := by decide +kernel
theorem dX12_differ_36 : decode cX12_differ 36 = .ok (.if_icmp .ne 36, 3) := by decide +kernel
theorem dX12_differ_39 : decode cX12_differ 39 = .ok (.aload_n 0, 1) := by decide +kernel
theorem dX12_differ_40 : decode cX12_differ 40 = .ok (.iconst 0, 1) := by decide +kernel
theorem dX12_differ_41 : decode cX12_differ 41 = .ok (.iload_n 3, 1) := by decide +kernel
theorem dX12_differ_42 : decode cX12_differ 42 = .ok (.invokevirtual 186, 3) := by decide +kernel
theorem dX12_differ_45 : decode cX12_differ 45 = .ok (.aload_n 0, 1) := by decide +kernel
theorem dX12_differ_46 : decode cX12_differ 46 = .ok (.iconst 0, 1) := by decide +kernel
theorem dX12_differ_47 : decode cX12_differ 47 = .ok (.iload_n 1, 1) := by decide +kernel
theorem dX12_differ_48 : decode cX12_differ 48 = .ok (.invokevirtual 183, 3) := by decide +kernel
theorem dX12_differ_51 : decode cX12_differ 51 = .ok (.istore 4, 2) := by decide +kernel
theorem dX12_differ_53 : decode cX12_differ 53 = .ok (.aload_n 0, 1) := by decide +kernel
theorem dX12_differ_54 : decode cX12_differ 54 = .ok (.iconst 1, 1) := by decide +kernel
theorem dX12_differ_55 : decode cX12_differ 55 = .ok (.iload_n 3, 1) := by decide +kernel
theorem dX12_differ_56 : decode cX12_differ 56 = .ok (.invokevirtual 186, 3) := by decide +kernel
theorem dX12_differ_59 : decode cX12_differ 59 = .ok (.aload_n 0, 1) := by decide +kernel
theorem dX12_differ_60 : decode cX12_differ 60 = .ok (.iconst 1, 1) := by decide +kernel
theorem dX12_differ_61 : decode cX12_differ 61 = .ok (.iload_n 1, 1) := by decide +kernel
theorem dX12_differ_62 : decode cX12_differ 62 = .ok (.invokevirtual 183, 3) := by decide +kernel
theorem dX12_differ_65 : decode cX12_differ 65 = .ok (.iload 4, 2) := by decide +kernel
theorem dX12_differ_67 : decode cX12_differ 67 = .ok (.if_icmp .eq 5, 3) := by decide +kernel
theorem dX12_differ_70 : decode cX12_differ 70 = .ok (.iload_n 3, 1) := by decide +kernel
theorem dX12_differ_71 : decode cX12_differ 71 = .ok (.ireturn, 1) := by decide +kernel
theorem dX12_differ_72 : decode cX12_differ 72 = .ok (.iinc 3 1, 3) := by decide +kernel
theorem dX12_differ_75 : decode cX12_differ 75 = .ok (.goto (-55), 3) := by decide +kernel
theorem dX12_differ_78 : decode cX12_differ 78 = .ok (.bipush (-4), 2) := by decide +kernel
theorem dX12_differ_80 : decode cX12_differ 80 = .ok (.ireturn, 1) := by decide +kernel
def kX12_differ_0 : List (Nat × zT) := [(0, a_iload 1 1), (1, a_i 6 3), (3, a_i 18 5), (5, a_call 138 3 8 0 0), (8, a_if_ne 13 11), (11, a_i (-1) 12), (12, a_iret false), (13, a_aload 0 14), (14, a_callV 12 170 1 17 0 0), (17, a_istore 2 18), (18, a_i 0 19), (19, a_istore 3 20), (20, a_iload 3 21), (21, a_i 1024 24), (24, a_ic_ge 78 27), (27, a_iload 2 28), (28, a_iload 3 29), (29, a_i 6 31), (31, a_ii (fun x y => x >>> (y &&& 31)) 32), (32, a_ii (fun x y => x >>> (y &&& 31)) 33), (33, a_i 1 34), (34, a_ii (fun x y => x &&& y) 35), (35, a_i 1 36), (36, a_ic_ne 72 39)]
theorem oX12_differ_0 : ∀ q ∈ kX12_differ_0, zSnd zty false RX12 cX12_differ 5 (some .int) false q := List.forall_mem_cons.mpr ⟨ok_iload_n dX12_differ_0 rfl, List.forall_mem_cons.mpr ⟨ok_bipush dX12_differ_1 (by decide), List.forall_mem_cons.mpr ⟨ok_bipush dX12_differ_3 (by decide), List.forall_mem_cons.mpr ⟨ok_callS dX12_differ_5 rfl w1084 w1082 w1083 w13 (by decide +kernel) (by decide), List.forall_mem_cons.mpr ⟨ok_if_ne dX12_differ_8 (by decide), List.forall_mem_cons.mpr ⟨ok_iconst dX12_differ_11 (by decide), List.forall_mem_cons.mpr ⟨ok_iret (bz := false) dX12_differ_12 rfl, List.forall_mem_cons.mpr ⟨ok_aload_n dX12_differ_13 rfl, List.forall_mem_cons.mpr ⟨ok_callV dX12_differ_14 rfl rfl w1206 w1211 w1204 w13 w1205 (by decide +kernel) (by decide), List.forall_mem_cons.mpr ⟨ok_istore_n dX12_differ_17 rfl (by decide), List.forall_mem_cons.mpr ⟨ok_iconst dX12_differ_18 (by decide), List.forall_mem_cons.mpr ⟨ok_istore_n dX12_differ_19 rfl (by decide), List.forall_mem_cons.mpr ⟨ok_iload_n dX12_differ_20 rfl, List.forall_mem_cons.mpr ⟨ok_sipush dX12_differ_21 (by decide), List.forall_mem_cons.mpr ⟨ok_ic_ge dX12_differ_24 (by decide), List.forall_mem_cons.mpr ⟨ok_iload_n dX12_differ_27 rfl, List.forall_mem_cons.mpr ⟨ok_iload_n dX12_differ_28 rfl, List.forall_mem_cons.mpr ⟨ok_bipush dX12_differ_29 (by decide), List.forall_mem_cons.mpr ⟨ok_ishr dX12_differ_31, List.forall_mem_cons.mpr ⟨ok_ishr dX12_differ_32, List.forall_mem_cons.mpr ⟨ok_iconst dX12_differ_33 (by decide), List.forall_mem_cons.mpr ⟨ok_iand dX12_differ_34, List.forall_mem_cons.mpr ⟨ok_iconst dX12_differ_35 (by decide), List.forall_mem_cons.mpr ⟨ok_ic_ne dX12_differ_36 (by decide), fun _ h => absurd h List.not_mem_nil⟩⟩⟩⟩⟩⟩⟩⟩⟩⟩⟩⟩⟩⟩⟩⟩⟩⟩⟩⟩⟩⟩⟩⟩
def kX12_differ_1 : List (Nat × zT) := [(39, a_aload 0 40), (40, a_i 0 41), (41, a_iload 3 42), (42, a_callV 12 161 3 45 0 0), (45, a_aload 0 46), (46, a_i 0 47), (47, a_iload 1 48), (48, a_callV 12 162 3 51 0 0), (51, a_istore 4 53), (53, a_aload 0 54), (54, a_i 1 55), (55, a_iload 3 56), (56, a_callV 12 161 3 59 0 0), (59, a_aload 0 60), (60, a_i 1 61), (61, a_iload 1 62), (62, a_callV 12 162 3 65 0 0), (65, a_iload 4 67), (67, a_ic_eq 72 70), (70, a_iload 3 71), (71, a_iret false), (72, a_iinc 3 1 75), (75, a_goto 20), (78, a_i (-4) 80)]
theorem oX12_differ_1 : ∀ q ∈ kX12_differ_1, zSnd zty false RX12 cX12_differ 5 (some .int) false q := List.forall_mem_cons.mpr ⟨ok_aload_n dX12_differ_39 rfl, List.forall_mem_cons.mpr ⟨ok_iconst dX12_differ_40 (by decide), List.forall_mem_cons.mpr ⟨ok_iload_n dX12_differ_41 rfl, List.forall_mem_cons.mpr ⟨ok_callV dX12_differ_42 rfl rfl w1194 w1191 w1193 w13 s37 (by decide +kernel) (by decide), List.forall_mem_cons.mpr ⟨ok_aload_n dX12_differ_45 rfl, List.forall_mem_cons.mpr ⟨ok_iconst dX12_differ_46 (by decide), List.forall_mem_cons.mpr ⟨ok_iload_n dX12_differ_47 rfl, List.forall_mem_cons.mpr ⟨ok_callV dX12_differ_48 rfl rfl w1182 w1179 w1181 w13 s36 (by decide +kernel) (by decide), List.forall_mem_cons.mpr ⟨ok_istore dX12_differ_51 (by decide), List.forall_mem_cons.mpr ⟨ok_aload_n dX12_differ_53 rfl, List.forall_mem_cons.mpr ⟨ok_iconst dX12_differ_54 (by decide), List.forall_mem_cons.mpr ⟨ok_iload_n dX12_differ_55 rfl, List.forall_mem_cons.mpr ⟨ok_callV dX12_differ_56 rfl rfl w1194 w1191 w1193 w13 s37 (by decide +kernel) (by decide), List.forall_mem_cons.mpr ⟨ok_aload_n dX12_differ_59 rfl, List.forall_mem_cons.mpr ⟨ok_iconst dX12_differ_60 (by decide), List.forall_mem_cons.mpr ⟨ok_iload_n dX12_differ_61 rfl, List.forall_mem_cons.mpr ⟨ok_callV dX12_differ_62 rfl rfl w1182 w1179 w1181 w13 s36 (by decide +kernel) (by decide), List.forall_mem_cons.mpr ⟨ok_iload dX12_differ_65, List.forall_mem_cons.mpr ⟨ok_ic_eq dX12_differ_67 (by decide), List.forall_mem_cons.mpr ⟨ok_iload_n dX12_differ_70 rfl, List.forall_mem_cons.mpr ⟨ok_iret (bz := false) dX12_differ_71 rfl, List.forall_mem_cons.mpr ⟨ok_iinc dX12_differ_72 (by decide) (by decide), List.forall_mem_cons.mpr ⟨ok_goto dX12_differ_75 (by decide), List.forall_mem_cons.mpr ⟨ok_bipush dX12_differ_78 (by decide), fun _ h => absurd h List.not_mem_nil⟩⟩⟩⟩⟩⟩⟩⟩⟩⟩⟩⟩⟩⟩⟩⟩⟩⟩⟩⟩⟩⟩⟩⟩
def kX12_differ_2 : List (Nat × zT) := [(80, a_iret false)]
theorem oX12_differ_2 : ∀ q ∈ kX12_differ_2, zSnd zty false RX12 cX12_differ 5 (some .int) false q := List.forall_mem_cons.mpr ⟨ok_iret (bz := false) dX12_differ_80 rfl, fun _ h => absurd h List.not_mem_nil⟩
def kX12_differ : List (Nat × zT) := kX12_differ_0 ++ (kX12_differ_1 ++ (kX12_differ_2))
theorem qX12_differ_0 : ∀ q ∈ kX12_differ_0, q ∈ kX12_differ := fun _ h => (List.mem_append_left _ h)
theorem tX12_differ_0 : (0, a_iload 1 1) ∈ kX12_differ := qX12_differ_0 _ (List.mem_of_getElem? (i := 0) rfl)
theorem tX12_differ_1 : (1, a_i 6 3) ∈ kX12_differ := qX12_differ_0 _ (List.mem_of_getElem? (i := 1) rfl)
theorem tX12_differ_3 : (3, a_i 18 5) ∈ kX12_differ := qX12_differ_0 _ (List.mem_of_getElem? (i := 2) rfl)
theorem tX12_differ_5 : (5, a_call 138 3 8 0 0) ∈ kX12_differ := qX12_differ_0 _ (List.mem_of_getElem? (i := 3) rfl)
theorem tX12_differ_8 : (8, a_if_ne 13 11) ∈ kX12_differ := qX12_differ_0 _ (List.mem_of_getElem? (i := 4) rfl)
theorem tX12_differ_11 : (11, a_i (-1) 12) ∈ kX12_differ := qX12_differ_0 _ (List.mem_of_getElem? (i := 5) rfl)
theorem tX12_differ_12 : (12, a_iret false) ∈ kX12_differ := qX12_differ_0 _ (List.mem_of_getElem? (i := 6) rfl)
theorem tX12_differ_13 : (13, a_aload 0 14) ∈ kX12_differ := qX12_differ_0 _ (List.mem_of_getElem? (i := 7) rfl)
theorem tX12_differ_14 : (14, a_callV 12 170 1 17 0 0) ∈ kX12_differ := qX12_differ_0 _ (List.mem_of_getElem? (i := 8) rfl)
theorem tX12_differ_17 : (17, a_istore 2 18) ∈ kX12_differ := qX12_differ_0 _ (List.mem_of_getElem? (i := 9) rfl)
theorem tX12_differ_18 : (18, a_i 0 19) ∈ kX12_differ := qX12_differ_0 _ (List.mem_of_getElem? (i := 10) rfl)
theorem tX12_differ_19 : (19, a_istore 3 20) ∈ kX12_differ := qX12_differ_0 _ (List.mem_of_getElem? (i := 11) rfl)
theorem tX12_differ_20 : (20, a_iload 3 21) ∈ kX12_differ := qX12_differ_0 _ (List.mem_of_getElem? (i := 12) rfl)
theorem tX12_differ_21 : (21, a_i 1024 24) ∈ kX12_differ := qX12_differ_0 _ (List.mem_of_getElem? (i := 13) rfl)
theorem tX12_differ_24 : (24, a_ic_ge 78 27) ∈ kX12_differ := qX12_differ_0 _ (List.mem_of_getElem? (i := 14) rfl)
theorem tX12_differ_27 : (27, a_iload 2 28) ∈ kX12_differ := qX12_differ_0 _ (List.mem_of_getElem? (i := 15) rfl)
theorem tX12_differ_28 : (28, a_iload 3 29) ∈ kX12_differ := qX12_differ_0 _ (List.mem_of_getElem? (i := 16) rfl)
theorem tX12_differ_29 : (29, a_i 6 31) ∈ kX12_differ := qX12_differ_0 _ (List.mem_of_getElem? (i := 17) rfl)
theorem tX12_differ_31 : (31, a_ii (fun x y => x >>> (y &&& 31)) 32) ∈ kX12_differ := qX12_differ_0 _ (List.mem_of_getElem? (i := 18) rfl)
theorem tX12_differ_32 : (32, a_ii (fun x y => x >>> (y &&& 31)) 33) ∈ kX12_differ := qX12_differ_0 _ (List.mem_of_getElem? (i := 19) rfl)
theorem tX12_differ_33 : (33, a_i 1 34) ∈ kX12_differ := qX12_differ_0 _ (List.mem_of_getElem? (i := 20) rfl)
theorem tX12_differ_34 : (34, a_ii (fun x y => x &&& y) 35) ∈ kX12_differ := qX12_differ_0 _ (List.mem_of_getElem? (i := 21) rfl)
theorem tX12_differ_35 : (35, a_i 1 36) ∈ kX12_differ := qX12_differ_0 _ (List.mem_of_getElem? (i := 22) rfl)
theorem tX12_differ_36 : (36, a_ic_ne 72 39) ∈ kX12_differ := qX12_differ_0 _ (List.mem_of_getElem? (i := 23) rfl)
theorem qX12_differ_1 : ∀ q ∈ kX12_differ_1, q ∈ kX12_differ := fun _ h => (List.mem_append_right _ (List.mem_append_left _ h))
theorem tX12_differ_39 : (39, a_aload 0 40) ∈ kX12_differ := qX12_differ_1 _ (List.mem_of_getElem? (i := 0) rfl)
theorem tX12_differ_40 : (40, a_i 0 41) ∈ kX12_differ := qX12_differ_1 _ (List.mem_of_getElem? (i := 1) rfl)
theorem tX12_differ_41 : (41, a_iload 3 42) ∈ kX12_differ := qX12_differ_1 _ (List.mem_of_getElem? (i := 2) rfl)
theorem tX12_differ_42 : (42, a_callV 12 161 3 45 0 0) ∈ kX12_differ := qX12_differ_1 _ (List.mem_of_getElem? (i := 3) rfl)
theorem tX12_differ_45 : (45, a_aload 0 46) ∈ kX12_differ := qX12_differ_1 _ (List.mem_of_getElem? (i := 4) rfl)
theorem tX12_differ_46 : (46, a_i 0 47) ∈ kX12_differ := qX12_differ_1 _ (List.mem_of_getElem? (i := 5) rfl)
theorem tX12_differ_47 : (47, a_iload 1 48) ∈ kX12_differ := qX12_differ_1 _ (List.mem_of_getElem? (i := 6) rfl)
theorem tX12_differ_48 : (48, a_callV 12 162 3 51 0 0) ∈ kX12_differ := qX12_differ_1 _ (List.mem_of_getElem? (i := 7) rfl)
theorem tX12_differ_51 : (51, a_istore 4 53) ∈ kX12_differ := qX12_differ_1 _ (List.mem_of_getElem? (i := 8) rfl)
theorem tX12_differ_53 : (53, a_aload 0 54) ∈ kX12_differ := qX12_differ_1 _ (List.mem_of_getElem? (i := 9) rfl)
theorem tX12_differ_54 : (54, a_i 1 55) ∈ kX12_differ := qX12_differ_1 _ (List.mem_of_getElem? (i := 10) rfl)
theorem tX12_differ_55 : (55, a_iload 3 56) ∈ kX12_differ := qX12_differ_1 _ (List.mem_of_getElem? (i := 11) rfl)
theorem tX12_differ_56 : (56, a_callV 12 161 3 59 0 0) ∈ kX12_differ := qX12_differ_1 _ (List.mem_of_getElem? (i := 12) rfl)
theorem tX12_differ_59 : (59, a_aload 0 60) ∈ kX12_differ := qX12_differ_1 _ (List.mem_of_getElem? (i := 13) rfl)
theorem tX12_differ_60 : (60, a_i 1 61) ∈ kX12_differ := qX12_differ_1 _ (List.mem_of_getElem? (i := 14) rfl)
theorem tX12_differ_61 : (61, a_iload 1 62) ∈ kX12_differ := qX12_differ_1 _ (List.mem_of_getElem? (i := 15) rfl)
theorem tX12_differ_62 : (62, a_callV 12 162 3 65 0 0) ∈ kX12_differ := qX12_differ_1 _ (List.mem_of_getElem? (i := 16) rfl)
theorem tX12_differ_65 : (65, a_iload 4 67) ∈ kX12_differ := qX12_differ_1 _ (List.mem_of_getElem? (i := 17) rfl)
theorem tX12_differ_67 : (67, a_ic_eq 72 70) ∈ kX12_differ := qX12_differ_1 _ (List.mem_of_getElem? (i := 18) rfl)
theorem tX12_differ_70 : (70, a_iload 3 71) ∈ kX12_differ := qX12_differ_1 _ (List.mem_of_getElem? (i := 19) rfl)
theorem tX12_differ_71 : (71, a_iret false) ∈ kX12_differ := qX12_differ_1 _ (List.mem_of_getElem? (i := 20) rfl)
theorem tX12_differ_72 : (72, a_iinc 3 1 75) ∈ kX12_differ := qX12_differ_1 _ (List.mem_of_getElem? (i := 21) rfl)
theorem tX12_differ_75 : (75, a_goto 20) ∈ kX12_differ := qX12_differ_1 _ (List.mem_of_getElem? (i := 22) rfl)
theorem tX12_differ_78 : (78, a_i (-4) 80) ∈ kX12_differ := qX12_differ_1 _ (List.mem_of_getElem? (i := 23) rfl)
theorem qX12_differ_2 : ∀ q ∈ kX12_differ_2, q ∈ kX12_differ := fun _ h => (List.mem_append_right _ (List.mem_append_right _ h))
theorem tX12_differ_80 : (80, a_iret false) ∈ kX12_differ := qX12_differ_2 _ (List.mem_of_getElem? (i := 0) rfl)
theorem oX12_differ : ∀ q ∈ kX12_differ, zSnd zty false RX12 cX12_differ 5 (some .int) false q := List.forall_mem_append.mpr ⟨oX12_differ_0, List.forall_mem_append.mpr ⟨oX12_differ_1, oX12_differ_2⟩⟩
theorem dX12_touched_0 : decode cX12_touched 0 = .ok (.aload_n 0, 1) := by decide +kernel
theorem dX12_touched_1 : decode cX12_touched 1 = .ok (.iconst 0, 1) := by decide +kernel
theorem dX12_touched_2 : decode cX12_touched 2 = .ok (.invokevirtual 142, 3) := by decide +kernel
theorem dX12_touched_5 : decode cX12_touched 5 = .ok (.ifCond .ne 6, 3) := by decide +kernel
theorem dX12_touched_8 : decode cX12_touched 8 = .ok (.bipush (-2), 2) := by decide +kernel
theorem dX12_touched_10 : decode cX12_touched 10 = .ok (.ireturn, 1) := by decide +kernel
theorem dX12_touched_11 : decode cX12_touched 11 = .ok (.iconst 0, 1) := by decide +kernel
theorem dX12_touched_12 : decode cX12_touched 12 = .ok (.istore_n 1, 1) := by decide +kernel
theorem dX12_touched_13 : decode cX12_touched 13 = .ok (.iconst 0, 1) := by decide +kernel
theorem dX12_touched_14 : decode cX12_touched 14 = .ok (.istore_n 2, 1) := by decide +kernel
theorem dX12_touched_15 : decode cX12_touched 15 = .ok (.iload_n 2, 1) := by decide +kernel
theorem dX12_touched_16 : decode cX12_touched 16 = .ok (.sipush 1024, 3) := by decide +kernel
theorem dX12_touched_19 : decode cX12_touched 19 = .ok (.if_icmp .ge 97, 3) := by decide +kernel
theorem dX12_touched_22 : decode cX12_touched 22 = .ok (.iconst 0, 1) := by decide +kernel
theorem dX12_touched_23 : decode cX12_touched 23 = .ok (.istore_n 3, 1) := by decide +kernel
theorem dX12_touched_24 : decode cX12_touched 24 = .ok (.aload_n 0, 1) := by decide +kernel
theorem dX12_touched_25 : decode cX12_touched 25 = .ok (.iconst 0, 1) := by decide +kernel
theorem dX12_touched_26 : decode cX12_touched 26 = .ok (.iload_n 2, 1) := by decide +kernel
theorem dX12_touched_27 : decode cX12_touched 27 = .ok (.invokevirtual 186, 3) := by decide +kernel
theorem dX12_touched_30 : decode cX12_touched 30 = .ok (.bipush 6, 2) := by decide +kernel
theorem dX12_touched_32 : decode cX12_touched 32 = .ok (.istore 4, 2) := by decide +kernel
theorem dX12_touched_34 : decode cX12_touched 34 = .ok (.iload 4, 2) := by decide +kernel
theorem dX12_touched_36 : decode cX12_touched 36 = .ok (.bipush 19, 2) := by decide +kernel
theorem dX12_touched_38 : decode cX12_touched 38 = .ok (.if_icmp .ge 22, 3) := by decide +kernel
theorem dX12_touched_41 : decode cX12_touched 41 = .ok (.iload_n 3, 1) := by decide +kernel
theorem dX12_touched_42 : decode cX12_touched 42 = .ok (.aload_n 0, 1) := by decide +kernel
theorem dX12_touched_43 : decode cX12_touched 43 = .ok (.iconst 0, 1) := by decide +kernel
theorem dX12_touched_44 : decode cX12_touched 44 = .ok (.iload 4, 2) := by decide +kernel
theorem dX12_touched_46 : decode cX12_touched 46 = .ok (.invokevirtual 183, 3) := by decide +kernel
theorem dX12_touched_49 : decode cX12_touched 49 = .ok (.iload 4, 2) := by decide +kernel
theorem dX12_touched_51 : decode cX12_touched 51 = .ok (.ishl, 1) := by decide +kernel
theorem dX12_touched_52 : decode cX12_touched 52 = .ok (.ior, 1) := by decide +kernel
theorem dX12_touched_53 : decode cX12_touched 53 = .ok (.istore_n 3, 1) := by decide +kernel
theorem dX12_touched_54 : decode cX12_touched 54 = .ok (.iinc 4 1, 3) := by decide +kernel
theorem dX12_touched_57 : decode cX12_touched 57 = .ok (.goto (-23), 3) := by decide +kernel
theorem dX12_touched_60 : decode cX12_touched 60 = .ok (.aload_n 0, 1) := by decide +kernel
theorem dX12_touched_61 : decode cX12_touched 61 = .ok (.iconst 2, 1) := by decide +kernel
theorem dX12_touched_62 : decode cX12_touched 62 = .ok (.iload_n 2, 1) := by decide +kernel
theorem dX12_touched_63 : decode cX12_touched 63 = .ok (.invokevirtual 186, 3) := by decide +kernel
theorem dX12_touched_66 : decode cX12_touched 66 = .ok (.bipush 6, 2) := by decide +kernel
theorem dX12_touched_68 : decode cX12_touched 68 = .ok (.istore 4, 2) := by decide +kernel
theorem dX12_touched_70 : decode cX12_touched 70 = .ok (.iload 4, 2) := by decide +kernel
theorem dX12_touched_72 : decode cX12_touched 72 = .ok (.bipush 19, 2) := by decide +kernel
theorem dX12_touched_74 : decode cX12_touched 74 = .ok (.if_icmp .ge 36, 3) := by decide +kernel
theorem dX12_touched_77 : decode cX12_touched 77 = .ok (.iload_n 1, 1) := by decide +kernel
theorem dX12_touched_78 : decode cX12_touched 78 = .ok (.aload_n 0, 1) := by decide +kernel
theorem dX12_touched_79 : decode cX12_touched 79 = .ok (.iconst 2, 1) := by decide +kernel
theorem dX12_touched_80 : decode cX12_touched 80 = .ok (.iload 4, 2) := by decide +kernel
theorem dX12_touched_82 : decode cX12_touched 82 = .ok (.invokevirtual 183, 3) := by decide +kernel
theorem dX12_touched_85 : decode cX12_touched 85 = .ok (.iload_n 3, 1) := by decide +kernel
theorem dX12_touched_86 : decode cX12_touched 86 = .ok (.iload 4, 2) := by decide +kernel
theorem dX12_touched_88 : decode cX12_touched 88 = .ok (.ishr, 1) := by decide +kernel
theorem dX12_touched_89 : decode cX12_touched 89 = .ok (.iconst 1, 1) := by decide +kernel
theorem dX12_touched_90 : decode cX12_touched 90 = .ok (.iand, 1) := by decide +kernel
theorem dX12_touched_91 : decode cX12_touched 91 = .ok (.if_icmp .eq 10, 3) := by decide +kernel
theorem dX12_touched_94 : decode cX12_touched 94 = .ok (.iconst 1, 1) := by decide +kernel
theorem dX12_touched_95 : decode cX12_touched 95 = .ok (.iload 4, 2) := by decide +kernel
theorem dX12_touched_97 : decode cX12_touched 97 = .ok (.ishl, 1) := by decide +kernel
theorem dX12_touched_98 : decode cX12_touched 98 = .ok (.goto 4, 3) := by decide +kernel
theorem dX12_touched_101 : decode cX12_touched 101 = .ok (.iconst 0, 1) := by decide +kernel
theorem dX12_touched_102 : decode cX12_touched 102 = .ok (.ior, 1) := by decide +kernel
theorem dX12_touched_103 : decode cX12_touched 103 = .ok (.istore_n 1, 1) := by decide +kernel
theorem dX12_touched_104 : decode cX12_touched 104 = .ok (.iinc 4 1, 3) := by decide +kernel
theorem dX12_touched_107 : decode cX12_touched 107 = .ok (.goto (-37), 3) := by decide +kernel
theorem dX12_touched_110 : decode cX12_touched 110 = .ok (.iinc 2 1, 3) := by decide +kernel
theorem dX12_touched_113 : decode cX12_touched 113 = .ok (.goto (-98), 3) := by decide +kernel
theorem dX12_touched_116 : decode cX12_touched 116 = .ok (.iload_n 1, 1) := by decide +kernel
theorem dX12_touched_117 : decode cX12_touched 117 = .ok (.ireturn, 1) := by decide +kernel
def kX12_touched_0 : List (Nat × zT) := [(0, a_aload 0 1), (1, a_i 0 2), (2, a_callV 12 151 2 5 0 0), (5, a_if_ne 11 8), (8, a_i (-2) 10), (10, a_iret false), (11, a_i 0 12), (12, a_istore 1 13), (13, a_i 0 14), (14, a_istore 2 15), (15, a_iload 2 16), (16, a_i 1024 19), (19, a_ic_ge 116 22), (22, a_i 0 23), (23, a_istore 3 24), (24, a_aload 0 25), (25, a_i 0 26), (26, a_iload 2 27), (27, a_callV 12 161 3 30 0 0), (30, a_i 6 32), (32, a_istore 4 34), (34, a_iload 4 36), (36, a_i 19 38), (38, a_ic_ge 60 41)]
theorem oX12_touched_0 : ∀ q ∈ kX12_touched_0, zSnd zty false RX12 cX12_touched 5 (some .int) false q := List.forall_mem_cons.mpr ⟨ok_aload_n dX12_touched_0 rfl, List.forall_mem_cons.mpr ⟨ok_iconst dX12_touched_1 (by decide), List.forall_mem_cons.mpr ⟨ok_callV dX12_touched_2 rfl rfl w1128 w1125 w1127 w13 s27 (by decide +kernel) (by decide), List.forall_mem_cons.mpr ⟨ok_if_ne dX12_touched_5 (by decide), List.forall_mem_cons.mpr ⟨ok_bipush dX12_touched_8 (by decide), List.forall_mem_cons.mpr ⟨ok_iret (bz := false) dX12_touched_10 rfl, List.forall_mem_cons.mpr ⟨ok_iconst dX12_touched_11 (by decide), List.forall_mem_cons.mpr ⟨ok_istore_n dX12_touched_12 rfl (by decide), List.forall_mem_cons.mpr ⟨ok_iconst dX12_touched_13 (by decide), List.forall_mem_cons.mpr ⟨ok_istore_n dX12_touched_14 rfl (by decide), List.forall_mem_cons.mpr ⟨ok_iload_n dX12_touched_15 rfl, List.forall_mem_cons.mpr ⟨ok_sipush dX12_touched_16 (by decide), List.forall_mem_cons.mpr ⟨ok_ic_ge dX12_touched_19 (by decide), List.forall_mem_cons.mpr ⟨ok_iconst dX12_touched_22 (by decide), List.forall_mem_cons.mpr ⟨ok_istore_n dX12_touched_23 rfl (by decide), List.forall_mem_cons.mpr ⟨ok_aload_n dX12_touched_24 rfl, List.forall_mem_cons.mpr ⟨ok_iconst dX12_touched_25 (by decide), List.forall_mem_cons.mpr ⟨ok_iload_n dX12_touched_26 rfl, List.forall_mem_cons.mpr ⟨ok_callV dX12_touched_27 rfl rfl w1194 w1191 w1193 w13 s37 (by decide +kernel) (by decide), List.forall_mem_cons.mpr ⟨ok_bipush dX12_touched_30 (by decide), List.forall_mem_cons.mpr ⟨ok_istore dX12_touched_32 (by decide), List.forall_mem_cons.mpr ⟨ok_iload dX12_touched_34, List.forall_mem_cons.mpr ⟨ok_bipush dX12_touched_36 (by decide), List.forall_mem_cons.mpr ⟨ok_ic_ge dX12_touched_38 (by decide), fun _ h => absurd h List.not_mem_nil⟩⟩⟩⟩⟩⟩⟩⟩⟩⟩⟩⟩⟩⟩⟩⟩⟩⟩⟩⟩⟩⟩⟩⟩
def kX12_touched_1 : List (Nat × zT) := [(41, a_iload 3 42), (42, a_aload 0 43), (43, a_i 0 44), (44, a_iload 4 46), (46, a_callV 12 162 3 49 0 0), (49, a_iload 4 51), (51, a_ii (fun x y => x <<< (y &&& 31)) 52), (52, a_ii (fun x y => x ||| y) 53), (53, a_istore 3 54), (54, a_iinc 4 1 57), (57, a_goto 34), (60, a_aload 0 61), (61, a_i 2 62), (62, a_iload 2 63), (63, a_callV 12 161 3 66 0 0), (66, a_i 6 68), (68, a_istore 4 70), (70, a_iload 4 72), (72, a_i 19 74), (74, a_ic_ge 110 77), (77, a_iload 1 78), (78, a_aload 0 79), (79, a_i 2 80), (80, a_iload 4 82)]
theorem oX12_touched_1 : ∀ q ∈ kX12_touched_1, zSnd zty false RX12 cX12_touched 5 (some .int) false q := List.forall_mem_cons.mpr ⟨ok_iload_n dX12_touched_41 rfl, List.forall_mem_cons.mpr ⟨ok_aload_n dX12_touched_42 rfl, List.forall_mem_cons.mpr ⟨ok_iconst dX12_touched_43 (by decide), List.forall_mem_cons.mpr ⟨ok_iload dX12_touched_44, List.forall_mem_cons.mpr ⟨ok_callV dX12_touched_46 rfl rfl w1182 w1179 w1181 w13 s36 (by decide +kernel) (by decide), List.forall_mem_cons.mpr ⟨ok_iload dX12_touched_49, List.forall_mem_cons.mpr ⟨ok_ishl dX12_touched_51, List.forall_mem_cons.mpr ⟨ok_ior dX12_touched_52, List.forall_mem_cons.mpr ⟨ok_istore_n dX12_touched_53 rfl (by decide), List.forall_mem_cons.mpr ⟨ok_iinc dX12_touched_54 (by decide) (by decide), List.forall_mem_cons.mpr ⟨ok_goto dX12_touched_57 (by decide), List.forall_mem_cons.mpr ⟨ok_aload_n dX12_touched_60 rfl, List.forall_mem_cons.mpr ⟨ok_iconst dX12_touched_61 (by decide), List.forall_mem_cons.mpr ⟨ok_iload_n dX12_touched_62 rfl, List.forall_mem_cons.mpr ⟨ok_callV dX12_touched_63 rfl rfl w1194 w1191 w1193 w13 s37 (by decide +kernel) (by decide), List.forall_mem_cons.mpr ⟨ok_bipush dX12_touched_66 (by decide), List.forall_mem_cons.mpr ⟨ok_istore dX12_touched_68 (by decide), List.forall_mem_cons.mpr ⟨ok_iload dX12_touched_70, List.forall_mem_cons.mpr ⟨ok_bipush dX12_touched_72 (by decide), List.forall_mem_cons.mpr ⟨ok_ic_ge dX12_touched_74 (by decide), List.forall_mem_cons.mpr ⟨ok_iload_n dX12_touched_77 rfl, List.forall_mem_cons.mpr ⟨ok_aload_n dX12_touched_78 rfl, List.forall_mem_cons.mpr ⟨ok_iconst dX12_touched_79 (by decide), List.forall_mem_cons.mpr ⟨ok_iload dX12_touched_80, fun _ h => absurd h List.not_mem_nil⟩⟩⟩⟩⟩⟩⟩⟩⟩⟩⟩⟩⟩⟩⟩⟩⟩⟩⟩⟩⟩⟩⟩⟩
def kX12_touched_2 : List (Nat × zT) := [(82, a_callV 12 162 3 85 0 0), (85, a_iload 3 86), (86, a_iload 4 88), (88, a_ii (fun x y => x >>> (y &&& 31)) 89), (89, a_i 1 90), (90, a_ii (fun x y => x &&& y) 91), (91, a_ic_eq 101 94), (94, a_i 1 95), (95, a_iload 4 97), (97, a_ii (fun x y => x <<< (y &&& 31)) 98), (98, a_goto 102), (101, a_i 0 102), (102, a_ii (fun x y => x ||| y) 103), (103, a_istore 1 104), (104, a_iinc 4 1 107), (107, a_goto 70), (110, a_iinc 2 1 113), (113, a_goto 15), (116, a_iload 1 117), (117, a_iret false)]
theorem oX12_touched_2 : ∀ q ∈ kX12_touched_2, zSnd zty false RX12 cX12_touched 5 (some .int) false q := List.forall_mem_cons.mpr ⟨ok_callV dX12_touched_82 rfl rfl w1182 w1179 w1181 w13 s36 (by decide +kernel) (by decide), List.forall_mem_cons.mpr ⟨ok_iload_n dX12_touched_85 rfl, List.forall_mem_cons.mpr ⟨ok_iload dX12_touched_86, List.forall_mem_cons.mpr ⟨ok_ishr dX12_touched_88, List.forall_mem_cons.mpr ⟨ok_iconst dX12_touched_89 (by decide), List.forall_mem_cons.mpr ⟨ok_iand dX12_touched_90, List.forall_mem_cons.mpr ⟨ok_ic_eq dX12_touched_91 (by decide), List.forall_mem_cons.mpr ⟨ok_iconst dX12_touched_94 (by decide), List.forall_mem_cons.mpr ⟨ok_iload dX12_touched_95, List.forall_mem_cons.mpr ⟨ok_ishl dX12_touched_97, List.forall_mem_cons.mpr ⟨ok_goto dX12_touched_98 (by decide), List.forall_mem_cons.mpr ⟨ok_iconst dX12_touched_101 (by decide), List.forall_mem_cons.mpr ⟨ok_ior dX12_touched_102, List.forall_mem_cons.mpr ⟨ok_istore_n dX12_touched_103 rfl (by decide), List.forall_mem_cons.mpr ⟨ok_iinc dX12_touched_104 (by decide) (by decide), List.forall_mem_cons.mpr ⟨ok_goto dX12_touched_107 (by decide), List.forall_mem_cons.mpr ⟨ok_iinc dX12_touched_110 (by decide) (by decide), List.forall_mem_cons.mpr ⟨ok_goto dX12_touched_113 (by decide), List.forall_mem_cons.mpr ⟨ok_iload_n dX12_touched_116 rfl, List.forall_mem_cons.mpr ⟨ok_iret (bz := false) dX12_touched_117 rfl, fun _ h => absurd h List.not_mem_nil⟩⟩⟩⟩⟩⟩⟩⟩⟩⟩⟩⟩⟩⟩⟩⟩⟩⟩⟩⟩
def kX12_touched : List (Nat × zT) := kX12_touched_0 ++ (kX12_touched_1 ++ (kX12_touched_2))
theorem qX12_touched_0 : ∀ q ∈ kX12_touched_0, q ∈ kX12_touched := fun _ h => (List.mem_append_left _ h)
theorem tX12_touched_0 : (0, a_aload 0 1) ∈ kX12_touched := qX12_touched_0 _ (List.mem_of_getElem? (i := 0) rfl)
theorem tX12_touched_1 : (1, a_i 0 2) ∈ kX12_touched := qX12_touched_0 _ (List.mem_of_getElem? (i := 1) rfl)
theorem tX12_touched_2 : (2, a_callV 12 151 2 5 0 0) ∈ kX12_touched := qX12_touched_0 _ (List.mem_of_getElem? (i := 2) rfl)
theorem tX12_touched_5 : (5, a_if_ne 11 8) ∈ kX12_touched := qX12_touched_0 _ (List.mem_of_getElem? (i := 3) rfl)
theorem tX12_touched_8 : (8, a_i (-2) 10) ∈ kX12_touched := qX12_touched_0 _ (List.mem_of_getElem? (i := 4) rfl)
theorem tX12_touched_10 : (10, a_iret false) ∈ kX12_touched := qX12_touched_0 _ (List.mem_of_getElem? (i := 5) rfl)
theorem tX12_touched_11 : (11, a_i 0 12) ∈ kX12_touched := qX12_touched_0 _ (List.mem_of_getElem? (i := 6) rfl)
theorem tX12_touched_12 : (12, a_istore 1 13) ∈ kX12_touched := qX12_touched_0 _ (List.mem_of_getElem? (i := 7) rfl)
theorem tX12_touched_13 : (13, a_i 0 14) ∈ kX12_touched := qX12_touched_0 _ (List.mem_of_getElem? (i := 8) rfl)
theorem tX12_touched_14 : (14, a_istore 2 15) ∈ kX12_touched := qX12_touched_0 _ (List.mem_of_getElem? (i := 9) rfl)
theorem tX12_touched_15 : (15, a_iload 2 16) ∈ kX12_touched := qX12_touched_0 _ (List.mem_of_getElem? (i := 10) rfl)
theorem tX12_touched_16 : (16, a_i 1024 19) ∈ kX12_touched := qX12_touched_0 _ (List.mem_of_getElem? (i := 11) rfl)
theorem tX12_touched_19 : (19, a_ic_ge 116 22) ∈ kX12_touched := qX12_touched_0 _ (List.mem_of_getElem? (i := 12) rfl)
theorem tX12_touched_22 : (22, a_i 0 23) ∈ kX12_touched := qX12_touched_0 _ (List.mem_of_getElem? (i := 13) rfl)
theorem tX12_touched_23 : (23, a_istore 3 24) ∈ kX12_touched := qX12_touched_0 _ (List.mem_of_getElem? (i := 14) rfl)
theorem tX12_touched_24 : (24, a_aload 0 25) ∈ kX12_touched := qX12_touched_0 _ (List.mem_of_getElem? (i := 15) rfl)
theorem tX12_touched_25 : (25, a_i 0 26) ∈ kX12_touched := qX12_touched_0 _ (List.mem_of_getElem? (i := 16) rfl)
theorem tX12_touched_26 : (26, a_iload 2 27) ∈ kX12_touched := qX12_touched_0 _ (List.mem_of_getElem? (i := 17) rfl)
theorem tX12_touched_27 : (27, a_callV 12 161 3 30 0 0) ∈ kX12_touched := qX12_touched_0 _ (List.mem_of_getElem? (i := 18) rfl)
theorem tX12_touched_30 : (30, a_i 6 32) ∈ kX12_touched := qX12_touched_0 _ (List.mem_of_getElem? (i := 19) rfl)
theorem tX12_touched_32 : (32, a_istore 4 34) ∈ kX12_touched := qX12_touched_0 _ (List.mem_of_getElem? (i := 20) rfl)
theorem tX12_touched_34 : (34, a_iload 4 36) ∈ kX12_touched := qX12_touched_0 _ (List.mem_of_getElem? (i := 21) rfl)
theorem tX12_touched_36 : (36, a_i 19 38) ∈ kX12_touched := qX12_touched_0 _ (List.mem_of_getElem? (i := 22) rfl)
theorem tX12_touched_38 : (38, a_ic_ge 60 41) ∈ kX12_touched := qX12_touched_0 _ (List.mem_of_getElem? (i := 23) rfl)
theorem qX12_touched_1 : ∀ q ∈ kX12_touched_1, q ∈ kX12_touched := fun _ h => (List.mem_append_right _ (List.mem_append_left _ h))
theorem tX12_touched_41 : (41, a_iload 3 42) ∈ kX12_touched := qX12_touched_1 _ (List.mem_of_getElem? (i := 0) rfl)
theorem tX12_touched_42 : (42, a_aload 0 43) ∈ kX12_touched := qX12_touched_1 _ (List.mem_of_getElem? (i := 1) rfl)
theorem tX12_touched_43 : (43, a_i 0 44) ∈ kX12_touched := qX12_touched_1 _ (List.mem_of_getElem? (i := 2) rfl)
theorem tX12_touched_44 : (44, a_iload 4 46) ∈ kX12_touched := qX12_touched_1 _ (List.mem_of_getElem? (i := 3) rfl)
theorem tX12_touched_46 : (46, a_callV 12 162 3 49 0 0) ∈ kX12_touched := qX12_touched_1 _ (List.mem_of_getElem? (i := 4) rfl)
theorem tX12_touched_49 : (49, a_iload 4 51) ∈ kX12_touched := qX12_touched_1 _ (List.mem_of_getElem? (i := 5) rfl)
theorem tX12_touched_51 : (51, a_ii (fun x y => x <<< (y &&& 31)) 52) ∈ kX12_touched := qX12_touched_1 _ (List.mem_of_getElem? (i := 6) rfl)
theorem tX12_touched_52 : (52, a_ii (fun x y => x ||| y) 53) ∈ kX12_touched := qX12_touched_1 _ (List.mem_of_getElem? (i := 7) rfl)
theorem tX12_touched_53 : (53, a_istore 3 54) ∈ kX12_touched := qX12_touched_1 _ (List.mem_of_getElem? (i := 8) rfl)
theorem tX12_touched_54 : (54, a_iinc 4 1 57) ∈ kX12_touched := qX12_touched_1 _ (List.mem_of_getElem? (i := 9) rfl)
theorem tX12_touched_57 : (57, a_goto 34) ∈ kX12_touched := qX12_touched_1 _ (List.mem_of_getElem? (i := 10) rfl)
theorem tX12_touched_60 : (60, a_aload 0 61) ∈ kX12_touched := qX12_touched_1 _ (List.mem_of_getElem? (i := 11) rfl)
theorem tX12_touched_61 : (61, a_i 2 62) ∈ kX12_touched := qX12_touched_1 _ (List.mem_of_getElem? (i := 12) rfl)
theorem tX12_touched_62 : (62, a_iload 2 63) ∈ kX12_touched := qX12_touched_1 _ (List.mem_of_getElem? (i := 13) rfl)
theorem tX12_touched_63 : (63, a_callV 12 161 3 66 0 0) ∈ kX12_touched := qX12_touched_1 _ (List.mem_of_getElem? (i := 14) rfl)
theorem tX12_touched_66 : (66, a_i 6 68) ∈ kX12_touched := qX12_touched_1 _ (List.mem_of_getElem? (i := 15) rfl)
theorem tX12_touched_68 : (68, a_istore 4 70) ∈ kX12_touched := qX12_touched_1 _ (List.mem_of_getElem? (i := 16) rfl)
theorem tX12_touched_70 : (70, a_iload 4 72) ∈ kX12_touched := qX12_touched_1 _ (List.mem_of_getElem? (i := 17) rfl)
theorem tX12_touched_72 : (72, a_i 19 74) ∈ kX12_touched := qX12_touched_1 _ (List.mem_of_getElem? (i := 18) rfl)
theorem tX12_touched_74 : (74, a_ic_ge 110 77) ∈ kX12_touched := qX12_touched_1 _ (List.mem_of_getElem? (i := 19) rfl)
theorem tX12_touched_77 : (77, a_iload 1 78) ∈ kX12_touched := qX12_touched_1 _ (List.mem_of_getElem? (i := 20) rfl)
theorem tX12_touched_78 : (78, a_aload 0 79) ∈ kX12_touched := qX12_touched_1 _ (List.mem_of_getElem? (i := 21) rfl)
theorem tX12_touched_79 : (79, a_i 2 80) ∈ kX12_touched := qX12_touched_1 _ (List.mem_of_getElem? (i := 22) rfl)
theorem tX12_touched_80 : (80, a_iload 4 82) ∈ kX12_touched := qX12_touched_1 _ (List.mem_of_getElem? (i := 23) rfl)
theorem qX12_touched_2 : ∀ q ∈ kX12_touched_2, q ∈ kX12_touched := fun _ h => (List.mem_append_right _ (List.mem_append_right _ h))
theorem tX12_touched_82 : (82, a_callV 12 162 3 85 0 0) ∈ kX12_touched := qX12_touched_2 _ (List.mem_of_getElem? (i := 0) rfl)
theorem tX12_touched_85 : (85, a_iload 3 86) ∈ kX12_touched := qX12_touched_2 _ (List.mem_of_getElem? (i := 1) rfl)
theorem tX12_touched_86 : (86, a_iload 4 88) ∈ kX12_touched := qX12_touched_2 _ (List.mem_of_getElem? (i := 2) rfl)
theorem tX12_touched_88 : (88, a_ii (fun x y => x >>> (y &&& 31)) 89) ∈ kX12_touched := qX12_touched_2 _ (List.mem_of_getElem? (i := 3) rfl)
theorem tX12_touched_89 : (89, a_i 1 90) ∈ kX12_touched := qX12_touched_2 _ (List.mem_of_getElem? (i := 4) rfl)
theorem tX12_touched_90 : (90, a_ii (fun x y => x &&& y) 91) ∈ kX12_touched := qX12_touched_2 _ (List.mem_of_getElem? (i := 5) rfl)
theorem tX12_touched_91 : (91, a_ic_eq 101 94) ∈ kX12_touched := qX12_touched_2 _ (List.mem_of_getElem? (i := 6) rfl)
theorem tX12_touched_94 : (94, a_i 1 95) ∈ kX12_touched := qX12_touched_2 _ (List.mem_of_getElem? (i := 7) rfl)
theorem tX12_touched_95 : (95, a_iload 4 97) ∈ kX12_touched := qX12_touched_2 _ (List.mem_of_getElem? (i := 8) rfl)
theorem tX12_touched_97 : (97, a_ii (fun x y => x <<< (y &&& 31)) 98) ∈ kX12_touched := qX12_touched_2 _ (List.mem_of_getElem? (i := 9) rfl)
theorem tX12_touched_98 : (98, a_goto 102) ∈ kX12_touched := qX12_touched_2 _ (List.mem_of_getElem? (i := 10) rfl)
theorem tX12_touched_101 : (101, a_i 0 102) ∈ kX12_touched := qX12_touched_2 _ (List.mem_of_getElem? (i := 11) rfl)
theorem tX12_touched_102 : (102, a_ii (fun x y => x ||| y) 103) ∈ kX12_touched := qX12_touched_2 _ (List.mem_of_getElem? (i := 12) rfl)
theorem tX12_touched_103 : (103, a_istore 1 104) ∈ kX12_touched := qX12_touched_2 _ (List.mem_of_getElem? (i := 13) rfl)
theorem tX12_touched_104 : (104, a_iinc 4 1 107) ∈ kX12_touched := qX12_touched_2 _ (List.mem_of_getElem? (i := 14) rfl)
theorem tX12_touched_107 : (107, a_goto 70) ∈ kX12_touched := qX12_touched_2 _ (List.mem_of_getElem? (i := 15) rfl)
theorem tX12_touched_110 : (110, a_iinc 2 1 113) ∈ kX12_touched := qX12_touched_2 _ (List.mem_of_getElem? (i := 16) rfl)
theorem tX12_touched_113 : (113, a_goto 15) ∈ kX12_touched := qX12_touched_2 _ (List.mem_of_getElem? (i := 17) rfl)
theorem tX12_touched_116 : (116, a_iload 1 117) ∈ kX12_touched := qX12_touched_2 _ (List.mem_of_getElem? (i := 18) rfl)
theorem tX12_touched_117 : (117, a_iret false) ∈ kX12_touched := qX12_touched_2 _ (List.mem_of_getElem? (i := 19) rfl)
theorem oX12_touched : ∀ q ∈ kX12_touched, zSnd zty false RX12 cX12_touched 5 (some .int) false q := List.forall_mem_append.mpr ⟨oX12_touched_0, List.forall_mem_append.mpr ⟨oX12_touched_1, oX12_touched_2⟩⟩
theorem dX12_gate_0 : decode cX12_gate 0 = .ok (.iload_n 1, 1) := by decide +kernel
theorem dX12_gate_1 : decode cX12_gate 1 = .ok (.iconst 0, 1) := by decide +kernel
theorem dX12_gate_2 : decode cX12_gate 2 = .ok (.bipush 6, 2) := by decide +kernel
theorem dX12_gate_4 : decode cX12_gate 4 = .ok (.invokestatic 112, 3) := by decide +kernel
theorem dX12_gate_7 : decode cX12_gate 7 = .ok (.ifCond .eq 31, 3) := by decide +kernel
theorem dX12_gate_10 : decode cX12_gate 10 = .ok (.iload_n 2, 1) := by decide +kernel
theorem dX12_gate_11 : decode cX12_gate 11 = .ok (.iconst 0, 1) := by decide +kernel
theorem dX12_gate_12 : decode cX12_gate 12 = .ok (.iconst 1, 1) := by decide +kernel
theorem dX12_gate_13 : decode cX12_gate 13 = .ok (.invokestatic 112, 3) := by decide +kernel
theorem dX12_gate_16 : decode cX12_gate 16 = .ok (.ifCond .eq 22, 3) := by decide +kernel
theorem dX12_gate_19 : decode cX12_gate 19 = .ok (.iload_n 3, 1) := by decide +kernel
theorem dX12_gate_20 : decode cX12_gate 20 = .ok (.iconst 1, 1) := by decide +kernel
theorem dX12_gate_21 : decode cX12_gate 21 = .ok (.iload_n 2, 1) := by decide +kernel
theorem dX12_gate_22 : decode cX12_gate 22 = .ok (.ifCond .ne 8, 3) := by decide +kernel
theorem dX12_gate_25 : decode cX12_gate 25 = .ok (.bipush 100, 2) := by decide +kernel
theorem dX12_gate_27 : decode cX12_gate 27 = .ok (.goto 5, 3) := by decide +kernel
theorem dX12_gate_30 : decode cX12_gate 30 = .ok (.bipush 50, 2) := by decide +kernel
theorem dX12_gate_32 : decode cX12_gate 32 = .ok (.invokestatic 112, 3) := by decide +kernel
theorem dX12_gate_35 : decode cX12_gate 35 = .ok (.ifCond .ne 5, 3) := by decide +kernel
theorem dX12_gate_38 : decode cX12_gate 38 = .ok (.iconst (-1), 1) := by decide +kernel
theorem dX12_gate_39 : decode cX12_gate 39 = .ok (.ireturn, 1) := by decide +kernel
theorem dX12_gate_40 : decode cX12_gate 40 = .ok (.iload_n 2, 1) := by decide +kernel
theorem dX12_gate_41 : decode cX12_gate 41 = .ok (.ifCond .ne 12, 3) := by decide +kernel
theorem dX12_gate_44 : decode cX12_gate 44 = .ok (.aload_n 0, 1) := by decide +kernel
theorem dX12_gate_45 : decode cX12_gate 45 = .ok (.getfield 43, 3) := by decide +kernel
theorem dX12_gate_48 : decode cX12_gate 48 = .ok (.iload_n 1, 1) := by decide +kernel
theorem dX12_gate_49 : decode cX12_gate 49 = .ok (.iaload, 1) := by decide +kernel
theorem dX12_gate_50 : decode cX12_gate 50 = .ok (.goto 9, 3) := by decide +kernel
theorem dX12_gate_53 : decode cX12_gate 53 = .ok (.aload_n 0, 1) := by decide +kernel
theorem dX12_gate_54 : decode cX12_gate 54 = .ok (.getfield 46, 3) := by decide +kernel
theorem dX12_gate_57 : decode cX12_gate 57 = .ok (.iload_n 1, 1) := by decide +kernel
theorem dX12_gate_58 : decode cX12_gate 58 = .ok (.iaload, 1) := by decide +kernel
theorem dX12_gate_59 : decode cX12_gate 59 = .ok (.istore 4, 2) := by decide +kernel
theorem dX12_gate_61 : decode cX12_gate 61 = .ok (.iload_n 2, 1) := by decide +kernel
theorem dX12_gate_62 : decode cX12_gate 62 = .ok (.ifCond .ne 13, 3) := by decide +kernel
theorem dX12_gate_65 : decode cX12_gate 65 = .ok (.aload_n 0, 1) := by decide +kernel
theorem dX12_gate_66 : decode cX12_gate 66 = .ok (.getfield 43, 3) := by decide +kernel
theorem dX12_gate_69 : decode cX12_gate 69 = .ok (.iload_n 1, 1) := by decide +kernel
theorem dX12_gate_70 : decode cX12_gate 70 = .ok (.iload_n 3, 1) := by decide +kernel
theorem dX12_gate_71 : decode cX12_gate 71 = .ok (.iastore, 1) := by decide +kernel
theorem dX12_gate_72 : decode cX12_gate 72 = .ok (.goto 10, 3) := by decide +kernel
theorem dX12_gate_75 : decode cX12_gate 75 = .ok (.aload_n 0, 1) := by decide +kernel
theorem dX12_gate_76 : decode cX12_gate 76 = .ok (.getfield 46, 3) := by decide +kernel
theorem dX12_gate_79 : decode cX12_gate 79 = .ok (.iload_n 1, 1) := by decide +kernel
theorem dX12_gate_80 : decode cX12_gate 80 = .ok (.iload_n 3, 1) := by decide +kernel
theorem dX12_gate_81 : decode cX12_gate 81 = .ok (.iastore, 1) := by decide +kernel
theorem dX12_gate_82 : decode cX12_gate 82 = .ok (.iload 4, 2) := by decide +kernel
theorem dX12_gate_84 : decode cX12_gate 84 = .ok (.ireturn, 1) := by decide +kernel
def kX12_gate_0 : List (Nat × zT) := [(0, a_iload 1 1), (1, a_i 0 2), (2, a_i 6 4), (4, a_call 138 3 7 0 0), (7, a_if_eq 38 10), (10, a_iload 2 11), (11, a_i 0 12), (12, a_i 1 13), (13, a_call 138 3 16 0 0), (16, a_if_eq 38 19), (19, a_iload 3 20), (20, a_i 1 21), (21, a_iload 2 22), (22, a_if_ne 30 25), (25, a_i 100 27), (27, a_goto 32), (30, a_i 50 32), (32, a_call 138 3 35 0 0), (35, a_if_ne 40 38), (38, a_i (-1) 39), (39, a_iret false), (40, a_iload 2 41), (41, a_if_ne 53 44), (44, a_aload 0 45)]
theorem oX12_gate_0 : ∀ q ∈ kX12_gate_0, zSnd zty false RX12 cX12_gate 5 (some .int) false q := List.forall_mem_cons.mpr ⟨ok_iload_n dX12_gate_0 rfl, List.forall_mem_cons.mpr ⟨ok_iconst dX12_gate_1 (by decide), List.forall_mem_cons.mpr ⟨ok_bipush dX12_gate_2 (by decide), List.forall_mem_cons.mpr ⟨ok_callS dX12_gate_4 rfl w1084 w1082 w1083 w13 (by decide +kernel) (by decide), List.forall_mem_cons.mpr ⟨ok_if_eq dX12_gate_7 (by decide), List.forall_mem_cons.mpr ⟨ok_iload_n dX12_gate_10 rfl, List.forall_mem_cons.mpr ⟨ok_iconst dX12_gate_11 (by decide), List.forall_mem_cons.mpr ⟨ok_iconst dX12_gate_12 (by decide), List.forall_mem_cons.mpr ⟨ok_callS dX12_gate_13 rfl w1084 w1082 w1083 w13 (by decide +kernel) (by decide), List.forall_mem_cons.mpr ⟨ok_if_eq dX12_gate_16 (by decide), List.forall_mem_cons.mpr ⟨ok_iload_n dX12_gate_19 rfl, List.forall_mem_cons.mpr ⟨ok_iconst dX12_gate_20 (by decide), List.forall_mem_cons.mpr ⟨ok_iload_n dX12_gate_21 rfl, List.forall_mem_cons.mpr ⟨ok_if_ne dX12_gate_22 (by decide), List.forall_mem_cons.mpr ⟨ok_bipush dX12_gate_25 (by decide), List.forall_mem_cons.mpr ⟨ok_goto dX12_gate_27 (by decide), List.forall_mem_cons.mpr ⟨ok_bipush dX12_gate_30 (by decide), List.forall_mem_cons.mpr ⟨ok_callS dX12_gate_32 rfl w1084 w1082 w1083 w13 (by decide +kernel) (by decide), List.forall_mem_cons.mpr ⟨ok_if_ne dX12_gate_35 (by decide), List.forall_mem_cons.mpr ⟨ok_iconst dX12_gate_38 (by decide), List.forall_mem_cons.mpr ⟨ok_iret (bz := false) dX12_gate_39 rfl, List.forall_mem_cons.mpr ⟨ok_iload_n dX12_gate_40 rfl, List.forall_mem_cons.mpr ⟨ok_if_ne dX12_gate_41 (by decide), List.forall_mem_cons.mpr ⟨ok_aload_n dX12_gate_44 rfl, fun _ h => absurd h List.not_mem_nil⟩⟩⟩⟩⟩⟩⟩⟩⟩⟩⟩⟩⟩⟩⟩⟩⟩⟩⟩⟩⟩⟩⟩⟩
def kX12_gate_1 : List (Nat × zT) := [(45, a_getR 12 13 48), (48, a_iload 1 49), (49, a_iald 50), (50, a_goto 59), (53, a_aload 0 54), (54, a_getR 12 14 57), (57, a_iload 1 58), (58, a_iald 59), (59, a_istore 4 61), (61, a_iload 2 62), (62, a_if_ne 75 65), (65, a_aload 0 66), (66, a_getR 12 13 69), (69, a_iload 1 70), (70, a_iload 3 71), (71, a_iast 72), (72, a_goto 82), (75, a_aload 0 76), (76, a_getR 12 14 79), (79, a_iload 1 80), (80, a_iload 3 81), (81, a_iast 82), (82, a_iload 4 84), (84, a_iret false)]
theorem oX12_gate_1 : ∀ q ∈ kX12_gate_1, zSnd zty false RX12 cX12_gate 5 (some .int) false q := List.forall_mem_cons.mpr ⟨ok_getR dX12_gate_45 rfl in12 (by decide) rfl w970, List.forall_mem_cons.mpr ⟨ok_iload_n dX12_gate_48 rfl, List.forall_mem_cons.mpr ⟨ok_iald dX12_gate_49, List.forall_mem_cons.mpr ⟨ok_goto dX12_gate_50 (by decide), List.forall_mem_cons.mpr ⟨ok_aload_n dX12_gate_53 rfl, List.forall_mem_cons.mpr ⟨ok_getR dX12_gate_54 rfl in12 (by decide) rfl w971, List.forall_mem_cons.mpr ⟨ok_iload_n dX12_gate_57 rfl, List.forall_mem_cons.mpr ⟨ok_iald dX12_gate_58, List.forall_mem_cons.mpr ⟨ok_istore dX12_gate_59 (by decide), List.forall_mem_cons.mpr ⟨ok_iload_n dX12_gate_61 rfl, List.forall_mem_cons.mpr ⟨ok_if_ne dX12_gate_62 (by decide), List.forall_mem_cons.mpr ⟨ok_aload_n dX12_gate_65 rfl, List.forall_mem_cons.mpr ⟨ok_getR dX12_gate_66 rfl in12 (by decide) rfl w970, List.forall_mem_cons.mpr ⟨ok_iload_n dX12_gate_69 rfl, List.forall_mem_cons.mpr ⟨ok_iload_n dX12_gate_70 rfl, List.forall_mem_cons.mpr ⟨ok_iast dX12_gate_71, List.forall_mem_cons.mpr ⟨ok_goto dX12_gate_72 (by decide), List.forall_mem_cons.mpr ⟨ok_aload_n dX12_gate_75 rfl, List.forall_mem_cons.mpr ⟨ok_getR dX12_gate_76 rfl in12 (by decide) rfl w971, List.forall_mem_cons.mpr ⟨ok_iload_n dX12_gate_79 rfl, List.forall_mem_cons.mpr ⟨ok_iload_n dX12_gate_80 rfl, List.forall_mem_cons.mpr ⟨ok_iast dX12_gate_81, List.forall_mem_cons.mpr ⟨ok_iload dX12_gate_82, List.forall_mem_cons.mpr ⟨ok_iret (bz := false) dX12_gate_84 rfl, fun _ h => absurd h List.not_mem_nil⟩⟩⟩⟩⟩⟩⟩⟩⟩⟩⟩⟩⟩⟩⟩⟩⟩⟩⟩⟩⟩⟩⟩⟩
def kX12_gate : List (Nat × zT) := kX12_gate_0 ++ (kX12_gate_1)
theorem qX12_gate_0 : ∀ q ∈ kX12_gate_0, q ∈ kX12_gate := fun _ h => (List.mem_append_left _ h)
theorem tX12_gate_0 : (0, a_iload 1 1) ∈ kX12_gate := qX12_gate_0 _ (List.mem_of_getElem? (i := 0) rfl)
theorem tX12_gate_1 : (1, a_i 0 2) ∈ kX12_gate := qX12_gate_0 _ (List.mem_of_getElem? (i := 1) rfl)
theorem tX12_gate_2 : (2, a_i 6 4) ∈ kX12_gate := qX12_gate_0 _ (List.mem_of_getElem? (i := 2) rfl)
theorem tX12_gate_4 : (4, a_call 138 3 7 0 0) ∈ kX12_gate := qX12_gate_0 _ (List.mem_of_getElem? (i := 3) rfl)
theorem tX12_gate_7 : (7, a_if_eq 38 10) ∈ kX12_gate := qX12_gate_0 _ (List.mem_of_getElem? (i := 4) rfl)
theorem tX12_gate_10 : (10, a_iload 2 11) ∈ kX12_gate := qX12_gate_0 _ (List.mem_of_getElem? (i := 5) rfl)
theorem tX12_gate_11 : (11, a_i 0 12) ∈ kX12_gate := qX12_gate_0 _ (List.mem_of_getElem? (i := 6) rfl)
theorem tX12_gate_12 : (12, a_i 1 13) ∈ kX12_gate := qX12_gate_0 _ (List.mem_of_getElem? (i := 7) rfl)
theorem tX12_gate_13 : (13, a_call 138 3 16 0 0) ∈ kX12_gate := qX12_gate_0 _ (List.mem_of_getElem? (i := 8) rfl)
theorem tX12_gate_16 : (16, a_if_eq 38 19) ∈ kX12_gate := qX12_gate_0 _ (List.mem_of_getElem? (i := 9) rfl)
theorem tX12_gate_19 : (19, a_iload 3 20) ∈ kX12_gate := qX12_gate_0 _ (List.mem_of_getElem? (i := 10) rfl)
theorem tX12_gate_20 : (20, a_i 1 21) ∈ kX12_gate := qX12_gate_0 _ (List.mem_of_getElem? (i := 11) rfl)
theorem tX12_gate_21 : (21, a_iload 2 22) ∈ kX12_gate := qX12_gate_0 _ (List.mem_of_getElem? (i := 12) rfl)
theorem tX12_gate_22 : (22, a_if_ne 30 25) ∈ kX12_gate := qX12_gate_0 _ (List.mem_of_getElem? (i := 13) rfl)
theorem tX12_gate_25 : (25, a_i 100 27) ∈ kX12_gate := qX12_gate_0 _ (List.mem_of_getElem? (i := 14) rfl)
theorem tX12_gate_27 : (27, a_goto 32) ∈ kX12_gate := qX12_gate_0 _ (List.mem_of_getElem? (i := 15) rfl)
theorem tX12_gate_30 : (30, a_i 50 32) ∈ kX12_gate := qX12_gate_0 _ (List.mem_of_getElem? (i := 16) rfl)
theorem tX12_gate_32 : (32, a_call 138 3 35 0 0) ∈ kX12_gate := qX12_gate_0 _ (List.mem_of_getElem? (i := 17) rfl)
theorem tX12_gate_35 : (35, a_if_ne 40 38) ∈ kX12_gate := qX12_gate_0 _ (List.mem_of_getElem? (i := 18) rfl)
theorem tX12_gate_38 : (38, a_i (-1) 39) ∈ kX12_gate := qX12_gate_0 _ (List.mem_of_getElem? (i := 19) rfl)
theorem tX12_gate_39 : (39, a_iret false) ∈ kX12_gate := qX12_gate_0 _ (List.mem_of_getElem? (i := 20) rfl)
theorem tX12_gate_40 : (40, a_iload 2 41) ∈ kX12_gate := qX12_gate_0 _ (List.mem_of_getElem? (i := 21) rfl)
theorem tX12_gate_41 : (41, a_if_ne 53 44) ∈ kX12_gate := qX12_gate_0 _ (List.mem_of_getElem? (i := 22) rfl)
theorem tX12_gate_44 : (44, a_aload 0 45) ∈ kX12_gate := qX12_gate_0 _ (List.mem_of_getElem? (i := 23) rfl)
theorem qX12_gate_1 : ∀ q ∈ kX12_gate_1, q ∈ kX12_gate := fun _ h => (List.mem_append_right _ h)
theorem tX12_gate_45 : (45, a_getR 12 13 48) ∈ kX12_gate := qX12_gate_1 _ (List.mem_of_getElem? (i := 0) rfl)
theorem tX12_gate_48 : (48, a_iload 1 49) ∈ kX12_gate := qX12_gate_1 _ (List.mem_of_getElem? (i := 1) rfl)
theorem tX12_gate_49 : (49, a_iald 50) ∈ kX12_gate := qX12_gate_1 _ (List.mem_of_getElem? (i := 2) rfl)
theorem tX12_gate_50 : (50, a_goto 59) ∈ kX12_gate := qX12_gate_1 _ (List.mem_of_getElem? (i := 3) rfl)
theorem tX12_gate_53 : (53, a_aload 0 54) ∈ kX12_gate := qX12_gate_1 _ (List.mem_of_getElem? (i := 4) rfl)
theorem tX12_gate_54 : (54, a_getR 12 14 57) ∈ kX12_gate := qX12_gate_1 _ (List.mem_of_getElem? (i := 5) rfl)
theorem tX12_gate_57 : (57, a_iload 1 58) ∈ kX12_gate := qX12_gate_1 _ (List.mem_of_getElem? (i := 6) rfl)
theorem tX12_gate_58 : (58, a_iald 59) ∈ kX12_gate := qX12_gate_1 _ (List.mem_of_getElem? (i := 7) rfl)
theorem tX12_gate_59 : (59, a_istore 4 61) ∈ kX12_gate := qX12_gate_1 _ (List.mem_of_getElem? (i := 8) rfl)
theorem tX12_gate_61 : (61, a_iload 2 62) ∈ kX12_gate := qX12_gate_1 _ (List.mem_of_getElem? (i := 9) rfl)
theorem tX12_gate_62 : (62, a_if_ne 75 65) ∈ kX12_gate := qX12_gate_1 _ (List.mem_of_getElem? (i := 10) rfl)
theorem tX12_gate_65 : (65, a_aload 0 66) ∈ kX12_gate := qX12_gate_1 _ (List.mem_of_getElem? (i := 11) rfl)
theorem tX12_gate_66 : (66, a_getR 12 13 69) ∈ kX12_gate := qX12_gate_1 _ (List.mem_of_getElem? (i := 12) rfl)
theorem tX12_gate_69 : (69, a_iload 1 70) ∈ kX12_gate := qX12_gate_1 _ (List.mem_of_getElem? (i := 13) rfl)
theorem tX12_gate_70 : (70, a_iload 3 71) ∈ kX12_gate := qX12_gate_1 _ (List.mem_of_getElem? (i := 14) rfl)
theorem tX12_gate_71 : (71, a_iast 72) ∈ kX12_gate := qX12_gate_1 _ (List.mem_of_getElem? (i := 15) rfl)
theorem tX12_gate_72 : (72, a_goto 82) ∈ kX12_gate := qX12_gate_1 _ (List.mem_of_getElem? (i := 16) rfl)
theorem tX12_gate_75 : (75, a_aload 0 76) ∈ kX12_gate := qX12_gate_1 _ (List.mem_of_getElem? (i := 17) rfl)
theorem tX12_gate_76 : (76, a_getR 12 14 79) ∈ kX12_gate := qX12_gate_1 _ (List.mem_of_getElem? (i := 18) rfl)
theorem tX12_gate_79 : (79, a_iload 1 80) ∈ kX12_gate := qX12_gate_1 _ (List.mem_of_getElem? (i := 19) rfl)
theorem tX12_gate_80 : (80, a_iload 3 81) ∈ kX12_gate := qX12_gate_1 _ (List.mem_of_getElem? (i := 20) rfl)
theorem tX12_gate_81 : (81, a_iast 82) ∈ kX12_gate := qX12_gate_1 _ (List.mem_of_getElem? (i := 21) rfl)
theorem tX12_gate_82 : (82, a_iload 4 84) ∈ kX12_gate := qX12_gate_1 _ (List.mem_of_getElem? (i := 22) rfl)
theorem tX12_gate_84 : (84, a_iret false) ∈ kX12_gate := qX12_gate_1 _ (List.mem_of_getElem? (i := 23) rfl)
theorem oX12_gate : ∀ q ∈ kX12_gate, zSnd zty false RX12 cX12_gate 5 (some .int) false q := List.forall_mem_append.mpr ⟨oX12_gate_0, oX12_gate_1⟩
theorem dX12_rule_0 : decode cX12_rule 0 = .ok (.iload_n 1, 1) := by decide +kernel
theorem dX12_rule_1 : decode cX12_rule 1 = .ok (.iconst 0, 1) := by decide +kernel
theorem dX12_rule_2 : decode cX12_rule 2 = .ok (.iconst 4, 1) := by decide +kernel
theorem dX12_rule_3 : decode cX12_rule 3 = .ok (.invokestatic 112, 3) := by decide +kernel
theorem dX12_rule_6 : decode cX12_rule 6 = .ok (.ifCond .eq 47, 3) := by decide +kernel
theorem dX12_rule_9 : decode cX12_rule 9 = .ok (.iload_n 2, 1) := by decide +kernel
theorem dX12_rule_10 : decode cX12_rule 10 = .ok (.iload_n 1, 1) := by decide +kernel
theorem dX12_rule_11 : decode cX12_rule 11 = .ok (.iconst 3, 1) := by decide +kernel
theorem dX12_rule_12 : decode cX12_rule 12 = .ok (.if_icmp .ge 8, 3) := by decide +kernel
theorem dX12_rule_15 : decode cX12_rule 15 = .ok (.bipush 50, 2) := by decide +kernel
theorem dX12_rule_17 : decode cX12_rule 17 = .ok (.goto 6, 3) := by decide +kernel
theorem dX12_rule_20 : decode cX12_rule 20 = .ok (.iload_n 1, 1) := by decide +kernel
theorem dX12_rule_21 : decode cX12_rule 21 = .ok (.iconst 3, 1) := by decide +kernel
theorem dX12_rule_22 : decode cX12_rule 22 = .ok (.isub, 1) := by decide +kernel
theorem dX12_rule_23 : decode cX12_rule 23 = .ok (.iload_n 1, 1) := by decide +kernel
theorem dX12_rule_24 : decode cX12_rule 24 = .ok (.iconst 3, 1) := by decide +kernel
theorem dX12_rule_25 : decode cX12_rule 25 = .ok (.if_icmp .ge 9, 3) := by decide +kernel
theorem dX12_rule_28 : decode cX12_rule 28 = .ok (.sipush 300, 3) := by decide +kernel
theorem dX12_rule_31 : decode cX12_rule 31 = .ok (.goto 16, 3) := by decide +kernel
theorem dX12_rule_34 : decode cX12_rule 34 = .ok (.iload_n 1, 1) := by decide +kernel
theorem dX12_rule_35 : decode cX12_rule 35 = .ok (.iconst 3, 1) := by decide +kernel
theorem dX12_rule_36 : decode cX12_rule 36 = .ok (.if_icmp .ne 8, 3) := by decide +kernel
theorem dX12_rule_39 : decode cX12_rule 39 = .ok (.bipush 9, 2) := by decide +kernel
theorem dX12_rule_41 : decode cX12_rule 41 = .ok (.goto 6, 3) := by decide +kernel
theorem dX12_rule_44 : decode cX12_rule 44 = .ok (.sipush 500, 3) := by decide +kernel
theorem dX12_rule_47 : decode cX12_rule 47 = .ok (.invokestatic 112, 3) := by decide +kernel
theorem dX12_rule_50 : decode cX12_rule 50 = .ok (.ifCond .ne 5, 3) := by decide +kernel
theorem dX12_rule_53 : decode cX12_rule 53 = .ok (.iconst (-1), 1) := by decide +kernel
theorem dX12_rule_54 : decode cX12_rule 54 = .ok (.ireturn, 1) := by decide +kernel
theorem dX12_rule_55 : decode cX12_rule 55 = .ok (.aload_n 0, 1) := by decide +kernel
theorem dX12_rule_56 : decode cX12_rule 56 = .ok (.getfield 49, 3) := by decide +kernel
theorem dX12_rule_59 : decode cX12_rule 59 = .ok (.iload_n 1, 1) := by decide +kernel
theorem dX12_rule_60 : decode cX12_rule 60 = .ok (.iaload, 1) := by decide +kernel
theorem dX12_rule_61 : decode cX12_rule 61 = .ok (.istore_n 3, 1) := by decide +kernel
theorem dX12_rule_62 : decode cX12_rule 62 = .ok (.aload_n 0, 1) := by decide +kernel
theorem dX12_rule_63 : decode cX12_rule 63 = .ok (.getfield 49, 3) := by decide +kernel
theorem dX12_rule_66 : decode cX12_rule 66 = .ok (.iload_n 1, 1) := by decide +kernel
theorem dX12_rule_67 : decode cX12_rule 67 = .ok (.iload_n 2, 1) := by decide +kernel
theorem dX12_rule_68 : decode cX12_rule 68 = .ok (.iastore, 1) := by decide +kernel
theorem dX12_rule_69 : decode cX12_rule 69 = .ok (.iload_n 3, 1) := by decide +kernel
theorem dX12_rule_70 : decode cX12_rule 70 = .ok (.ireturn, 1) := by decide +kernel
def kX12_rule_0 : List (Nat × zT) := [(0, a_iload 1 1), (1, a_i 0 2), (2, a_i 4 3), (3, a_call 138 3 6 0 0), (6, a_if_eq 53 9), (9, a_iload 2 10), (10, a_iload 1 11), (11, a_i 3 12), (12, a_ic_ge 20 15), (15, a_i 50 17), (17, a_goto 23), (20, a_iload 1 21), (21, a_i 3 22), (22, a_ii (fun x y => x - y) 23), (23, a_iload 1 24), (24, a_i 3 25), (25, a_ic_ge 34 28), (28, a_i 300 31), (31, a_goto 47), (34, a_iload 1 35), (35, a_i 3 36), (36, a_ic_ne 44 39), (39, a_i 9 41), (41, a_goto 47)]
theorem oX12_rule_0 : ∀ q ∈ kX12_rule_0, zSnd zty false RX12 cX12_rule 4 (some .int) false q := List.forall_mem_cons.mpr ⟨ok_iload_n dX12_rule_0 rfl, List.forall_mem_cons.mpr ⟨ok_iconst dX12_rule_1 (by decide), List.forall_mem_cons.mpr ⟨ok_iconst dX12_rule_2 (by decide), List.forall_mem_cons.mpr ⟨ok_callS dX12_rule_3 rfl w1084 w1082 w1083 w13 (by decide +kernel) (by decide), List.forall_mem_cons.mpr ⟨ok_if_eq dX12_rule_6 (by decide), List.forall_mem_cons.mpr ⟨ok_iload_n dX12_rule_9 rfl, List.forall_mem_cons.mpr ⟨ok_iload_n dX12_rule_10 rfl, List.forall_mem_cons.mpr ⟨ok_iconst dX12_rule_11 (by decide), List.forall_mem_cons.mpr ⟨ok_ic_ge dX12_rule_12 (by decide), List.forall_mem_cons.mpr ⟨ok_bipush dX12_rule_15 (by decide), List.forall_mem_cons.mpr ⟨ok_goto dX12_rule_17 (by decide), List.forall_mem_cons.mpr ⟨ok_iload_n dX12_rule_20 rfl, List.forall_mem_cons.mpr ⟨ok_iconst dX12_rule_21 (by decide), List.forall_mem_cons.mpr ⟨ok_isub dX12_rule_22, List.forall_mem_cons.mpr ⟨ok_iload_n dX12_rule_23 rfl, List.forall_mem_cons.mpr ⟨ok_iconst dX12_rule_24 (by decide), List.forall_mem_cons.mpr ⟨ok_ic_ge dX12_rule_25 (by decide), List.forall_mem_cons.mpr ⟨ok_sipush dX12_rule_28 (by decide), List.forall_mem_cons.mpr ⟨ok_goto dX12_rule_31 (by decide), List.forall_mem_cons.mpr ⟨ok_iload_n dX12_rule_34 rfl, List.forall_mem_cons.mpr ⟨ok_iconst dX12_rule_35 (by decide), List.forall_mem_cons.mpr ⟨ok_ic_ne dX12_rule_36 (by decide), List.forall_mem_cons.mpr ⟨ok_bipush dX12_rule_39 (by decide), List.forall_mem_cons.mpr ⟨ok_goto dX12_rule_41 (by decide), fun _ h => absurd h List.not_mem_nil⟩⟩⟩⟩⟩⟩⟩⟩⟩⟩⟩⟩⟩⟩⟩⟩⟩⟩⟩⟩⟩⟩⟩⟩
def kX12_rule_1 : List (Nat × zT) := [(44, a_i 500 47), (47, a_call 138 3 50 0 0), (50, a_if_ne 55 53), (53, a_i (-1) 54), (54, a_iret false), (55, a_aload 0 56), (56, a_getR 12 15 59), (59, a_iload 1 60), (60, a_iald 61), (61, a_istore 3 62), (62, a_aload 0 63), (63, a_getR 12 15 66), (66, a_iload 1 67), (67, a_iload 2 68), (68, a_iast 69), (69, a_iload 3 70), (70, a_iret false)]
theorem oX12_rule_1 : ∀ q ∈ kX12_rule_1, zSnd zty false RX12 cX12_rule 4 (some .int) false q := List.forall_mem_cons.mpr ⟨ok_sipush dX12_rule_44 (by decide), List.forall_mem_cons.mpr ⟨ok_callS dX12_rule_47 rfl w1084 w1082 w1083 w13 (by decide +kernel) (by decide), List.forall_mem_cons.mpr ⟨ok_if_ne dX12_rule_50 (by decide), List.forall_mem_cons.mpr ⟨ok_iconst dX12_rule_53 (by decide), List.forall_mem_cons.mpr ⟨ok_iret (bz := false) dX12_rule_54 rfl, List.forall_mem_cons.mpr ⟨ok_aload_n dX12_rule_55 rfl, List.forall_mem_cons.mpr ⟨ok_getR dX12_rule_56 rfl in12 (by decide) rfl w972, List.forall_mem_cons.mpr ⟨ok_iload_n dX12_rule_59 rfl, List.forall_mem_cons.mpr ⟨ok_iald dX12_rule_60, List.forall_mem_cons.mpr ⟨ok_istore_n dX12_rule_61 rfl (by decide), List.forall_mem_cons.mpr ⟨ok_aload_n dX12_rule_62 rfl, List.forall_mem_cons.mpr ⟨ok_getR dX12_rule_63 rfl in12 (by decide) rfl w972, List.forall_mem_cons.mpr ⟨ok_iload_n dX12_rule_66 rfl, List.forall_mem_cons.mpr ⟨ok_iload_n dX12_rule_67 rfl, List.forall_mem_cons.mpr ⟨ok_iast dX12_rule_68, List.forall_mem_cons.mpr ⟨ok_iload_n dX12_rule_69 rfl, List.forall_mem_cons.mpr ⟨ok_iret (bz := false) dX12_rule_70 rfl, fun _ h => absurd h List.not_mem_nil⟩⟩⟩⟩⟩⟩⟩⟩⟩⟩⟩⟩⟩⟩⟩⟩⟩
def kX12_rule : List (Nat × zT) := kX12_rule_0 ++ (kX12_rule_1)
theorem qX12_rule_0 : ∀ q ∈ kX12_rule_0, q ∈ kX12_rule := fun _ h => (List.mem_append_left _ h)
theorem tX12_rule_0 : (0, a_iload 1 1) ∈ kX12_rule := qX12_rule_0 _ (List.mem_of_getElem? (i := 0) rfl)
theorem tX12_rule_1 : (1, a_i 0 2) ∈ kX12_rule := qX12_rule_0 _ (List.mem_of_getElem? (i := 1) rfl)
theorem tX12_rule_2 : (2, a_i 4 3) ∈ kX12_rule := qX12_rule_0 _ (List.mem_of_getElem? (i := 2) rfl)
theorem tX12_rule_3 : (3, a_call 138 3 6 0 0) ∈ kX12_rule := qX12_rule_0 _ (List.mem_of_getElem? (i := 3) rfl)
theorem tX12_rule_6 : (6, a_if_eq 53 9) ∈ kX12_rule := qX12_rule_0 _ (List.mem_of_getElem? (i := 4) rfl)
theorem tX12_rule_9 : (9, a_iload 2 10) ∈ kX12_rule := qX12_rule_0 _ (List.mem_of_getElem? (i := 5) rfl)
theorem tX12_rule_10 : (10, a_iload 1 11) ∈ kX12_rule := qX12_rule_0 _ (List.mem_of_getElem? (i := 6) rfl)
theorem tX12_rule_11 : (11, a_i 3 12) ∈ kX12_rule := qX12_rule_0 _ (List.mem_of_getElem? (i := 7) rfl)
theorem tX12_rule_12 : (12, a_ic_ge 20 15) ∈ kX12_rule := qX12_rule_0 _ (List.mem_of_getElem? (i := 8) rfl)
theorem tX12_rule_15 : (15, a_i 50 17) ∈ kX12_rule := qX12_rule_0 _ (List.mem_of_getElem? (i := 9) rfl)
theorem tX12_rule_17 : (17, a_goto 23) ∈ kX12_rule := qX12_rule_0 _ (List.mem_of_getElem? (i := 10) rfl)
theorem tX12_rule_20 : (20, a_iload 1 21) ∈ kX12_rule := qX12_rule_0 _ (List.mem_of_getElem? (i := 11) rfl)
theorem tX12_rule_21 : (21, a_i 3 22) ∈ kX12_rule := qX12_rule_0 _ (List.mem_of_getElem? (i := 12) rfl)
theorem tX12_rule_22 : (22, a_ii (fun x y => x - y) 23) ∈ kX12_rule := qX12_rule_0 _ (List.mem_of_getElem? (i := 13) rfl)
theorem tX12_rule_23 : (23, a_iload 1 24) ∈ kX12_rule := qX12_rule_0 _ (List.mem_of_getElem? (i := 14) rfl)
theorem tX12_rule_24 : (24, a_i 3 25) ∈ kX12_rule := qX12_rule_0 _ (List.mem_of_getElem? (i := 15) rfl)
theorem tX12_rule_25 : (25, a_ic_ge 34 28) ∈ kX12_rule := qX12_rule_0 _ (List.mem_of_getElem? (i := 16) rfl)
theorem tX12_rule_28 : (28, a_i 300 31) ∈ kX12_rule := qX12_rule_0 _ (List.mem_of_getElem? (i := 17) rfl)
theorem tX12_rule_31 : (31, a_goto 47) ∈ kX12_rule := qX12_rule_0 _ (List.mem_of_getElem? (i := 18) rfl)
theorem tX12_rule_34 : (34, a_iload 1 35) ∈ kX12_rule := qX12_rule_0 _ (List.mem_of_getElem? (i := 19) rfl)
theorem tX12_rule_35 : (35, a_i 3 36) ∈ kX12_rule := qX12_rule_0 _ (List.mem_of_getElem? (i := 20) rfl)
theorem tX12_rule_36 : (36, a_ic_ne 44 39) ∈ kX12_rule := qX12_rule_0 _ (List.mem_of_getElem? (i := 21) rfl)
theorem tX12_rule_39 : (39, a_i 9 41) ∈ kX12_rule := qX12_rule_0 _ (List.mem_of_getElem? (i := 22) rfl)
theorem tX12_rule_41 : (41, a_goto 47) ∈ kX12_rule := qX12_rule_0 _ (List.mem_of_getElem? (i := 23) rfl)
theorem qX12_rule_1 : ∀ q ∈ kX12_rule_1, q ∈ kX12_rule := fun _ h => (List.mem_append_right _ h)
theorem tX12_rule_44 : (44, a_i 500 47) ∈ kX12_rule := qX12_rule_1 _ (List.mem_of_getElem? (i := 0) rfl)
theorem tX12_rule_47 : (47, a_call 138 3 50 0 0) ∈ kX12_rule := qX12_rule_1 _ (List.mem_of_getElem? (i := 1) rfl)
theorem tX12_rule_50 : (50, a_if_ne 55 53) ∈ kX12_rule := qX12_rule_1 _ (List.mem_of_getElem? (i := 2) rfl)
theorem tX12_rule_53 : (53, a_i (-1) 54) ∈ kX12_rule := qX12_rule_1 _ (List.mem_of_getElem? (i := 3) rfl)
theorem tX12_rule_54 : (54, a_iret false) ∈ kX12_rule := qX12_rule_1 _ (List.mem_of_getElem? (i := 4) rfl)
theorem tX12_rule_55 : (55, a_aload 0 56) ∈ kX12_rule := qX12_rule_1 _ (List.mem_of_getElem? (i := 5) rfl)
theorem tX12_rule_56 : (56, a_getR 12 15 59) ∈ kX12_rule := qX12_rule_1 _ (List.mem_of_getElem? (i := 6) rfl)
theorem tX12_rule_59 : (59, a_iload 1 60) ∈ kX12_rule := qX12_rule_1 _ (List.mem_of_getElem? (i := 7) rfl)
theorem tX12_rule_60 : (60, a_iald 61) ∈ kX12_rule := qX12_rule_1 _ (List.mem_of_getElem? (i := 8) rfl)
theorem tX12_rule_61 : (61, a_istore 3 62) ∈ kX12_rule := qX12_rule_1 _ (List.mem_of_getElem? (i := 9) rfl)
theorem tX12_rule_62 : (62, a_aload 0 63) ∈ kX12_rule := qX12_rule_1 _ (List.mem_of_getElem? (i := 10) rfl)
theorem tX12_rule_63 : (63, a_getR 12 15 66) ∈ kX12_rule := qX12_rule_1 _ (List.mem_of_getElem? (i := 11) rfl)
theorem tX12_rule_66 : (66, a_iload 1 67) ∈ kX12_rule := qX12_rule_1 _ (List.mem_of_getElem? (i := 12) rfl)
theorem tX12_rule_67 : (67, a_iload 2 68) ∈ kX12_rule := qX12_rule_1 _ (List.mem_of_getElem? (i := 13) rfl)
theorem tX12_rule_68 : (68, a_iast 69) ∈ kX12_rule := qX12_rule_1 _ (List.mem_of_getElem? (i := 14) rfl)
theorem tX12_rule_69 : (69, a_iload 3 70) ∈ kX12_rule := qX12_rule_1 _ (List.mem_of_getElem? (i := 15) rfl)
theorem tX12_rule_70 : (70, a_iret false) ∈ kX12_rule := qX12_rule_1 _ (List.mem_of_getElem? (i := 16) rfl)
theorem oX12_rule : ∀ q ∈ kX12_rule, zSnd zty false RX12 cX12_rule 4 (some .int) false q := List.forall_mem_append.mpr ⟨oX12_rule_0, oX12_rule_1⟩
theorem dX12_less_0 : decode cX12_less 0 = .ok (.iload_n 0, 1) := by decide +kernel
theorem dX12_less_1 : decode cX12_less 1 = .ok (.iload_n 1, 1) := by decide +kernel
theorem dX12_less_2 : decode cX12_less 2 = .ok (.if_icmp .ge 7, 3) := by decide +kernel
theorem dX12_less_5 : decode cX12_less 5 = .ok (.iload_n 0, 1) := by decide +kernel
theorem dX12_less_6 : decode cX12_less 6 = .ok (.goto 4, 3) := by decide +kernel
theorem dX12_less_9 : decode cX12_less 9 = .ok (.iload_n 1, 1) := by decide +kernel
theorem dX12_less_10 : decode cX12_less 10 = .ok (.ireturn, 1) := by decide +kernel
def kX12_less_0 : List (Nat × zT) := [(0, a_iload 0 1), (1, a_iload 1 2), (2, a_ic_ge 9 5), (5, a_iload 0 6), (6, a_goto 10), (9, a_iload 1 10), (10, a_iret false)]
theorem oX12_less_0 : ∀ q ∈ kX12_less_0, zSnd zty false RX12 cX12_less 2 (some .int) false q := List.forall_mem_cons.mpr ⟨ok_iload_n dX12_less_0 rfl, List.forall_mem_cons.mpr ⟨ok_iload_n dX12_less_1 rfl, List.forall_mem_cons.mpr ⟨ok_ic_ge dX12_less_2 (by decide), List.forall_mem_cons.mpr ⟨ok_iload_n dX12_less_5 rfl, List.forall_mem_cons.mpr ⟨ok_goto dX12_less_6 (by decide), List.forall_mem_cons.mpr ⟨ok_iload_n dX12_less_9 rfl, List.forall_mem_cons.mpr ⟨ok_iret (bz := false) dX12_less_10 rfl, fun _ h => absurd h List.not_mem_nil⟩⟩⟩⟩⟩⟩⟩
def kX12_less : List (Nat × zT) := kX12_less_0
theorem qX12_less_0 : ∀ q ∈ kX12_less_0, q ∈ kX12_less := fun _ h => h
theorem tX12_less_0 : (0, a_iload 0 1) ∈ kX12_less := qX12_less_0 _ (List.mem_of_getElem? (i := 0) rfl)
theorem tX12_less_1 : (1, a_iload 1 2) ∈ kX12_less := qX12_less_0 _ (List.mem_of_getElem? (i := 1) rfl)
theorem tX12_less_2 : (2, a_ic_ge 9 5) ∈ kX12_less := qX12_less_0 _ (List.mem_of_getElem? (i := 2) rfl)
theorem tX12_less_5 : (5, a_iload 0 6) ∈ kX12_less := qX12_less_0 _ (List.mem_of_getElem? (i := 3) rfl)
theorem tX12_less_6 : (6, a_goto 10) ∈ kX12_less := qX12_less_0 _ (List.mem_of_getElem? (i := 4) rfl)
theorem tX12_less_9 : (9, a_iload 1 10) ∈ kX12_less := qX12_less_0 _ (List.mem_of_getElem? (i := 5) rfl)
theorem tX12_less_10 : (10, a_iret false) ∈ kX12_less := qX12_less_0 _ (List.mem_of_getElem? (i := 6) rfl)
theorem oX12_less : ∀ q ∈ kX12_less, zSnd zty false RX12 cX12_less 2 (some .int) false q := oX12_less_0
theorem dX12_cost_0 : decode cX12_cost 0 = .ok (.aload_n 0, 1) := by decide +kernel
theorem dX12_cost_1 : decode cX12_cost 1 = .ok (.getfield 65, 3) := by decide +kernel
theorem dX12_cost_4 : decode cX12_cost 4 = .ok (.iload_n 2, 1) := by decide +kernel
theorem dX12_cost_5 : decode cX12_cost 5 = .ok (.iaload, 1) := by decide +kernel
theorem dX12_cost_6 : decode cX12_cost 6 = .ok (.istore_n 3, 1) := by decide +kernel
theorem dX12_cost_7 : decode cX12_cost 7 = .ok (.aload_n 0, 1) := by decide +kernel
theorem dX12_cost_8 : decode cX12_cost 8 = .ok (.getfield 68, 3) := by decide +kernel
theorem dX12_cost_11 : decode cX12_cost 11 = .ok (.iload_n 2, 1) := by decide +kernel
theorem dX12_cost_12 : decode cX12_cost 12 = .ok (.iaload, 1) := by decide +kernel
theorem dX12_cost_13 : decode cX12_cost 13 = .ok (.istore 4, 2) := by decide +kernel
theorem dX12_cost_15 : decode cX12_cost 15 = .ok (.iload_n 2, 1) := by decide +kernel
theorem dX12_cost_16 : decode cX12_cost 16 = .ok (.bipush 9, 2) := by decide +kernel
theorem dX12_cost_18 : decode cX12_cost 18 = .ok (.if_icmp .ge 14, 3) := by decide +kernel
theorem dX12_cost_21 : decode cX12_cost 21 = .ok (.aload_n 0, 1) := by decide +kernel
theorem dX12_cost_22 : decode cX12_cost 22 = .ok (.getfield 65, 3) := by decide +kernel
theorem dX12_cost_25 : decode cX12_cost 25 = .ok (.iload_n 2, 1) := by decide +kernel
theorem dX12_cost_26 : decode cX12_cost 26 = .ok (.iconst 1, 1) := by decide +kernel
theorem dX12_cost_27 : decode cX12_cost 27 = .ok (.iadd, 1) := by decide +kernel
theorem dX12_cost_28 : decode cX12_cost 28 = .ok (.iaload, 1) := by decide +kernel
theorem dX12_cost_29 : decode cX12_cost 29 = .ok (.goto 4, 3) := by decide +kernel
theorem dX12_cost_32 : decode cX12_cost 32 = .ok (.iconst 0, 1) := by decide +kernel
theorem dX12_cost_33 : decode cX12_cost 33 = .ok (.istore 5, 2) := by decide +kernel
theorem dX12_cost_35 : decode cX12_cost 35 = .ok (.iload_n 2, 1) := by decide +kernel
theorem dX12_cost_36 : decode cX12_cost 36 = .ok (.bipush 9, 2) := by decide +kernel
theorem dX12_cost_38 : decode cX12_cost 38 = .ok (.if_icmp .ge 14, 3) := by decide +kernel
theorem dX12_cost_41 : decode cX12_cost 41 = .ok (.aload_n 0, 1) := by decide +kernel
theorem dX12_cost_42 : decode cX12_cost 42 = .ok (.getfield 68, 3) := by decide +kernel
theorem dX12_cost_45 : decode cX12_cost 45 = .ok (.iload_n 2, 1) := by decide +kernel
theorem dX12_cost_46 : decode cX12_cost 46 = .ok (.iconst 1, 1) := by decide +kernel
theorem dX12_cost_47 : decode cX12_cost 47 = .ok (.iadd, 1) := by decide +kernel
theorem dX12_cost_48 : decode cX12_cost 48 = .ok (.iaload, 1) := by decide +kernel
theorem dX12_cost_49 : decode cX12_cost 49 = .ok (.goto 4, 3) := by decide +kernel
theorem dX12_cost_52 : decode cX12_cost 52 = .ok (.iconst 0, 1) := by decide +kernel
theorem dX12_cost_53 : decode cX12_cost 53 = .ok (.istore 6, 2) := by decide +kernel
theorem dX12_cost_55 : decode cX12_cost 55 = .ok (.iload_n 1, 1) := by decide +kernel
theorem dX12_cost_56 : decode cX12_cost 56 = .ok (.lookupswitch 309 #[(38, 78), (48, 300), (49, 300), (63, 241), (94, 196), (124, 137), (126, 68)], 68) := by decide +kernel
theorem dX12_cost_124 : decode cX12_cost 124 = .ok (.iload 4, 2) := by decide +kernel
theorem dX12_cost_126 : decode cX12_cost 126 = .ok (.istore 7, 2) := by decide +kernel
theorem dX12_cost_128 : decode cX12_cost 128 = .ok (.iload_n 3, 1) := by decide +kernel
theorem dX12_cost_129 : decode cX12_cost 129 = .ok (.istore 8, 2) := by decide +kernel
theorem dX12_cost_131 : decode cX12_cost 131 = .ok (.goto 245, 3) := by decide +kernel
theorem dX12_cost_134 : decode cX12_cost 134 = .ok (.aload_n 0, 1) := by decide +kernel
theorem dX12_cost_135 : decode cX12_cost 135 = .ok (.getfield 43, 3) := by decide +kernel
theorem dX12_cost_138 : decode cX12_cost 138 = .ok (.iconst 1, 1) := by decide +kernel
theorem dX12_cost_139 : decode cX12_cost 139 = .ok (.iaload, 1) := by decide +kernel
theorem dX12_cost_140 : decode cX12_cost 140 = .ok (.iload_n 3, 1) := by decide +kernel
theorem dX12_cost_141 : decode cX12_cost 141 = .ok (.iadd, 1) := by decide +kernel
theorem dX12_cost_142 : decode cX12_cost 142 = .ok (.iload 5, 2) := by decide +kernel
theorem dX12_cost_144 : decode cX12_cost 144 = .ok (.iadd, 1) := by decide +kernel
theorem dX12_cost_145 : decode cX12_cost 145 = .ok (.aload_n 0, 1) := by decide +kernel
theorem dX12_cost_146 : decode cX12_cost 146 = .ok (.getfield 43, 3) := by decide +kernel
theorem dX12_cost_149 : decode cX12_cost 149 = .ok (.iconst 4, 1) := by decide +kernel
theorem dX12_cost_150 : decode cX12_cost 150 = .ok (.iaload, 1) := by decide +kernel
theorem dX12_cost_151 : decode cX12_cost 151 = .ok (.iload 4, 2) := by decide +kernel
theorem dX12_cost_153 : decode cX12_cost 153 = .ok (.iadd, 1) := by decide +kernel
theorem dX12_cost_154 : decode cX12_cost 154 = .ok (.iload 6, 2) := by decide +kernel
theorem dX12_cost_156 : decode cX12_cost 156 = .ok (.iadd, 1) := by decide +kernel
theorem dX12_cost_157 : decode cX12_cost 157 = .ok (.invokestatic 192, 3) := by decide +kernel
theorem dX12_cost_160 : decode cX12_cost 160 = .ok (.istore 7, 2) := by decide +kernel
theorem dX12_cost_162 : decode cX12_cost 162 = .ok (.aload_n 0, 1) := by decide +kernel
theorem dX12_cost_163 : decode cX12_cost 163 = .ok (.getfield 43, 3) := by decide +kernel
theorem dX12_cost_166 : decode cX12_cost 166 = .ok (.iconst 3, 1) := by decide +kernel
theorem dX12_cost_167 : decode cX12_cost 167 = .ok (.iaload, 1) := by decide +kernel
theorem dX12_cost_168 : decode cX12_cost 168 = .ok (.iload_n 3, 1) := by decide +kernel
theorem dX12_cost_169 : decode cX12_cost 169 = .ok (.iadd, 1) := by decide +kernel
theorem dX12_cost_170 : decode cX12_cost 170 = .ok (.iload 5, 2) := by decide +kernel
theorem dX12_cost_172 : decode cX12_cost 172 = .ok (.iadd, 1) := by decide +kernel
theorem dX12_cost_173 : decode cX12_cost 173 = .ok (.aload_n 0, 1) := by decide +kernel
theorem dX12_cost_174 : decode cX12_cost 174 = .ok (.getfield 43, 3) := by decide +kernel
theorem dX12_cost_177 : decode cX12_cost 177 = .ok (.iconst 2, 1) := by decide +kernel
theorem dX12_cost_178 : decode cX12_cost 178 = .ok (.iaload, 1) := by decide +kernel
theorem dX12_cost_179 : decode cX12_cost 179 = .ok (.iload 4, 2) := by decide +kernel
theorem dX12_cost_181 : decode cX12_cost 181 = .ok (.iadd, 1) := by decide +kernel
theorem dX12_cost_182 : decode cX12_cost 182 = .ok (.iload 6, 2) := by decide +kernel
theorem dX12_cost_184 : decode cX12_cost 184 = .ok (.iadd, 1) := by decide +kernel
theorem dX12_cost_185 : decode cX12_cost 185 = .ok (.invokestatic 192, 3) := by decide +kernel
theorem dX12_cost_188 : decode cX12_cost 188 = .ok (.istore 8, 2) := by decide +kernel
theorem dX12_cost_190 : decode cX12_cost 190 = .ok (.goto 186, 3) := by decide +kernel
theorem dX12_cost_193 : decode cX12_cost 193 = .ok (.aload_n 0, 1) := by decide +kernel
theorem dX12_cost_194 : decode cX12_cost 194 = .ok (.getfield 43, 3) := by decide +kernel
theorem dX12_cost_197 : decode cX12_cost 197 = .ok (.iconst 2, 1) := by decide +kernel
theorem dX12_cost_198 : decode cX12_cost 198 = .ok (.iaload, 1) := by decide +kernel
theorem dX12_cost_199 : decode cX12_cost 199 = .ok (.iload_n 3, 1) := by decide +kernel
theorem dX12_cost_200 : decode cX12_cost 200 = .ok (.iadd, 1) := by decide +kernel
theorem dX12_cost_201 : decode cX12_cost 201 = .ok (.iload 5, 2) := by decide +kernel
theorem dX12_cost_203 : decode cX12_cost 203 = .ok (.iadd, 1) := by decide +kernel
theorem dX12_cost_204 : decode cX12_cost 204 = .ok (.aload_n 0, 1) := by decide +kernel
theorem dX12_cost_205 : decode cX12_cost 205 = .ok (.getfield 43, 3) := by decide +kernel
theorem dX12_cost_208 : decode cX12_cost 208 = .ok (.iconst 3, 1) := by decide +kernel
theorem dX12_cost_209 : decode cX12_cost 209 = .ok (.iaload, 1) := by decide +kernel
theorem dX12_cost_210 : decode cX12_cost 210 = .ok (.iload 4, 2) := by decide +kernel
theorem dX12_cost_212 : decode cX12_cost 212 = .ok (.iadd, 1) := by decide +kernel
theorem dX12_cost_213 : decode cX12_cost 213 = .ok (.iload 6, 2) := by decide +kernel
theorem dX12_cost_215 : decode cX12_cost 215 = .ok (.iadd, 1) := by decide +kernel
theorem dX12_cost_216 : decode cX12_cost 216 = .ok (.invokestatic 192, 3) := by decide +kernel
theorem dX12_cost_219 : decode cX12_cost 219 = .ok (.istore 7, 2) := by decide +kernel
theorem dX12_cost_221 : decode cX12_cost 221 = .ok (.aload_n 0, 1) := by decide +kernel
theorem dX12_cost_222 : decode cX12_cost 222 = .ok (.getfield 43, 3) := by decide +kernel
theorem dX12_cost_225 : decode cX12_cost 225 = .ok (.iconst 4, 1) := by decide +kernel
theorem dX12_cost_226 : decode cX12_cost 226 = .ok (.iaload, 1) := by decide +kernel
theorem dX12_cost_227 : decode cX12_cost 227 = .ok (.iload_n 3, 1) := by decide +kernel
theorem dX12_cost_228 : decode cX12_cost 228 = .ok (.iadd, 1) := by decide +kernel
theorem dX12_cost_229 : decode cX12_cost 229 = .ok (.iload 5, 2) := by decide +kernel
theorem dX12_cost_231 : decode cX12_cost 231 = .ok (.iadd, 1) := by decide +kernel
theorem dX12_cost_232 : decode cX12_cost 232 = .ok (.aload_n 0, 1) := by decide +kernel
theorem dX12_cost_233 : decode cX12_cost 233 = .ok (.getfield 43, 3) := by decide +kernel
theorem dX12_cost_236 : decode cX12_cost 236 = .ok (.iconst 1, 1) := by decide +kernel
theorem dX12_cost_237 : decode cX12_cost 237 = .ok (.iaload, 1) := by decide +kernel
theorem dX12_cost_238 : decode cX12_cost 238 = .ok (.iload 4, 2) := by decide +kernel
theorem dX12_cost_240 : decode cX12_cost 240 = .ok (.iadd, 1) := by decide +kernel
theorem dX12_cost_241 : decode cX12_cost 241 = .ok (.iload 6, 2) := by decide +kernel
theorem dX12_cost_243 : decode cX12_cost 243 = .ok (.iadd, 1) := by decide +kernel
theorem dX12_cost_244 : decode cX12_cost 244 = .ok (.invokestatic 192, 3) := by decide +kernel
theorem dX12_cost_247 : decode cX12_cost 247 = .ok (.istore 8, 2) := by decide +kernel
theorem dX12_cost_249 : decode cX12_cost 249 = .ok (.goto 127, 3) := by decide +kernel
theorem dX12_cost_252 : decode cX12_cost 252 = .ok (.aload_n 0, 1) := by decide +kernel
theorem dX12_cost_253 : decode cX12_cost 253 = .ok (.getfield 43, 3) := by decide +kernel
theorem dX12_cost_256 : decode cX12_cost 256 = .ok (.iconst 5, 1) := by decide +kernel
theorem dX12_cost_257 : decode cX12_cost 257 = .ok (.iaload, 1) := by decide +kernel
theorem dX12_cost_258 : decode cX12_cost 258 = .ok (.iload_n 3, 1) := by decide +kernel
theorem dX12_cost_259 : decode cX12_cost 259 = .ok (.iload 5, 2) := by decide +kernel
theorem dX12_cost_261 : decode cX12_cost 261 = .ok (.iadd, 1) := by decide +kernel
theorem dX12_cost_262 : decode cX12_cost 262 = .ok (.iload 4, 2) := by decide +kernel
theorem dX12_cost_264 : decode cX12_cost 264 = .ok (.iload 6, 2) := by decide +kernel
theorem dX12_cost_266 : decode cX12_cost 266 = .ok (.iadd, 1) := by decide +kernel
theorem dX12_cost_267 : decode cX12_cost 267 = .ok (.invokestatic 192, 3) := by decide +kernel
theorem dX12_cost_270 : decode cX12_cost 270 = .ok (.iadd, 1) := by decide +kernel
theorem dX12_cost_271 : decode cX12_cost 271 = .ok (.istore 7, 2) := by decide +kernel
theorem dX12_cost_273 : decode cX12_cost 273 = .ok (.aload_n 0, 1) := by decide +kernel
theorem dX12_cost_274 : decode cX12_cost 274 = .ok (.getfield 43, 3) := by decide +kernel
theorem dX12_cost_277 : decode cX12_cost 277 = .ok (.iconst 5, 1) := by decide +kernel
theorem dX12_cost_278 : decode cX12_cost 278 = .ok (.iaload, 1) := by decide +kernel
theorem dX12_cost_279 : decode cX12_cost 279 = .ok (.iload 4, 2) := by decide +kernel
theorem dX12_cost_281 : decode cX12_cost 281 = .ok (.iload 5, 2) := by decide +kernel
theorem dX12_cost_283 : decode cX12_cost 283 = .ok (.iadd, 1) := by decide +kernel
theorem dX12_cost_284 : decode cX12_cost 284 = .ok (.iload_n 3, 1) := by decide +kernel
theorem dX12_cost_285 : decode cX12_cost 285 = .ok (.iload 6, 2) := by decide +kernel
theorem dX12_cost_287 : decode cX12_cost 287 = .ok (.iadd, 1) := by decide +kernel
theorem dX12_cost_288 : decode cX12_cost 288 = .ok (.invokestatic 192, 3) := by decide +kernel
theorem dX12_cost_291 : decode cX12_cost 291 = .ok (.iadd, 1) := by decide +kernel
theorem dX12_cost_292 : decode cX12_cost 292 = .ok (.istore 8, 2) := by decide +kernel
theorem dX12_cost_294 : decode cX12_cost 294 = .ok (.goto 82, 3) := by decide +kernel
theorem dX12_cost_297 : decode cX12_cost 297 = .ok (.aload_n 0, 1) := by decide +kernel
theorem dX12_cost_298 : decode cX12_cost 298 = .ok (.getfield 43, 3) := by decide +kernel
theorem dX12_cost_301 : decode cX12_cost 301 = .ok (.bipush 6, 2) := by decide +kernel
theorem dX12_cost_303 : decode cX12_cost 303 = .ok (.iaload, 1) := by decide +kernel
theorem dX12_cost_304 : decode cX12_cost 304 = .ok (.iload_n 3, 1) := by decide +kernel
theorem dX12_cost_305 : decode cX12_cost 305 = .ok (.iload 4, 2) := by decide +kernel
theorem dX12_cost_307 : decode cX12_cost 307 = .ok (.invokestatic 192, 3) := by decide +kernel
theorem dX12_cost_310 : decode cX12_cost 310 = .ok (.iadd, 1) := by decide +kernel
theorem dX12_cost_311 : decode cX12_cost 311 = .ok (.iload 5, 2) := by decide +kernel
theorem dX12_cost_313 : decode cX12_cost 313 = .ok (.iadd, 1) := by decide +kernel
theorem dX12_cost_314 : decode cX12_cost 314 = .ok (.aload_n 0, 1) := by decide +kernel
theorem dX12_cost_315 : decode cX12_cost 315 = .ok (.getfield 65, 3) := by decide +kernel
theorem dX12_cost_318 : decode cX12_cost 318 = .ok (.iload_n 2, 1) := by decide +kernel
theorem dX12_cost_319 : decode cX12_cost 319 = .ok (.iconst 2, 1) := by decide +kernel
theorem dX12_cost_320 : decode cX12_cost 320 = .ok (.iadd, 1) := by decide +kernel
theorem dX12_cost_321 : decode cX12_cost 321 = .ok (.iaload, 1) := by decide +kernel
theorem dX12_cost_322 : decode cX12_cost 322 = .ok (.iadd, 1) := by decide +kernel
theorem dX12_cost_323 : decode cX12_cost 323 = .ok (.istore 7, 2) := by decide +kernel
theorem dX12_cost_325 : decode cX12_cost 325 = .ok (.aload_n 0, 1) := by decide +kernel
theorem dX12_cost_326 : decode cX12_cost 326 = .ok (.getfield 43, 3) := by decide +kernel
theorem dX12_cost_329 : decode cX12_cost 329 = .ok (.bipush 6, 2) := by decide +kernel
theorem dX12_cost_331 : decode cX12_cost 331 = .ok (.iaload, 1) := by decide +kernel
theorem dX12_cost_332 : decode cX12_cost 332 = .ok (.iload_n 3, 1) := by decide +kernel
theorem dX12_cost_333 : decode cX12_cost 333 = .ok (.iload 4, 2) := by decide +kernel
theorem dX12_cost_335 : decode cX12_cost 335 = .ok (.invokestatic 192, 3) := by decide +kernel
theorem dX12_cost_338 : decode cX12_cost 338 = .ok (.iadd, 1) := by decide +kernel
theorem dX12_cost_339 : decode cX12_cost 339 = .ok (.iload 6, 2) := by decide +kernel
theorem dX12_cost_341 : decode cX12_cost 341 = .ok (.iadd, 1) := by decide +kernel
theorem dX12_cost_342 : decode cX12_cost 342 = .ok (.aload_n 0, 1) := by decide +kernel
theorem dX12_cost_343 : decode cX12_cost 343 = .ok (.getfield 68, 3) := by decide +kernel
theorem dX12_cost_346 : decode cX12_cost 346 = .ok (.iload_n 2, 1) := by decide +kernel
theorem dX12_cost_347 : decode cX12_cost 347 = .ok (.iconst 2, 1) := by decide +kernel
theorem dX12_cost_348 : decode cX12_cost 348 = .ok (.iadd, 1) := by decide +kernel
theorem dX12_cost_349 : decode cX12_cost 349 = .ok (.iaload, 1) := by decide +kernel
theorem dX12_cost_350 : decode cX12_cost 350 = .ok (.iadd, 1) := by decide +kernel
theorem dX12_cost_351 : decode cX12_cost 351 = .ok (.istore 8, 2) := by decide +kernel
theorem dX12_cost_353 : decode cX12_cost 353 = .ok (.goto 23, 3) := by decide +kernel
theorem dX12_cost_356 : decode cX12_cost 356 = .ok (.iconst 0, 1) := by decide +kernel
theorem dX12_cost_357 : decode cX12_cost 357 = .ok (.istore 7, 2) := by decide +kernel
theorem dX12_cost_359 : decode cX12_cost 359 = .ok (.iconst 0, 1) := by decide +kernel
theorem dX12_cost_360 : decode cX12_cost 360 = .ok (.istore 8, 2) := by decide +kernel
theorem dX12_cost_362 : decode cX12_cost 362 = .ok (.goto 14, 3) := by decide +kernel
theorem dX12_cost_365 : decode cX12_cost 365 = .ok (.iconst 0, 1) := by decide +kernel
theorem dX12_cost_366 : decode cX12_cost 366 = .ok (.istore 7, 2) := by decide +kernel
theorem dX12_cost_368 : decode cX12_cost 368 = .ok (.aload_n 0, 1) := by decide +kernel
theorem dX12_cost_369 : decode cX12_cost 369 = .ok (.getfield 43, 3) := by decide +kernel
theorem dX12_cost_372 : decode cX12_cost 372 = .ok (.iconst 0, 1) := by decide +kernel
theorem dX12_cost_373 : decode cX12_cost 373 = .ok (.iaload, 1) := by decide +kernel
theorem dX12_cost_374 : decode cX12_cost 374 = .ok (.istore 8, 2) := by decide +kernel
theorem dX12_cost_376 : decode cX12_cost 376 = .ok (.aload_n 0, 1) := by decide +kernel
theorem dX12_cost_377 : decode cX12_cost 377 = .ok (.getfield 65, 3) := by decide +kernel
theorem dX12_cost_380 : decode cX12_cost 380 = .ok (.iload_n 2, 1) := by decide +kernel
theorem dX12_cost_381 : decode cX12_cost 381 = .ok (.iload 7, 2) := by decide +kernel
theorem dX12_cost_383 : decode cX12_cost 383 = .ok (.iload 8, 2) := by decide +kernel
theorem dX12_cost_385 : decode cX12_cost 385 = .ok (.aload_n 0, 1) := by decide +kernel
theorem dX12_cost_386 : decode cX12_cost 386 = .ok (.getfield 43, 3) := by decide +kernel
theorem dX12_cost_389 : decode cX12_cost 389 = .ok (.iconst 0, 1) := by decide +kernel
theorem dX12_cost_390 : decode cX12_cost 390 = .ok (.iaload, 1) := by decide +kernel
theorem dX12_cost_391 : decode cX12_cost 391 = .ok (.iadd, 1) := by decide +kernel
theorem dX12_cost_392 : decode cX12_cost 392 = .ok (.invokestatic 192, 3) := by decide +kernel
theorem dX12_cost_395 : decode cX12_cost 395 = .ok (.iastore, 1) := by decide +kernel
theorem dX12_cost_396 : decode cX12_cost 396 = .ok (.aload_n 0, 1) := by decide +kernel
theorem dX12_cost_397 : decode cX12_cost 397 = .ok (.getfield 68, 3) := by decide +kernel
theorem dX12_cost_400 : decode cX12_cost 400 = .ok (.iload_n 2, 1) := by decide +kernel
theorem dX12_cost_401 : decode cX12_cost 401 = .ok (.iload 8, 2) := by decide +kernel
theorem dX12_cost_403 : decode cX12_cost 403 = .ok (.iload 7, 2) := by decide +kernel
theorem dX12_cost_405 : decode cX12_cost 405 = .ok (.aload_n 0, 1) := by decide +kernel
theorem dX12_cost_406 : decode cX12_cost 406 = .ok (.getfield 43, 3) := by decide +kernel
theorem dX12_cost_409 : decode cX12_cost 409 = .ok (.iconst 0, 1) := by decide +kernel
theorem dX12_cost_410 : decode cX12_cost 410 = .ok (.iaload, 1) := by decide +kernel
theorem dX12_cost_411 : decode cX12_cost 411 = .ok (.iadd, 1) := by decide +kernel
theorem dX12_cost_412 : decode cX12_cost 412 = .ok (.invokestatic 192, 3) := by decide +kernel
theorem dX12_cost_415 : decode cX12_cost 415 = .ok (.iastore, 1) := by decide +kernel
theorem dX12_cost_416 : decode cX12_cost 416 = .ok (.return_, 1) := by decide +kernel
def kX12_cost_0 : List (Nat × zT) := [(0, a_aload 0 1), (1, a_getR 12 21 4), (4, a_iload 2 5), (5, a_iald 6), (6, a_istore 3 7), (7, a_aload 0 8), (8, a_getR 12 22 11), (11, a_iload 2 12), (12, a_iald 13), (13, a_istore 4 15), (15, a_iload 2 16), (16, a_i 9 18), (18, a_ic_ge 32 21), (21, a_aload 0 22), (22, a_getR 12 21 25), (25, a_iload 2 26), (26, a_i 1 27), (27, a_ii (fun x y => x + y) 28), (28, a_iald 29), (29, a_goto 33), (32, a_i 0 33), (33, a_istore 5 35), (35, a_iload 2 36), (36, a_i 9 38)]
theorem oX12_cost_0 : ∀ q ∈ kX12_cost_0, zSnd zty false RX12 cX12_cost 9 none false q := List.forall_mem_cons.mpr ⟨ok_aload_n dX12_cost_0 rfl, List.forall_mem_cons.mpr ⟨ok_getR dX12_cost_1 rfl in12 (by decide) rfl w978, List.forall_mem_cons.mpr ⟨ok_iload_n dX12_cost_4 rfl, List.forall_mem_cons.mpr ⟨ok_iald dX12_cost_5, List.forall_mem_cons.mpr ⟨ok_istore_n dX12_cost_6 rfl (by decide), List.forall_mem_cons.mpr ⟨ok_aload_n dX12_cost_7 rfl, List.forall_mem_cons.mpr ⟨ok_getR dX12_cost_8 rfl in12 (by decide) rfl w979, List.forall_mem_cons.mpr ⟨ok_iload_n dX12_cost_11 rfl, List.forall_mem_cons.mpr ⟨ok_iald dX12_cost_12, List.forall_mem_cons.mpr ⟨ok_istore dX12_cost_13 (by decide), List.forall_mem_cons.mpr ⟨ok_iload_n dX12_cost_15 rfl, List.forall_mem_cons.mpr ⟨ok_bipush dX12_cost_16 (by decide), List.forall_mem_cons.mpr ⟨ok_ic_ge dX12_cost_18 (by decide), List.forall_mem_cons.mpr ⟨ok_aload_n dX12_cost_21 rfl, List.forall_mem_cons.mpr ⟨ok_getR dX12_cost_22 rfl in12 (by decide) rfl w978, List.forall_mem_cons.mpr ⟨ok_iload_n dX12_cost_25 rfl, List.forall_mem_cons.mpr ⟨ok_iconst dX12_cost_26 (by decide), List.forall_mem_cons.mpr ⟨ok_iadd dX12_cost_27, List.forall_mem_cons.mpr ⟨ok_iald dX12_cost_28, List.forall_mem_cons.mpr ⟨ok_goto dX12_cost_29 (by decide), List.forall_mem_cons.mpr ⟨ok_iconst dX12_cost_32 (by decide), List.forall_mem_cons.mpr ⟨ok_istore dX12_cost_33 (by decide), List.forall_mem_cons.mpr ⟨ok_iload_n dX12_cost_35 rfl, List.forall_mem_cons.mpr ⟨ok_bipush dX12_cost_36 (by decide), fun _ h => absurd h List.not_mem_nil⟩⟩⟩⟩⟩⟩⟩⟩⟩⟩⟩⟩⟩⟩⟩⟩⟩⟩⟩⟩⟩⟩⟩⟩
def kX12_cost_1 : List (Nat × zT) := [(38, a_ic_ge 52 41), (41, a_aload 0 42), (42, a_getR 12 22 45), (45, a_iload 2 46), (46, a_i 1 47), (47, a_ii (fun x y => x + y) 48), (48, a_iald 49), (49, a_goto 53), (52, a_i 0 53), (53, a_istore 6 55), (55, a_iload 1 56), (56, a_sw [(38, 134), (48, 356), (49, 356), (63, 297), (94, 252), (124, 193), (126, 124)] 365), (124, a_iload 4 126), (126, a_istore 7 128), (128, a_iload 3 129), (129, a_istore 8 131), (131, a_goto 376), (134, a_aload 0 135), (135, a_getR 12 13 138), (138, a_i 1 139), (139, a_iald 140), (140, a_iload 3 141), (141, a_ii (fun x y => x + y) 142), (142, a_iload 5 144)]
theorem oX12_cost_1 : ∀ q ∈ kX12_cost_1, zSnd zty false RX12 cX12_cost 9 none false q := List.forall_mem_cons.mpr ⟨ok_ic_ge dX12_cost_38 (by decide), List.forall_mem_cons.mpr ⟨ok_aload_n dX12_cost_41 rfl, List.forall_mem_cons.mpr ⟨ok_getR dX12_cost_42 rfl in12 (by decide) rfl w979, List.forall_mem_cons.mpr ⟨ok_iload_n dX12_cost_45 rfl, List.forall_mem_cons.mpr ⟨ok_iconst dX12_cost_46 (by decide), List.forall_mem_cons.mpr ⟨ok_iadd dX12_cost_47, List.forall_mem_cons.mpr ⟨ok_iald dX12_cost_48, List.forall_mem_cons.mpr ⟨ok_goto dX12_cost_49 (by decide), List.forall_mem_cons.mpr ⟨ok_iconst dX12_cost_52 (by decide), List.forall_mem_cons.mpr ⟨ok_istore dX12_cost_53 (by decide), List.forall_mem_cons.mpr ⟨ok_iload_n dX12_cost_55 rfl, List.forall_mem_cons.mpr ⟨ok_lsw dX12_cost_56 (by decide) (by decide) (by decide) (by decide), List.forall_mem_cons.mpr ⟨ok_iload dX12_cost_124, List.forall_mem_cons.mpr ⟨ok_istore dX12_cost_126 (by decide), List.forall_mem_cons.mpr ⟨ok_iload_n dX12_cost_128 rfl, List.forall_mem_cons.mpr ⟨ok_istore dX12_cost_129 (by decide), List.forall_mem_cons.mpr ⟨ok_goto dX12_cost_131 (by decide), List.forall_mem_cons.mpr ⟨ok_aload_n dX12_cost_134 rfl, List.forall_mem_cons.mpr ⟨ok_getR dX12_cost_135 rfl in12 (by decide) rfl w970, List.forall_mem_cons.mpr ⟨ok_iconst dX12_cost_138 (by decide), List.forall_mem_cons.mpr ⟨ok_iald dX12_cost_139, List.forall_mem_cons.mpr ⟨ok_iload_n dX12_cost_140 rfl, List.forall_mem_cons.mpr ⟨ok_iadd dX12_cost_141, List.forall_mem_cons.mpr ⟨ok_iload dX12_cost_142, fun _ h => absurd h List.not_mem_nil⟩⟩⟩⟩⟩⟩⟩⟩⟩⟩⟩⟩⟩⟩⟩⟩⟩⟩⟩⟩⟩⟩⟩⟩
def kX12_cost_2 : List (Nat × zT) := [(144, a_ii (fun x y => x + y) 145), (145, a_aload 0 146), (146, a_getR 12 13 149), (149, a_i 4 150), (150, a_iald 151), (151, a_iload 4 153), (153, a_ii (fun x y => x + y) 154), (154, a_iload 6 156), (156, a_ii (fun x y => x + y) 157), (157, a_call 175 2 160 0 0), (160, a_istore 7 162), (162, a_aload 0 163), (163, a_getR 12 13 166), (166, a_i 3 167), (167, a_iald 168), (168, a_iload 3 169), (169, a_ii (fun x y => x + y) 170), (170, a_iload 5 172), (172, a_ii (fun x y => x + y) 173), (173, a_aload 0 174), (174, a_getR 12 13 177), (177, a_i 2 178), (178, a_iald 179), (179, a_iload 4 181)]
theorem oX12_cost_2 : ∀ q ∈ kX12_cost_2, zSnd zty false RX12 cX12_cost 9 none false q := List.forall_mem_cons.mpr ⟨ok_iadd dX12_cost_144, List.forall_mem_cons.mpr ⟨ok_aload_n dX12_cost_145 rfl, List.forall_mem_cons.mpr ⟨ok_getR dX12_cost_146 rfl in12 (by decide) rfl w970, List.forall_mem_cons.mpr ⟨ok_iconst dX12_cost_149 (by decide), List.forall_mem_cons.mpr ⟨ok_iald dX12_cost_150, List.forall_mem_cons.mpr ⟨ok_iload dX12_cost_151, List.forall_mem_cons.mpr ⟨ok_iadd dX12_cost_153, List.forall_mem_cons.mpr ⟨ok_iload dX12_cost_154, List.forall_mem_cons.mpr ⟨ok_iadd dX12_cost_156, List.forall_mem_cons.mpr ⟨ok_callS dX12_cost_157 rfl w1238 w1236 w1237 w13 (by decide +kernel) (by decide), List.forall_mem_cons.mpr ⟨ok_istore dX12_cost_160 (by decide), List.forall_mem_cons.mpr ⟨ok_aload_n dX12_cost_162 rfl, List.forall_mem_cons.mpr ⟨ok_getR dX12_cost_163 rfl in12 (by decide) rfl w970, List.forall_mem_cons.mpr ⟨ok_iconst dX12_cost_166 (by decide), List.forall_mem_cons.mpr ⟨ok_iald dX12_cost_167, List.forall_mem_cons.mpr ⟨ok_iload_n dX12_cost_168 rfl, List.forall_mem_cons.mpr ⟨ok_iadd dX12_cost_169, List.forall_mem_cons.mpr ⟨ok_iload dX12_cost_170, List.forall_mem_cons.mpr ⟨ok_iadd dX12_cost_172, List.forall_mem_cons.mpr ⟨ok_aload_n dX12_cost_173 rfl, List.forall_mem_cons.mpr ⟨ok_getR dX12_cost_174 rfl in12 (by decide) rfl w970, List.forall_mem_cons.mpr ⟨ok_iconst dX12_cost_177 (by decide), List.forall_mem_cons.mpr ⟨ok_iald dX12_cost_178, List.forall_mem_cons.mpr ⟨ok_iload dX12_cost_179, fun _ h => absurd h List.not_mem_nil⟩⟩⟩⟩⟩⟩⟩⟩⟩⟩⟩⟩⟩⟩⟩⟩⟩⟩⟩⟩⟩⟩⟩⟩
def kX12_cost_3 : List (Nat × zT) := [(181, a_ii (fun x y => x + y) 182), (182, a_iload 6 184), (184, a_ii (fun x y => x + y) 185), (185, a_call 175 2 188 0 0), (188, a_istore 8 190), (190, a_goto 376), (193, a_aload 0 194), (194, a_getR 12 13 197), (197, a_i 2 198), (198, a_iald 199), (199, a_iload 3 200), (200, a_ii (fun x y => x + y) 201), (201, a_iload 5 203), (203, a_ii (fun x y => x + y) 204), (204, a_aload 0 205), (205, a_getR 12 13 208), (208, a_i 3 209), (209, a_iald 210), (210, a_iload 4 212), (212, a_ii (fun x y => x + y) 213), (213, a_iload 6 215), (215, a_ii (fun x y => x + y) 216), (216, a_call 175 2 219 0 0), (219, a_istore 7 221)]
theorem oX12_cost_3 : ∀ q ∈ kX12_cost_3, zSnd zty false RX12 cX12_cost 9 none false q := List.forall_mem_cons.mpr ⟨ok_iadd dX12_cost_181, List.forall_mem_cons.mpr ⟨ok_iload dX12_cost_182, List.forall_mem_cons.mpr ⟨ok_iadd dX12_cost_184, List.forall_mem_cons.mpr ⟨ok_callS dX12_cost_185 rfl w1238 w1236 w1237 w13 (by decide +kernel) (by decide), List.forall_mem_cons.mpr ⟨ok_istore dX12_cost_188 (by decide), List.forall_mem_cons.mpr ⟨ok_goto dX12_cost_190 (by decide), List.forall_mem_cons.mpr ⟨ok_aload_n dX12_cost_193 rfl, List.forall_mem_cons.mpr ⟨ok_getR dX12_cost_194 rfl in12 (by decide) rfl w970, List.forall_mem_cons.mpr ⟨ok_iconst dX12_cost_197 (by decide), List.forall_mem_cons.mpr ⟨ok_iald dX12_cost_198, List.forall_mem_cons.mpr ⟨ok_iload_n dX12_cost_199 rfl, List.forall_mem_cons.mpr ⟨ok_iadd dX12_cost_200, List.forall_mem_cons.mpr ⟨ok_iload dX12_cost_201, List.forall_mem_cons.mpr ⟨ok_iadd dX12_cost_203, List.forall_mem_cons.mpr ⟨ok_aload_n dX12_cost_204 rfl, List.forall_mem_cons.mpr ⟨ok_getR dX12_cost_205 rfl in12 (by decide) rfl w970, List.forall_mem_cons.mpr ⟨ok_iconst dX12_cost_208 (by decide), List.forall_mem_cons.mpr ⟨ok_iald dX12_cost_209, List.forall_mem_cons.mpr ⟨ok_iload dX12_cost_210, List.forall_mem_cons.mpr ⟨ok_iadd dX12_cost_212, List.forall_mem_cons.mpr ⟨ok_iload dX12_cost_213, List.forall_mem_cons.mpr ⟨ok_iadd dX12_cost_215, List.forall_mem_cons.mpr ⟨ok_callS dX12_cost_216 rfl w1238 w1236 w1237 w13 (by decide +kernel) (by decide), List.forall_mem_cons.mpr ⟨ok_istore dX12_cost_219 (by decide), fun _ h => absurd h List.not_mem_nil⟩⟩⟩⟩⟩⟩⟩⟩⟩⟩⟩⟩⟩⟩⟩⟩⟩⟩⟩⟩⟩⟩⟩⟩
def kX12_cost_4 : List (Nat × zT) := [(221, a_aload 0 222), (222, a_getR 12 13 225), (225, a_i 4 226), (226, a_iald 227), (227, a_iload 3 228), (228, a_ii (fun x y => x + y) 229), (229, a_iload 5 231), (231, a_ii (fun x y => x + y) 232), (232, a_aload 0 233), (233, a_getR 12 13 236), (236, a_i 1 237), (237, a_iald 238), (238, a_iload 4 240), (240, a_ii (fun x y => x + y) 241), (241, a_iload 6 243), (243, a_ii (fun x y => x + y) 244), (244, a_call 175 2 247 0 0), (247, a_istore 8 249), (249, a_goto 376), (252, a_aload 0 253), (253, a_getR 12 13 256), (256, a_i 5 257), (257, a_iald 258), (258, a_iload 3 259)]
theorem oX12_cost_4 : ∀ q ∈ kX12_cost_4, zSnd zty false RX12 cX12_cost 9 none false q := List.forall_mem_cons.mpr ⟨ok_aload_n dX12_cost_221 rfl, List.forall_mem_cons.mpr ⟨ok_getR dX12_cost_222 rfl in12 (by decide) rfl w970, List.forall_mem_cons.mpr ⟨ok_iconst dX12_cost_225 (by decide), List.forall_mem_cons.mpr ⟨ok_iald dX12_cost_226, List.forall_mem_cons.mpr ⟨ok_iload_n dX12_cost_227 rfl, List.forall_mem_cons.mpr ⟨ok_iadd dX12_cost_228, List.forall_mem_cons.mpr ⟨ok_iload dX12_cost_229, List.forall_mem_cons.mpr ⟨ok_iadd dX12_cost_231, List.forall_mem_cons.mpr ⟨ok_aload_n dX12_cost_232 rfl, List.forall_mem_cons.mpr ⟨ok_getR dX12_cost_233 rfl in12 (by decide) rfl w970, List.forall_mem_cons.mpr ⟨ok_iconst dX12_cost_236 (by decide), List.forall_mem_cons.mpr ⟨ok_iald dX12_cost_237, List.forall_mem_cons.mpr ⟨ok_iload dX12_cost_238, List.forall_mem_cons.mpr ⟨ok_iadd dX12_cost_240, List.forall_mem_cons.mpr ⟨ok_iload dX12_cost_241, List.forall_mem_cons.mpr ⟨ok_iadd dX12_cost_243, List.forall_mem_cons.mpr ⟨ok_callS dX12_cost_244 rfl w1238 w1236 w1237 w13 (by decide +kernel) (by decide), List.forall_mem_cons.mpr ⟨ok_istore dX12_cost_247 (by decide), List.forall_mem_cons.mpr ⟨ok_goto dX12_cost_249 (by decide), List.forall_mem_cons.mpr ⟨ok_aload_n dX12_cost_252 rfl, List.forall_mem_cons.mpr ⟨ok_getR dX12_cost_253 rfl in12 (by decide) rfl w970, List.forall_mem_cons.mpr ⟨ok_iconst dX12_cost_256 (by decide), List.forall_mem_cons.mpr ⟨ok_iald dX12_cost_257, List.forall_mem_cons.mpr ⟨ok_iload_n dX12_cost_258 rfl, fun _ h => absurd h List.not_mem_nil⟩⟩⟩⟩⟩⟩⟩⟩⟩⟩⟩⟩⟩⟩⟩⟩⟩⟩⟩⟩⟩⟩⟩⟩
def kX12_cost_5 : List (Nat × zT) := [(259, a_iload 5 261), (261, a_ii (fun x y => x + y) 262), (262, a_iload 4 264), (264, a_iload 6 266), (266, a_ii (fun x y => x + y) 267), (267, a_call 175 2 270 0 0), (270, a_ii (fun x y => x + y) 271), (271, a_istore 7 273), (273, a_aload 0 274), (274, a_getR 12 13 277), (277, a_i 5 278), (278, a_iald 279), (279, a_iload 4 281), (281, a_iload 5 283), (283, a_ii (fun x y => x + y) 284), (284, a_iload 3 285), (285, a_iload 6 287), (287, a_ii (fun x y => x + y) 288), (288, a_call 175 2 291 0 0), (291, a_ii (fun x y => x + y) 292), (292, a_istore 8 294), (294, a_goto 376), (297, a_aload 0 298), (298, a_getR 12 13 301)]
theorem oX12_cost_5 : ∀ q ∈ kX12_cost_5, zSnd zty false RX12 cX12_cost 9 none false q := List.forall_mem_cons.mpr ⟨ok_iload dX12_cost_259, List.forall_mem_cons.mpr ⟨ok_iadd dX12_cost_261, List.forall_mem_cons.mpr ⟨ok_iload dX12_cost_262, List.forall_mem_cons.mpr ⟨ok_iload dX12_cost_264, List.forall_mem_cons.mpr ⟨ok_iadd dX12_cost_266, List.forall_mem_cons.mpr ⟨ok_callS dX12_cost_267 rfl w1238 w1236 w1237 w13 (by decide +kernel) (by decide), List.forall_mem_cons.mpr ⟨ok_iadd dX12_cost_270, List.forall_mem_cons.mpr ⟨ok_istore dX12_cost_271 (by decide), List.forall_mem_cons.mpr ⟨ok_aload_n dX12_cost_273 rfl, List.forall_mem_cons.mpr ⟨ok_getR dX12_cost_274 rfl in12 (by decide) rfl w970, List.forall_mem_cons.mpr ⟨ok_iconst dX12_cost_277 (by decide), List.forall_mem_cons.mpr ⟨ok_iald dX12_cost_278, List.forall_mem_cons.mpr ⟨ok_iload dX12_cost_279, List.forall_mem_cons.mpr ⟨ok_iload dX12_cost_281, List.forall_mem_cons.mpr ⟨ok_iadd dX12_cost_283, List.forall_mem_cons.mpr ⟨ok_iload_n dX12_cost_284 rfl, List.forall_mem_cons.mpr ⟨ok_iload dX12_cost_285, List.forall_mem_cons.mpr ⟨ok_iadd dX12_cost_287, List.forall_mem_cons.mpr ⟨ok_callS dX12_cost_288 rfl w1238 w1236 w1237 w13 (by decide +kernel) (by decide), List.forall_mem_cons.mpr ⟨ok_iadd dX12_cost_291, List.forall_mem_cons.mpr ⟨ok_istore dX12_cost_292 (by decide), List.forall_mem_cons.mpr ⟨ok_goto dX12_cost_294 (by decide), List.forall_mem_cons.mpr ⟨ok_aload_n dX12_cost_297 rfl, List.forall_mem_cons.mpr ⟨ok_getR dX12_cost_298 rfl in12 (by decide) rfl w970, fun _ h => absurd h List.not_mem_nil⟩⟩⟩⟩⟩⟩⟩⟩⟩⟩⟩⟩⟩⟩⟩⟩⟩⟩⟩⟩⟩⟩⟩⟩
def kX12_cost_6 : List (Nat × zT) := [(301, a_i 6 303), (303, a_iald 304), (304, a_iload 3 305), (305, a_iload 4 307), (307, a_call 175 2 310 0 0), (310, a_ii (fun x y => x + y) 311), (311, a_iload 5 313), (313, a_ii (fun x y => x + y) 314), (314, a_aload 0 315), (315, a_getR 12 21 318), (318, a_iload 2 319), (319, a_i 2 320), (320, a_ii (fun x y => x + y) 321), (321, a_iald 322), (322, a_ii (fun x y => x + y) 323), (323, a_istore 7 325), (325, a_aload 0 326), (326, a_getR 12 13 329), (329, a_i 6 331), (331, a_iald 332), (332, a_iload 3 333), (333, a_iload 4 335), (335, a_call 175 2 338 0 0), (338, a_ii (fun x y => x + y) 339)]
theorem oX12_cost_6 : ∀ q ∈ kX12_cost_6, zSnd zty false RX12 cX12_cost 9 none false q := List.forall_mem_cons.mpr ⟨ok_bipush dX12_cost_301 (by decide), List.forall_mem_cons.mpr ⟨ok_iald dX12_cost_303, List.forall_mem_cons.mpr ⟨ok_iload_n dX12_cost_304 rfl, List.forall_mem_cons.mpr ⟨ok_iload dX12_cost_305, List.forall_mem_cons.mpr ⟨ok_callS dX12_cost_307 rfl w1238 w1236 w1237 w13 (by decide +kernel) (by decide), List.forall_mem_cons.mpr ⟨ok_iadd dX12_cost_310, List.forall_mem_cons.mpr ⟨ok_iload dX12_cost_311, List.forall_mem_cons.mpr ⟨ok_iadd dX12_cost_313, List.forall_mem_cons.mpr ⟨ok_aload_n dX12_cost_314 rfl, List.forall_mem_cons.mpr ⟨ok_getR dX12_cost_315 rfl in12 (by decide) rfl w978, List.forall_mem_cons.mpr ⟨ok_iload_n dX12_cost_318 rfl, List.forall_mem_cons.mpr ⟨ok_iconst dX12_cost_319 (by decide), List.forall_mem_cons.mpr ⟨ok_iadd dX12_cost_320, List.forall_mem_cons.mpr ⟨ok_iald dX12_cost_321, List.forall_mem_cons.mpr ⟨ok_iadd dX12_cost_322, List.forall_mem_cons.mpr ⟨ok_istore dX12_cost_323 (by decide), List.forall_mem_cons.mpr ⟨ok_aload_n dX12_cost_325 rfl, List.forall_mem_cons.mpr ⟨ok_getR dX12_cost_326 rfl in12 (by decide) rfl w970, List.forall_mem_cons.mpr ⟨ok_bipush dX12_cost_329 (by decide), List.forall_mem_cons.mpr ⟨ok_iald dX12_cost_331, List.forall_mem_cons.mpr ⟨ok_iload_n dX12_cost_332 rfl, List.forall_mem_cons.mpr ⟨ok_iload dX12_cost_333, List.forall_mem_cons.mpr ⟨ok_callS dX12_cost_335 rfl w1238 w1236 w1237 w13 (by decide +kernel) (by decide), List.forall_mem_cons.mpr ⟨ok_iadd dX12_cost_338, fun _ h => absurd h List.not_mem_nil⟩⟩⟩⟩⟩⟩⟩⟩⟩⟩⟩⟩⟩⟩⟩⟩⟩⟩⟩⟩⟩⟩⟩⟩
def kX12_cost_7 : List (Nat × zT) := [(339, a_iload 6 341), (341, a_ii (fun x y => x + y) 342), (342, a_aload 0 343), (343, a_getR 12 22 346), (346, a_iload 2 347), (347, a_i 2 348), (348, a_ii (fun x y => x + y) 349), (349, a_iald 350), (350, a_ii (fun x y => x + y) 351), (351, a_istore 8 353), (353, a_goto 376), (356, a_i 0 357), (357, a_istore 7 359), (359, a_i 0 360), (360, a_istore 8 362), (362, a_goto 376), (365, a_i 0 366), (366, a_istore 7 368), (368, a_aload 0 369), (369, a_getR 12 13 372), (372, a_i 0 373), (373, a_iald 374), (374, a_istore 8 376), (376, a_aload 0 377)]
theorem oX12_cost_7 : ∀ q ∈ kX12_cost_7, zSnd zty false RX12 cX12_cost 9 none false q := List.forall_mem_cons.mpr ⟨ok_iload dX12_cost_339, List.forall_mem_cons.mpr ⟨ok_iadd dX12_cost_341, List.forall_mem_cons.mpr ⟨ok_aload_n dX12_cost_342 rfl, List.forall_mem_cons.mpr ⟨ok_getR dX12_cost_343 rfl in12 (by decide) rfl w979, List.forall_mem_cons.mpr ⟨ok_iload_n dX12_cost_346 rfl, List.forall_mem_cons.mpr ⟨ok_iconst dX12_cost_347 (by decide), List.forall_mem_cons.mpr ⟨ok_iadd dX12_cost_348, List.forall_mem_cons.mpr ⟨ok_iald dX12_cost_349, List.forall_mem_cons.mpr ⟨ok_iadd dX12_cost_350, List.forall_mem_cons.mpr ⟨ok_istore dX12_cost_351 (by decide), List.forall_mem_cons.mpr ⟨ok_goto dX12_cost_353 (by decide), List.forall_mem_cons.mpr ⟨ok_iconst dX12_cost_356 (by decide), List.forall_mem_cons.mpr ⟨ok_istore dX12_cost_357 (by decide), List.forall_mem_cons.mpr ⟨ok_iconst dX12_cost_359 (by decide), List.forall_mem_cons.mpr ⟨ok_istore dX12_cost_360 (by decide), List.forall_mem_cons.mpr ⟨ok_goto dX12_cost_362 (by decide), List.forall_mem_cons.mpr ⟨ok_iconst dX12_cost_365 (by decide), List.forall_mem_cons.mpr ⟨ok_istore dX12_cost_366 (by decide), List.forall_mem_cons.mpr ⟨ok_aload_n dX12_cost_368 rfl, List.forall_mem_cons.mpr ⟨ok_getR dX12_cost_369 rfl in12 (by decide) rfl w970, List.forall_mem_cons.mpr ⟨ok_iconst dX12_cost_372 (by decide), List.forall_mem_cons.mpr ⟨ok_iald dX12_cost_373, List.forall_mem_cons.mpr ⟨ok_istore dX12_cost_374 (by decide), List.forall_mem_cons.mpr ⟨ok_aload_n dX12_cost_376 rfl, fun _ h => absurd h List.not_mem_nil⟩⟩⟩⟩⟩⟩⟩⟩⟩⟩⟩⟩⟩⟩⟩⟩⟩⟩⟩⟩⟩⟩⟩⟩
def kX12_cost_8 : List (Nat × zT) := [(377, a_getR 12 21 380), (380, a_iload 2 381), (381, a_iload 7 383), (383, a_iload 8 385), (385, a_aload 0 386), (386, a_getR 12 13 389), (389, a_i 0 390), (390, a_iald 391), (391, a_ii (fun x y => x + y) 392), (392, a_call 175 2 395 0 0), (395, a_iast 396), (396, a_aload 0 397), (397, a_getR 12 22 400), (400, a_iload 2 401), (401, a_iload 8 403), (403, a_iload 7 405), (405, a_aload 0 406), (406, a_getR 12 13 409), (409, a_i 0 410), (410, a_iald 411), (411, a_ii (fun x y => x + y) 412), (412, a_call 175 2 415 0 0), (415, a_iast 416), (416, a_vret)]
theorem oX12_cost_8 : ∀ q ∈ kX12_cost_8, zSnd zty false RX12 cX12_cost 9 none false q := List.forall_mem_cons.mpr ⟨ok_getR dX12_cost_377 rfl in12 (by decide) rfl w978, List.forall_mem_cons.mpr ⟨ok_iload_n dX12_cost_380 rfl, List.forall_mem_cons.mpr ⟨ok_iload dX12_cost_381, List.forall_mem_cons.mpr ⟨ok_iload dX12_cost_383, List.forall_mem_cons.mpr ⟨ok_aload_n dX12_cost_385 rfl, List.forall_mem_cons.mpr ⟨ok_getR dX12_cost_386 rfl in12 (by decide) rfl w970, List.forall_mem_cons.mpr ⟨ok_iconst dX12_cost_389 (by decide), List.forall_mem_cons.mpr ⟨ok_iald dX12_cost_390, List.forall_mem_cons.mpr ⟨ok_iadd dX12_cost_391, List.forall_mem_cons.mpr ⟨ok_callS dX12_cost_392 rfl w1238 w1236 w1237 w13 (by decide +kernel) (by decide), List.forall_mem_cons.mpr ⟨ok_iast dX12_cost_395, List.forall_mem_cons.mpr ⟨ok_aload_n dX12_cost_396 rfl, List.forall_mem_cons.mpr ⟨ok_getR dX12_cost_397 rfl in12 (by decide) rfl w979, List.forall_mem_cons.mpr ⟨ok_iload_n dX12_cost_400 rfl, List.forall_mem_cons.mpr ⟨ok_iload dX12_cost_401, List.forall_mem_cons.mpr ⟨ok_iload dX12_cost_403, List.forall_mem_cons.mpr ⟨ok_aload_n dX12_cost_405 rfl, List.forall_mem_cons.mpr ⟨ok_getR dX12_cost_406 rfl in12 (by decide) rfl w970, List.forall_mem_cons.mpr ⟨ok_iconst dX12_cost_409 (by decide), List.forall_mem_cons.mpr ⟨ok_iald dX12_cost_410, List.forall_mem_cons.mpr ⟨ok_iadd dX12_cost_411, List.forall_mem_cons.mpr ⟨ok_callS dX12_cost_412 rfl w1238 w1236 w1237 w13 (by decide +kernel) (by decide), List.forall_mem_cons.mpr ⟨ok_iast dX12_cost_415, List.forall_mem_cons.mpr ⟨ok_vret dX12_cost_416 rfl, fun _ h => absurd h List.not_mem_nil⟩⟩⟩⟩⟩⟩⟩⟩⟩⟩⟩⟩⟩⟩⟩⟩⟩⟩⟩⟩⟩⟩⟩⟩
def kX12_cost : List (Nat × zT) := kX12_cost_0 ++ (kX12_cost_1 ++ (kX12_cost_2 ++ (kX12_cost_3 ++ (kX12_cost_4 ++ (kX12_cost_5 ++ (kX12_cost_6 ++ (kX12_cost_7 ++ (kX12_cost_8))))))))
theorem qX12_cost_0 : ∀ q ∈ kX12_cost_0, q ∈ kX12_cost := fun _ h => (List.mem_append_left _ h)
theorem tX12_cost_0 : (0, a_aload 0 1) ∈ kX12_cost := qX12_cost_0 _ (List.mem_of_getElem? (i := 0) rfl)
theorem tX12_cost_1 : (1, a_getR 12 21 4) ∈ kX12_cost := qX12_cost_0 _ (List.mem_of_getElem? (i := 1) rfl)
theorem tX12_cost_4 : (4, a_iload 2 5) ∈ kX12_cost := qX12_cost_0 _ (List.mem_of_getElem? (i := 2) rfl)
theorem tX12_cost_5 : (5, a_iald 6) ∈ kX12_cost := qX12_cost_0 _ (List.mem_of_getElem? (i := 3) rfl)
theorem tX12_cost_6 : (6, a_istore 3 7) ∈ kX12_cost := qX12_cost_0 _ (List.mem_of_getElem? (i := 4) rfl)
theorem tX12_cost_7 : (7, a_aload 0 8) ∈ kX12_cost := qX12_cost_0 _ (List.mem_of_getElem? (i := 5) rfl)
theorem tX12_cost_8 : (8, a_getR 12 22 11) ∈ kX12_cost := qX12_cost_0 _ (List.mem_of_getElem? (i := 6) rfl)
theorem tX12_cost_11 : (11, a_iload 2 12) ∈ kX12_cost := qX12_cost_0 _ (List.mem_of_getElem? (i := 7) rfl)
theorem tX12_cost_12 : (12, a_iald 13) ∈ kX12_cost := qX12_cost_0 _ (List.mem_of_getElem? (i := 8) rfl)
theorem tX12_cost_13 : (13, a_istore 4 15) ∈ kX12_cost := qX12_cost_0 _ (List.mem_of_getElem? (i := 9) rfl)
theorem tX12_cost_15 : (15, a_iload 2 16) ∈ kX12_cost := qX12_cost_0 _ (List.mem_of_getElem? (i := 10) rfl)
theorem tX12_cost_16 : (16, a_i 9 18) ∈ kX12_cost := qX12_cost_0 _ (List.mem_of_getElem? (i := 11) rfl)
theorem tX12_cost_18 : (18, a_ic_ge 32 21) ∈ kX12_cost := qX12_cost_0 _ (List.mem_of_getElem? (i := 12) rfl)
theorem tX12_cost_21 : (21, a_aload 0 22) ∈ kX12_cost := qX12_cost_0 _ (List.mem_of_getElem? (i := 13) rfl)
theorem tX12_cost_22 : (22, a_getR 12 21 25) ∈ kX12_cost := qX12_cost_0 _ (List.mem_of_getElem? (i := 14) rfl)
theorem tX12_cost_25 : (25, a_iload 2 26) ∈ kX12_cost := qX12_cost_0 _ (List.mem_of_getElem? (i := 15) rfl)
theorem tX12_cost_26 : (26, a_i 1 27) ∈ kX12_cost := qX12_cost_0 _ (List.mem_of_getElem? (i := 16) rfl)
theorem tX12_cost_27 : (27, a_ii (fun x y => x + y) 28) ∈ kX12_cost := qX12_cost_0 _ (List.mem_of_getElem? (i := 17) rfl)
theorem tX12_cost_28 : (28, a_iald 29) ∈ kX12_cost := qX12_cost_0 _ (List.mem_of_getElem? (i := 18) rfl)
theorem tX12_cost_29 : (29, a_goto 33) ∈ kX12_cost := qX12_cost_0 _ (List.mem_of_getElem? (i := 19) rfl)
theorem tX12_cost_32 : (32, a_i 0 33) ∈ kX12_cost := qX12_cost_0 _ (List.mem_of_getElem? (i := 20) rfl)
theorem tX12_cost_33 : (33, a_istore 5 35) ∈ kX12_cost := qX12_cost_0 _ (List.mem_of_getElem? (i := 21) rfl)
theorem tX12_cost_35 : (35, a_iload 2 36) ∈ kX12_cost := qX12_cost_0 _ (List.mem_of_getElem? (i := 22) rfl)
theorem tX12_cost_36 : (36, a_i 9 38) ∈ kX12_cost := qX12_cost_0 _ (List.mem_of_getElem? (i := 23) rfl)
theorem qX12_cost_1 : ∀ q ∈ kX12_cost_1, q ∈ kX12_cost := fun _ h => (List.mem_append_right _ (List.mem_append_left _ h))
theorem tX12_cost_38 : (38, a_ic_ge 52 41) ∈ kX12_cost := qX12_cost_1 _ (List.mem_of_getElem? (i := 0) rfl)
theorem tX12_cost_41 : (41, a_aload 0 42) ∈ kX12_cost := qX12_cost_1 _ (List.mem_of_getElem? (i := 1) rfl)
theorem tX12_cost_42 : (42, a_getR 12 22 45) ∈ kX12_cost := qX12_cost_1 _ (List.mem_of_getElem? (i := 2) rfl)
theorem tX12_cost_45 : (45, a_iload 2 46) ∈ kX12_cost := qX12_cost_1 _ (List.mem_of_getElem? (i := 3) rfl)
theorem tX12_cost_46 : (46, a_i 1 47) ∈ kX12_cost := qX12_cost_1 _ (List.mem_of_getElem? (i := 4) rfl)
theorem tX12_cost_47 : (47, a_ii (fun x y => x + y) 48) ∈ kX12_cost := qX12_cost_1 _ (List.mem_of_getElem? (i := 5) rfl)
theorem tX12_cost_48 : (48, a_iald 49) ∈ kX12_cost := qX12_cost_1 _ (List.mem_of_getElem? (i := 6) rfl)
theorem tX12_cost_49 : (49, a_goto 53) ∈ kX12_cost := qX12_cost_1 _ (List.mem_of_getElem? (i := 7) rfl)
theorem tX12_cost_52 : (52, a_i 0 53) ∈ kX12_cost := qX12_cost_1 _ (List.mem_of_getElem? (i := 8) rfl)
theorem tX12_cost_53 : (53, a_istore 6 55) ∈ kX12_cost := qX12_cost_1 _ (List.mem_of_getElem? (i := 9) rfl)
theorem tX12_cost_55 : (55, a_iload 1 56) ∈ kX12_cost := qX12_cost_1 _ (List.mem_of_getElem? (i := 10) rfl)
theorem tX12_cost_56 : (56, a_sw [(38, 134), (48, 356), (49, 356), (63, 297), (94, 252), (124, 193), (126, 124)] 365) ∈ kX12_cost := qX12_cost_1 _ (List.mem_of_getElem? (i := 11) rfl)
theorem tX12_cost_124 : (124, a_iload 4 126) ∈ kX12_cost := qX12_cost_1 _ (List.mem_of_getElem? (i := 12) rfl)
theorem tX12_cost_126 : (126, a_istore 7 128) ∈ kX12_cost := qX12_cost_1 _ (List.mem_of_getElem? (i := 13) rfl)
theorem tX12_cost_128 : (128, a_iload 3 129) ∈ kX12_cost := qX12_cost_1 _ (List.mem_of_getElem? (i := 14) rfl)
theorem tX12_cost_129 : (129, a_istore 8 131) ∈ kX12_cost := qX12_cost_1 _ (List.mem_of_getElem? (i := 15) rfl)
theorem tX12_cost_131 : (131, a_goto 376) ∈ kX12_cost := qX12_cost_1 _ (List.mem_of_getElem? (i := 16) rfl)
theorem tX12_cost_134 : (134, a_aload 0 135) ∈ kX12_cost := qX12_cost_1 _ (List.mem_of_getElem? (i := 17) rfl)
theorem tX12_cost_135 : (135, a_getR 12 13 138) ∈ kX12_cost := qX12_cost_1 _ (List.mem_of_getElem? (i := 18) rfl)
theorem tX12_cost_138 : (138, a_i 1 139) ∈ kX12_cost := qX12_cost_1 _ (List.mem_of_getElem? (i := 19) rfl)
theorem tX12_cost_139 : (139, a_iald 140) ∈ kX12_cost := qX12_cost_1 _ (List.mem_of_getElem? (i := 20) rfl)
theorem tX12_cost_140 : (140, a_iload 3 141) ∈ kX12_cost := qX12_cost_1 _ (List.mem_of_getElem? (i := 21) rfl)
theorem tX12_cost_141 : (141, a_ii (fun x y => x + y) 142) ∈ kX12_cost := qX12_cost_1 _ (List.mem_of_getElem? (i := 22) rfl)
theorem tX12_cost_142 : (142, a_iload 5 144) ∈ kX12_cost := qX12_cost_1 _ (List.mem_of_getElem? (i := 23) rfl)
theorem qX12_cost_2 : ∀ q ∈ kX12_cost_2, q ∈ kX12_cost := fun _ h => (List.mem_append_right _ (List.mem_append_right _ (List.mem_append_left _ h)))
theorem tX12_cost_144 : (144, a_ii (fun x y => x + y) 145) ∈ kX12_cost := qX12_cost_2 _ (List.mem_of_getElem? (i := 0) rfl)
theorem tX12_cost_145 : (145, a_aload 0 146) ∈ kX12_cost := qX12_cost_2 _ (List.mem_of_getElem? (i := 1) rfl)
theorem tX12_cost_146 : (146, a_getR 12 13 149) ∈ kX12_cost := qX12_cost_2 _ (List.mem_of_getElem? (i := 2) rfl)
theorem tX12_cost_149 : (149, a_i 4 150) ∈ kX12_cost := qX12_cost_2 _ (List.mem_of_getElem? (i := 3) rfl)
theorem tX12_cost_150 : (150, a_iald 151) ∈ kX12_cost := qX12_cost_2 _ (List.mem_of_getElem? (i := 4) rfl)
theorem tX12_cost_151 : (151, a_iload 4 153) ∈ kX12_cost := qX12_cost_2 _ (List.mem_of_getElem? (i := 5) rfl)
theorem tX12_cost_153 : (153, a_ii (fun x y => x + y) 154) ∈ kX12_cost := qX12_cost_2 _ (List.mem_of_getElem? (i := 6) rfl)
theorem tX12_cost_154 : (154, a_iload 6 156) ∈ kX12_cost := qX12_cost_2 _ (List.mem_of_getElem? (i := 7) rfl)
theorem tX12_cost_156 : (156, a_ii (fun x y => x + y) 157) ∈ kX12_cost := qX12_cost_2 _ (List.mem_of_getElem? (i := 8) rfl)
theorem tX12_cost_157 : (157, a_call 175 2 160 0 0) ∈ kX12_cost := qX12_cost_2 _ (List.mem_of_getElem? (i := 9) rfl)
theorem tX12_cost_160 : (160, a_istore 7 162) ∈ kX12_cost := qX12_cost_2 _ (List.mem_of_getElem? (i := 10) rfl)
theorem tX12_cost_162 : (162, a_aload 0 163) ∈ kX12_cost := qX12_cost_2 _ (List.mem_of_getElem? (i := 11) rfl)
theorem tX12_cost_163 : (163, a_getR 12 13 166) ∈ kX12_cost := qX12_cost_2 _ (List.mem_of_getElem? (i := 12) rfl)
theorem tX12_cost_166 : (166, a_i 3 167) ∈ kX12_cost := qX12_cost_2 _ (List.mem_of_getElem? (i := 13) rfl)
theorem tX12_cost_167 : (167, a_iald 168) ∈ kX12_cost := qX12_cost_2 _ (List.mem_of_getElem? (i := 14) rfl)
theorem tX12_cost_168 : (168, a_iload 3 169) ∈ kX12_cost := qX12_cost_2 _ (List.mem_of_getElem? (i := 15) rfl)
theorem tX12_cost_169 : (169, a_ii (fun x y => x + y) 170) ∈ kX12_cost := qX12_cost_2 _ (List.mem_of_getElem? (i := 16) rfl)
theorem tX12_cost_170 : (170, a_iload 5 172) ∈ kX12_cost := qX12_cost_2 _ (List.mem_of_getElem? (i := 17) rfl)
theorem tX12_cost_172 : (172, a_ii (fun x y => x + y) 173) ∈ kX12_cost := qX12_cost_2 _ (List.mem_of_getElem? (i := 18) rfl)
theorem tX12_cost_173 : (173, a_aload 0 174) ∈ kX12_cost := qX12_cost_2 _ (List.mem_of_getElem? (i := 19) rfl)
theorem tX12_cost_174 : (174, a_getR 12 13 177) ∈ kX12_cost := qX12_cost_2 _ (List.mem_of_getElem? (i := 20) rfl)
theorem tX12_cost_177 : (177, a_i 2 178) ∈ kX12_cost := qX12_cost_2 _ (List.mem_of_getElem? (i := 21) rfl)
theorem tX12_cost_178 : (178, a_iald 179) ∈ kX12_cost := qX12_cost_2 _ (List.mem_of_getElem? (i := 22) rfl)
theorem tX12_cost_179 : (179, a_iload 4 181) ∈ kX12_cost := qX12_cost_2 _ (List.mem_of_getElem? (i := 23) rfl)
theorem qX12_cost_3 : ∀ q ∈ kX12_cost_3, q ∈ kX12_cost := fun _ h => (List.mem_append_right _ (List.mem_append_right _ (List.mem_append_right _ (List.mem_append_left _ h))))
theorem tX12_cost_181 : (181, a_ii (fun x y => x + y) 182) ∈ kX12_cost := qX12_cost_3 _ (List.mem_of_getElem? (i := 0) rfl)
theorem tX12_cost_182 : (182, a_iload 6 184) ∈ kX12_cost := qX12_cost_3 _ (List.mem_of_getElem? (i := 1) rfl)
theorem tX12_cost_184 : (184, a_ii (fun x y => x + y) 185) ∈ kX12_cost := qX12_cost_3 _ (List.mem_of_getElem? (i := 2) rfl)
theorem tX12_cost_185 : (185, a_call 175 2 188 0 0) ∈ kX12_cost := qX12_cost_3 _ (List.mem_of_getElem? (i := 3) rfl)
theorem tX12_cost_188 : (188, a_istore 8 190) ∈ kX12_cost := qX12_cost_3 _ (List.mem_of_getElem? (i := 4) rfl)
theorem tX12_cost_190 : (190, a_goto 376) ∈ kX12_cost := qX12_cost_3 _ (List.mem_of_getElem? (i := 5) rfl)
theorem tX12_cost_193 : (193, a_aload 0 194) ∈ kX12_cost := qX12_cost_3 _ (List.mem_of_getElem? (i := 6) rfl)
theorem tX12_cost_194 : (194, a_getR 12 13 197) ∈ kX12_cost := qX12_cost_3 _ (List.mem_of_getElem? (i := 7) rfl)
theorem tX12_cost_197 : (197, a_i 2 198) ∈ kX12_cost := qX12_cost_3 _ (List.mem_of_getElem? (i := 8) rfl)
theorem tX12_cost_198 : (198, a_iald 199) ∈ kX12_cost := qX12_cost_3 _ (List.mem_of_getElem? (i := 9) rfl)
theorem tX12_cost_199 : (199, a_iload 3 200) ∈ kX12_cost := qX12_cost_3 _ (List.mem_of_getElem? (i := 10) rfl)
theorem tX12_cost_200 : (200, a_ii (fun x y => x + y) 201) ∈ kX12_cost := qX12_cost_3 _ (List.mem_of_getElem? (i := 11) rfl)
theorem tX12_cost_201 : (201, a_iload 5 203) ∈ kX12_cost := qX12_cost_3 _ (List.mem_of_getElem? (i := 12) rfl)
theorem tX12_cost_203 : (203, a_ii (fun x y => x + y) 204) ∈ kX12_cost := qX12_cost_3 _ (List.mem_of_getElem? (i := 13) rfl)
theorem tX12_cost_204 : (204, a_aload 0 205) ∈ kX12_cost := qX12_cost_3 _ (List.mem_of_getElem? (i := 14) rfl)
theorem tX12_cost_205 : (205, a_getR 12 13 208) ∈ kX12_cost := qX12_cost_3 _ (List.mem_of_getElem? (i := 15) rfl)
theorem tX12_cost_208 : (208, a_i 3 209) ∈ kX12_cost := qX12_cost_3 _ (List.mem_of_getElem? (i := 16) rfl)
theorem tX12_cost_209 : (209, a_iald 210) ∈ kX12_cost := qX12_cost_3 _ (List.mem_of_getElem? (i := 17) rfl)
theorem tX12_cost_210 : (210, a_iload 4 212) ∈ kX12_cost := qX12_cost_3 _ (List.mem_of_getElem? (i := 18) rfl)
theorem tX12_cost_212 : (212, a_ii (fun x y => x + y) 213) ∈ kX12_cost := qX12_cost_3 _ (List.mem_of_getElem? (i := 19) rfl)
theorem tX12_cost_213 : (213, a_iload 6 215) ∈ kX12_cost := qX12_cost_3 _ (List.mem_of_getElem? (i := 20) rfl)
theorem tX12_cost_215 : (215, a_ii (fun x y => x + y) 216) ∈ kX12_cost := qX12_cost_3 _ (List.mem_of_getElem? (i := 21) rfl)
theorem tX12_cost_216 : (216, a_call 175 2 219 0 0) ∈ kX12_cost := qX12_cost_3 _ (List.mem_of_getElem? (i := 22) rfl)
theorem tX12_cost_219 : (219, a_istore 7 221) ∈ kX12_cost := qX12_cost_3 _ (List.mem_of_getElem? (i := 23) rfl)
theorem qX12_cost_4 : ∀ q ∈ kX12_cost_4, q ∈ kX12_cost := fun _ h => (List.mem_append_right _ (List.mem_append_right _ (List.mem_append_right _ (List.mem_append_right _ (List.mem_append_left _ h)))))
theorem tX12_cost_221 : (221, a_aload 0 222) ∈ kX12_cost := qX12_cost_4 _ (List.mem_of_getElem? (i := 0) rfl)
theorem tX12_cost_222 : (222, a_getR 12 13 225) ∈ kX12_cost := qX12_cost_4 _ (List.mem_of_getElem? (i := 1) rfl)
theorem tX12_cost_225 : (225, a_i 4 226) ∈ kX12_cost := qX12_cost_4 _ (List.mem_of_getElem? (i := 2) rfl)
theorem tX12_cost_226 : (226, a_iald 227) ∈ kX12_cost := qX12_cost_4 _ (List.mem_of_getElem? (i := 3) rfl)
theorem tX12_cost_227 : (227, a_iload 3 228) ∈ kX12_cost := qX12_cost_4 _ (List.mem_of_getElem? (i := 4) rfl)
theorem tX12_cost_228 : (228, a_ii (fun x y => x + y) 229) ∈ kX12_cost := qX12_cost_4 _ (List.mem_of_getElem? (i := 5) rfl)
theorem tX12_cost_229 : (229, a_iload 5 231) ∈ kX12_cost := qX12_cost_4 _ (List.mem_of_getElem? (i := 6) rfl)
theorem tX12_cost_231 : (231, a_ii (fun x y => x + y) 232) ∈ kX12_cost := qX12_cost_4 _ (List.mem_of_getElem? (i := 7) rfl)
theorem tX12_cost_232 : (232, a_aload 0 233) ∈ kX12_cost := qX12_cost_4 _ (List.mem_of_getElem? (i := 8) rfl)
theorem tX12_cost_233 : (233, a_getR 12 13 236) ∈ kX12_cost := qX12_cost_4 _ (List.mem_of_getElem? (i := 9) rfl)
theorem tX12_cost_236 : (236, a_i 1 237) ∈ kX12_cost := qX12_cost_4 _ (List.mem_of_getElem? (i := 10) rfl)
theorem tX12_cost_237 : (237, a_iald 238) ∈ kX12_cost := qX12_cost_4 _ (List.mem_of_getElem? (i := 11) rfl)
theorem tX12_cost_238 : (238, a_iload 4 240) ∈ kX12_cost := qX12_cost_4 _ (List.mem_of_getElem? (i := 12) rfl)
theorem tX12_cost_240 : (240, a_ii (fun x y => x + y) 241) ∈ kX12_cost := qX12_cost_4 _ (List.mem_of_getElem? (i := 13) rfl)
theorem tX12_cost_241 : (241, a_iload 6 243) ∈ kX12_cost := qX12_cost_4 _ (List.mem_of_getElem? (i := 14) rfl)
theorem tX12_cost_243 : (243, a_ii (fun x y => x + y) 244) ∈ kX12_cost := qX12_cost_4 _ (List.mem_of_getElem? (i := 15) rfl)
theorem tX12_cost_244 : (244, a_call 175 2 247 0 0) ∈ kX12_cost := qX12_cost_4 _ (List.mem_of_getElem? (i := 16) rfl)
theorem tX12_cost_247 : (247, a_istore 8 249) ∈ kX12_cost := qX12_cost_4 _ (List.mem_of_getElem? (i := 17) rfl)
theorem tX12_cost_249 : (249, a_goto 376) ∈ kX12_cost := qX12_cost_4 _ (List.mem_of_getElem? (i := 18) rfl)
theorem tX12_cost_252 : (252, a_aload 0 253) ∈ kX12_cost := qX12_cost_4 _ (List.mem_of_getElem? (i := 19) rfl)
theorem tX12_cost_253 : (253, a_getR 12 13 256) ∈ kX12_cost := qX12_cost_4 _ (List.mem_of_getElem? (i := 20) rfl)
theorem tX12_cost_256 : (256, a_i 5 257) ∈ kX12_cost := qX12_cost_4 _ (List.mem_of_getElem? (i := 21) rfl)
theorem tX12_cost_257 : (257, a_iald 258) ∈ kX12_cost := qX12_cost_4 _ (List.mem_of_getElem? (i := 22) rfl)
theorem tX12_cost_258 : (258, a_iload 3 259) ∈ kX12_cost := qX12_cost_4 _ (List.mem_of_getElem? (i := 23) rfl)
theorem qX12_cost_5 : ∀ q ∈ kX12_cost_5, q ∈ kX12_cost := fun _ h => (List.mem_append_right _ (List.mem_append_right _ (List.mem_append_right _ (List.mem_append_right _ (List.mem_append_right _ (List.mem_append_left _ h))))))
theorem tX12_cost_259 : (259, a_iload 5 261) ∈ kX12_cost := qX12_cost_5 _ (List.mem_of_getElem? (i := 0) rfl)
theorem tX12_cost_261 : (261, a_ii (fun x y => x + y) 262) ∈ kX12_cost := qX12_cost_5 _ (List.mem_of_getElem? (i := 1) rfl)
theorem tX12_cost_262 : (262, a_iload 4 264) ∈ kX12_cost := qX12_cost_5 _ (List.mem_of_getElem? (i := 2) rfl)
theorem tX12_cost_264 : (264, a_iload 6 266) ∈ kX12_cost := qX12_cost_5 _ (List.mem_of_getElem? (i := 3) rfl)
theorem tX12_cost_266 : (266, a_ii (fun x y => x + y) 267) ∈ kX12_cost := qX12_cost_5 _ (List.mem_of_getElem? (i := 4) rfl)
theorem tX12_cost_267 : (267, a_call 175 2 270 0 0) ∈ kX12_cost := qX12_cost_5 _ (List.mem_of_getElem? (i := 5) rfl)
theorem tX12_cost_270 : (270, a_ii (fun x y => x + y) 271) ∈ kX12_cost := qX12_cost_5 _ (List.mem_of_getElem? (i := 6) rfl)
theorem tX12_cost_271 : (271, a_istore 7 273) ∈ kX12_cost := qX12_cost_5 _ (List.mem_of_getElem? (i := 7) rfl)
theorem tX12_cost_273 : (273, a_aload 0 274) ∈ kX12_cost := qX12_cost_5 _ (List.mem_of_getElem? (i := 8) rfl)
theorem tX12_cost_274 : (274, a_getR 12 13 277) ∈ kX12_cost := qX12_cost_5 _ (List.mem_of_getElem? (i := 9) rfl)
theorem tX12_cost_277 : (277, a_i 5 278) ∈ kX12_cost := qX12_cost_5 _ (List.mem_of_getElem? (i := 10) rfl)
theorem tX12_cost_278 : (278, a_iald 279) ∈ kX12_cost := qX12_cost_5 _ (List.mem_of_getElem? (i := 11) rfl)
theorem tX12_cost_279 : (279, a_iload 4 281) ∈ kX12_cost := qX12_cost_5 _ (List.mem_of_getElem? (i := 12) rfl)
theorem tX12_cost_281 : (281, a_iload 5 283) ∈ kX12_cost := qX12_cost_5 _ (List.mem_of_getElem? (i := 13) rfl)
theorem tX12_cost_283 : (283, a_ii (fun x y => x + y) 284) ∈ kX12_cost := qX12_cost_5 _ (List.mem_of_getElem? (i := 14) rfl)
theorem tX12_cost_284 : (284, a_iload 3 285) ∈ kX12_cost := qX12_cost_5 _ (List.mem_of_getElem? (i := 15) rfl)
theorem tX12_cost_285 : (285, a_iload 6 287) ∈ kX12_cost := qX12_cost_5 _ (List.mem_of_getElem? (i := 16) rfl)
theorem tX12_cost_287 : (287, a_ii (fun x y => x + y) 288) ∈ kX12_cost := qX12_cost_5 _ (List.mem_of_getElem? (i := 17) rfl)
theorem tX12_cost_288 : (288, a_call 175 2 291 0 0) ∈ kX12_cost := qX12_cost_5 _ (List.mem_of_getElem? (i := 18) rfl)
theorem tX12_cost_291 : (291, a_ii (fun x y => x + y) 292) ∈ kX12_cost := qX12_cost_5 _ (List.mem_of_getElem? (i := 19) rfl)
theorem tX12_cost_292 : (292, a_istore 8 294) ∈ kX12_cost := qX12_cost_5 _ (List.mem_of_getElem? (i := 20) rfl)
theorem tX12_cost_294 : (294, a_goto 376) ∈ kX12_cost := qX12_cost_5 _ (List.mem_of_getElem? (i := 21) rfl)
theorem tX12_cost_297 : (297, a_aload 0 298) ∈ kX12_cost := qX12_cost_5 _ (List.mem_of_getElem? (i := 22) rfl)
theorem tX12_cost_298 : (298, a_getR 12 13 301) ∈ kX12_cost := qX12_cost_5 _ (List.mem_of_getElem? (i := 23) rfl)
theorem qX12_cost_6 : ∀ q ∈ kX12_cost_6, q ∈ kX12_cost := fun _ h => (List.mem_append_right _ (List.mem_append_right _ (List.mem_append_right _ (List.mem_append_right _ (List.mem_append_right _ (List.mem_append_right _ (List.mem_append_left _ h)))))))
theorem tX12_cost_301 : (301, a_i 6 303) ∈ kX12_cost := qX12_cost_6 _ (List.mem_of_getElem? (i := 0) rfl)
theorem tX12_cost_303 : (303, a_iald 304) ∈ kX12_cost := qX12_cost_6 _ (List.mem_of_getElem? (i := 1) rfl)
theorem tX12_cost_304 : (304, a_iload 3 305) ∈ kX12_cost := qX12_cost_6 _ (List.mem_of_getElem? (i := 2) rfl)
theorem tX12_cost_305 : (305, a_iload 4 307) ∈ kX12_cost := qX12_cost_6 _ (List.mem_of_getElem? (i := 3) rfl)
theorem tX12_cost_307 : (307, a_call 175 2 310 0 0) ∈ kX12_cost := qX12_cost_6 _ (List.mem_of_getElem? (i := 4) rfl)
theorem tX12_cost_310 : (310, a_ii (fun x y => x + y) 311) ∈ kX12_cost := qX12_cost_6 _ (List.mem_of_getElem? (i := 5) rfl)
theorem tX12_cost_311 : (311, a_iload 5 313) ∈ kX12_cost := qX12_cost_6 _ (List.mem_of_getElem? (i := 6) rfl)
theorem tX12_cost_313 : (313, a_ii (fun x y => x + y) 314) ∈ kX12_cost := qX12_cost_6 _ (List.mem_of_getElem? (i := 7) rfl)
theorem tX12_cost_314 : (314, a_aload 0 315) ∈ kX12_cost := qX12_cost_6 _ (List.mem_of_getElem? (i := 8) rfl)
theorem tX12_cost_315 : (315, a_getR 12 21 318) ∈ kX12_cost := qX12_cost_6 _ (List.mem_of_getElem? (i := 9) rfl)
theorem tX12_cost_318 : (318, a_iload 2 319) ∈ kX12_cost := qX12_cost_6 _ (List.mem_of_getElem? (i := 10) rfl)
theorem tX12_cost_319 : (319, a_i 2 320) ∈ kX12_cost := qX12_cost_6 _ (List.mem_of_getElem? (i := 11) rfl)
theorem tX12_cost_320 : (320, a_ii (fun x y => x + y) 321) ∈ kX12_cost := qX12_cost_6 _ (List.mem_of_getElem? (i := 12) rfl)
theorem tX12_cost_321 : (321, a_iald 322) ∈ kX12_cost := qX12_cost_6 _ (List.mem_of_getElem? (i := 13) rfl)
theorem tX12_cost_322 : (322, a_ii (fun x y => x + y) 323) ∈ kX12_cost := qX12_cost_6 _ (List.mem_of_getElem? (i := 14) rfl)
theorem tX12_cost_323 : (323, a_istore 7 325) ∈ kX12_cost := qX12_cost_6 _ (List.mem_of_getElem? (i := 15) rfl)
theorem tX12_cost_325 : (325, a_aload 0 326) ∈ kX12_cost := qX12_cost_6 _ (List.mem_of_getElem? (i := 16) rfl)
theorem tX12_cost_326 : (326, a_getR 12 13 329) ∈ kX12_cost := qX12_cost_6 _ (List.mem_of_getElem? (i := 17) rfl)
theorem tX12_cost_329 : (329, a_i 6 331) ∈ kX12_cost := qX12_cost_6 _ (List.mem_of_getElem? (i := 18) rfl)
theorem tX12_cost_331 : (331, a_iald 332) ∈ kX12_cost := qX12_cost_6 _ (List.mem_of_getElem? (i := 19) rfl)
theorem tX12_cost_332 : (332, a_iload 3 333) ∈ kX12_cost := qX12_cost_6 _ (List.mem_of_getElem? (i := 20) rfl)
theorem tX12_cost_333 : (333, a_iload 4 335) ∈ kX12_cost := qX12_cost_6 _ (List.mem_of_getElem? (i := 21) rfl)
theorem tX12_cost_335 : (335, a_call 175 2 338 0 0) ∈ kX12_cost := qX12_cost_6 _ (List.mem_of_getElem? (i := 22) rfl)
theorem tX12_cost_338 : (338, a_ii (fun x y => x + y) 339) ∈ kX12_cost := qX12_cost_6 _ (List.mem_of_getElem? (i := 23) rfl)
theorem qX12_cost_7 : ∀ q ∈ kX12_cost_7, q ∈ kX12_cost := fun _ h => (List.mem_append_right _ (List.mem_append_right _ (List.mem_append_right _ (List.mem_append_right _ (List.mem_append_right _ (List.mem_append_right _ (List.mem_append_right _ (List.mem_append_left _ h))))))))
theorem tX12_cost_339 : (339, a_iload 6 341) ∈ kX12_cost := qX12_cost_7 _ (List.mem_of_getElem? (i := 0) rfl)
theorem tX12_cost_341 : (341, a_ii (fun x y => x + y) 342) ∈ kX12_cost := qX12_cost_7 _ (List.mem_of_getElem? (i := 1) rfl)
theorem tX12_cost_342 : (342, a_aload 0 343) ∈ kX12_cost := qX12_cost_7 _ (List.mem_of_getElem? (i := 2) rfl)
theorem tX12_cost_343 : (343, a_getR 12 22 346) ∈ kX12_cost := qX12_cost_7 _ (List.mem_of_getElem? (i := 3) rfl)
theorem tX12_cost_346 : (346, a_iload 2 347) ∈ kX12_cost := qX12_cost_7 _ (List.mem_of_getElem? (i := 4) rfl)
theorem tX12_cost_347 : (347, a_i 2 348) ∈ kX12_cost := qX12_cost_7 _ (List.mem_of_getElem? (i := 5) rfl)
theorem tX12_cost_348 : (348, a_ii (fun x y => x + y) 349) ∈ kX12_cost := qX12_cost_7 _ (List.mem_of_getElem? (i := 6) rfl)
theorem tX12_cost_349 : (349, a_iald 350) ∈ kX12_cost := qX12_cost_7 _ (List.mem_of_getElem? (i := 7) rfl)
theorem tX12_cost_350 : (350, a_ii (fun x y => x + y) 351) ∈ kX12_cost := qX12_cost_7 _ (List.mem_of_getElem? (i := 8) rfl)
theorem tX12_cost_351 : (351, a_istore 8 353) ∈ kX12_cost := qX12_cost_7 _ (List.mem_of_getElem? (i := 9) rfl)
theorem tX12_cost_353 : (353, a_goto 376) ∈ kX12_cost := qX12_cost_7 _ (List.mem_of_getElem? (i := 10) rfl)
theorem tX12_cost_356 : (356, a_i 0 357) ∈ kX12_cost := qX12_cost_7 _ (List.mem_of_getElem? (i := 11) rfl)
theorem tX12_cost_357 : (357, a_istore 7 359) ∈ kX12_cost := qX12_cost_7 _ (List.mem_of_getElem? (i := 12) rfl)
theorem tX12_cost_359 : (359, a_i 0 360) ∈ kX12_cost := qX12_cost_7 _ (List.mem_of_getElem? (i := 13) rfl)
theorem tX12_cost_360 : (360, a_istore 8 362) ∈ kX12_cost := qX12_cost_7 _ (List.mem_of_getElem? (i := 14) rfl)
theorem tX12_cost_362 : (362, a_goto 376) ∈ kX12_cost := qX12_cost_7 _ (List.mem_of_getElem? (i := 15) rfl)
theorem tX12_cost_365 : (365, a_i 0 366) ∈ kX12_cost := qX12_cost_7 _ (List.mem_of_getElem? (i := 16) rfl)
theorem tX12_cost_366 : (366, a_istore 7 368) ∈ kX12_cost := qX12_cost_7 _ (List.mem_of_getElem? (i := 17) rfl)
theorem tX12_cost_368 : (368, a_aload 0 369) ∈ kX12_cost := qX12_cost_7 _ (List.mem_of_getElem? (i := 18) rfl)
theorem tX12_cost_369 : (369, a_getR 12 13 372) ∈ kX12_cost := qX12_cost_7 _ (List.mem_of_getElem? (i := 19) rfl)
theorem tX12_cost_372 : (372, a_i 0 373) ∈ kX12_cost := qX12_cost_7 _ (List.mem_of_getElem? (i := 20) rfl)
theorem tX12_cost_373 : (373, a_iald 374) ∈ kX12_cost := qX12_cost_7 _ (List.mem_of_getElem? (i := 21) rfl)
theorem tX12_cost_374 : (374, a_istore 8 376) ∈ kX12_cost := qX12_cost_7 _ (List.mem_of_getElem? (i := 22) rfl)
theorem tX12_cost_376 : (376, a_aload 0 377) ∈ kX12_cost := qX12_cost_7 _ (List.mem_of_getElem? (i := 23) rfl)
theorem qX12_cost_8 : ∀ q ∈ kX12_cost_8, q ∈ kX12_cost := fun _ h => (List.mem_append_right _ (List.mem_append_right _ (List.mem_append_right _ (List.mem_append_right _ (List.mem_append_right _ (List.mem_append_right _ (List.mem_append_right _ (List.mem_append_right _ h))))))))
theorem tX12_cost_377 : (377, a_getR 12 21 380) ∈ kX12_cost := qX12_cost_8 _ (List.mem_of_getElem? (i := 0) rfl)
theorem tX12_cost_380 : (380, a_iload 2 381) ∈ kX12_cost := qX12_cost_8 _ (List.mem_of_getElem? (i := 1) rfl)
theorem tX12_cost_381 : (381, a_iload 7 383) ∈ kX12_cost := qX12_cost_8 _ (List.mem_of_getElem? (i := 2) rfl)
theorem tX12_cost_383 : (383, a_iload 8 385) ∈ kX12_cost := qX12_cost_8 _ (List.mem_of_getElem? (i := 3) rfl)
theorem tX12_cost_385 : (385, a_aload 0 386) ∈ kX12_cost := qX12_cost_8 _ (List.mem_of_getElem? (i := 4) rfl)
theorem tX12_cost_386 : (386, a_getR 12 13 389) ∈ kX12_cost := qX12_cost_8 _ (List.mem_of_getElem? (i := 5) rfl)
theorem tX12_cost_389 : (389, a_i 0 390) ∈ kX12_cost := qX12_cost_8 _ (List.mem_of_getElem? (i := 6) rfl)
theorem tX12_cost_390 : (390, a_iald 391) ∈ kX12_cost := qX12_cost_8 _ (List.mem_of_getElem? (i := 7) rfl)
theorem tX12_cost_391 : (391, a_ii (fun x y => x + y) 392) ∈ kX12_cost := qX12_cost_8 _ (List.mem_of_getElem? (i := 8) rfl)
theorem tX12_cost_392 : (392, a_call 175 2 395 0 0) ∈ kX12_cost := qX12_cost_8 _ (List.mem_of_getElem? (i := 9) rfl)
theorem tX12_cost_395 : (395, a_iast 396) ∈ kX12_cost := qX12_cost_8 _ (List.mem_of_getElem? (i := 10) rfl)
theorem tX12_cost_396 : (396, a_aload 0 397) ∈ kX12_cost := qX12_cost_8 _ (List.mem_of_getElem? (i := 11) rfl)
theorem tX12_cost_397 : (397, a_getR 12 22 400) ∈ kX12_cost := qX12_cost_8 _ (List.mem_of_getElem? (i := 12) rfl)
theorem tX12_cost_400 : (400, a_iload 2 401) ∈ kX12_cost := qX12_cost_8 _ (List.mem_of_getElem? (i := 13) rfl)
theorem tX12_cost_401 : (401, a_iload 8 403) ∈ kX12_cost := qX12_cost_8 _ (List.mem_of_getElem? (i := 14) rfl)
theorem tX12_cost_403 : (403, a_iload 7 405) ∈ kX12_cost := qX12_cost_8 _ (List.mem_of_getElem? (i := 15) rfl)
theorem tX12_cost_405 : (405, a_aload 0 406) ∈ kX12_cost := qX12_cost_8 _ (List.mem_of_getElem? (i := 16) rfl)
theorem tX12_cost_406 : (406, a_getR 12 13 409) ∈ kX12_cost := qX12_cost_8 _ (List.mem_of_getElem? (i := 17) rfl)
theorem tX12_cost_409 : (409, a_i 0 410) ∈ kX12_cost := qX12_cost_8 _ (List.mem_of_getElem? (i := 18) rfl)
theorem tX12_cost_410 : (410, a_iald 411) ∈ kX12_cost := qX12_cost_8 _ (List.mem_of_getElem? (i := 19) rfl)
theorem tX12_cost_411 : (411, a_ii (fun x y => x + y) 412) ∈ kX12_cost := qX12_cost_8 _ (List.mem_of_getElem? (i := 20) rfl)
theorem tX12_cost_412 : (412, a_call 175 2 415 0 0) ∈ kX12_cost := qX12_cost_8 _ (List.mem_of_getElem? (i := 21) rfl)
theorem tX12_cost_415 : (415, a_iast 416) ∈ kX12_cost := qX12_cost_8 _ (List.mem_of_getElem? (i := 22) rfl)
theorem tX12_cost_416 : (416, a_vret) ∈ kX12_cost := qX12_cost_8 _ (List.mem_of_getElem? (i := 23) rfl)
theorem oX12_cost : ∀ q ∈ kX12_cost, zSnd zty false RX12 cX12_cost 9 none false q := List.forall_mem_append.mpr ⟨oX12_cost_0, List.forall_mem_append.mpr ⟨oX12_cost_1, List.forall_mem_append.mpr ⟨oX12_cost_2, List.forall_mem_append.mpr ⟨oX12_cost_3, List.forall_mem_append.mpr ⟨oX12_cost_4, List.forall_mem_append.mpr ⟨oX12_cost_5, List.forall_mem_append.mpr ⟨oX12_cost_6, List.forall_mem_append.mpr ⟨oX12_cost_7, oX12_cost_8⟩⟩⟩⟩⟩⟩⟩⟩
