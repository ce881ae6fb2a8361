abbrev cL_law : ByteArray := code
theorem dL_law_0 : decode cL_law 0 = .ok (.new 7, 3) := by decide +kernel
theorem dL_law_3 : decode cL_law 3 = .ok (.dup, 1) := by decide +kernel
theorem dL_law_4 : decode cL_law 4 = .ok (.invokespecial 9, 3) := by decide +kernel
theorem dL_law_7 : decode cL_law 7 = .ok (.astore_n 1, 1) := by decide +kernel
theorem dL_law_8 : decode cL_law 8 = .ok (.new 10, 3) := by decide +kernel
theorem dL_law_11 : decode cL_law 11 = .ok (.dup, 1) := by decide +kernel
theorem dL_law_12 : decode cL_law 12 = .ok (.invokespecial 12, 3) := by decide +kernel
theorem dL_law_15 : decode cL_law 15 = .ok (.astore_n 2, 1) := by decide +kernel
theorem dL_law_16 : decode cL_law 16 = .ok (.iconst 0, 1) := by decide +kernel
theorem dL_law_17 : decode cL_law 17 = .ok (.istore_n 3, 1) := by decide +kernel
def kL_pro_0 : List (Nat × zT) := [(0, a_new 11 16 3), (3, a_dup 4), (4, a_callV 11 89 1 7 109 3180), (7, a_astore 1 8), (8, a_new 12 40 11), (11, a_dup 12), (12, a_callV 12 137 1 15 32 2445), (15, a_astore 2 16), (16, a_i 0 17), (17, a_istore 3 18)]
theorem oL_pro_0 : ∀ q ∈ kL_pro_0, zSnd zty true RL cL_law 4 (some .boolean) false q := List.forall_mem_cons.mpr ⟨ok_new dL_law_0 rfl rfl in11 tyX11 tyX11_ok rfl (by decide +kernel) w19 w20 w1, List.forall_mem_cons.mpr ⟨ok_dup dL_law_3, List.forall_mem_cons.mpr ⟨ok_callI dL_law_4 rfl w23 w21 w22 w1 rfl (by decide +kernel) (by decide), List.forall_mem_cons.mpr ⟨ok_astore_n dL_law_7 rfl (by decide), List.forall_mem_cons.mpr ⟨ok_new dL_law_8 rfl rfl in12 tyX12 tyX12_ok rfl (by decide +kernel) w950 w951 w13, List.forall_mem_cons.mpr ⟨ok_dup dL_law_11, List.forall_mem_cons.mpr ⟨ok_callI dL_law_12 rfl w954 w952 w953 w13 rfl (by decide +kernel) (by decide), List.forall_mem_cons.mpr ⟨ok_astore_n dL_law_15 rfl (by decide), List.forall_mem_cons.mpr ⟨ok_iconst dL_law_16 (by decide), List.forall_mem_cons.mpr ⟨ok_istore_n dL_law_17 rfl (by decide), fun _ h => absurd h List.not_mem_nil⟩⟩⟩⟩⟩⟩⟩⟩⟩⟩
def kL_pro : List (Nat × zT) := kL_pro_0
theorem qL_pro_0 : ∀ q ∈ kL_pro_0, q ∈ kL_pro := fun _ h => h
theorem tL_pro_0 : (0, a_new 11 16 3) ∈ kL_pro := qL_pro_0 _ (List.mem_of_getElem? (i := 0) rfl)
theorem tL_pro_3 : (3, a_dup 4) ∈ kL_pro := qL_pro_0 _ (List.mem_of_getElem? (i := 1) rfl)
theorem tL_pro_4 : (4, a_callV 11 89 1 7 109 3180) ∈ kL_pro := qL_pro_0 _ (List.mem_of_getElem? (i := 2) rfl)
theorem tL_pro_7 : (7, a_astore 1 8) ∈ kL_pro := qL_pro_0 _ (List.mem_of_getElem? (i := 3) rfl)
theorem tL_pro_8 : (8, a_new 12 40 11) ∈ kL_pro := qL_pro_0 _ (List.mem_of_getElem? (i := 4) rfl)
theorem tL_pro_11 : (11, a_dup 12) ∈ kL_pro := qL_pro_0 _ (List.mem_of_getElem? (i := 5) rfl)
theorem tL_pro_12 : (12, a_callV 12 137 1 15 32 2445) ∈ kL_pro := qL_pro_0 _ (List.mem_of_getElem? (i := 6) rfl)
theorem tL_pro_15 : (15, a_astore 2 16) ∈ kL_pro := qL_pro_0 _ (List.mem_of_getElem? (i := 7) rfl)
theorem tL_pro_16 : (16, a_i 0 17) ∈ kL_pro := qL_pro_0 _ (List.mem_of_getElem? (i := 8) rfl)
theorem tL_pro_17 : (17, a_istore 3 18) ∈ kL_pro := qL_pro_0 _ (List.mem_of_getElem? (i := 9) rfl)
theorem oL_pro : ∀ q ∈ kL_pro, zSnd zty true RL cL_law 4 (some .boolean) false q := oL_pro_0
theorem dL_law_18 : decode cL_law 18 = .ok (.iload_n 3, 1) := by decide +kernel
theorem dL_law_19 : decode cL_law 19 = .ok (.aload_n 0, 1) := by decide +kernel
theorem dL_law_20 : decode cL_law 20 = .ok (.arraylength, 1) := by decide +kernel
theorem dL_law_21 : decode cL_law 21 = .ok (.iconst 5, 1) := by decide +kernel
theorem dL_law_22 : decode cL_law 22 = .ok (.isub, 1) := by decide +kernel
theorem dL_law_23 : decode cL_law 23 = .ok (.if_icmp .gt 1207, 3) := by decide +kernel
theorem dL_law_26 : decode cL_law 26 = .ok (.aload_n 0, 1) := by decide +kernel
theorem dL_law_27 : decode cL_law 27 = .ok (.iload_n 3, 1) := by decide +kernel
theorem dL_law_28 : decode cL_law 28 = .ok (.iaload, 1) := by decide +kernel
theorem dL_law_29 : decode cL_law 29 = .ok (.bipush 63, 2) := by decide +kernel
theorem dL_law_31 : decode cL_law 31 = .ok (.iand, 1) := by decide +kernel
theorem dL_law_32 : decode cL_law 32 = .ok (.tableswitch 1192 0 37 #[168, 241, 264, 287, 320, 343, 386, 409, 442, 465, 508, 541, 564, 577, 600, 613, 656, 689, 722, 765, 808, 821, 844, 877, 900, 923, 936, 959, 992, 1015, 1038, 1051, 1074, 1107, 1130, 1143, 1156, 1169], 168) := by decide +kernel
theorem dL_law_200 : decode cL_law 200 = .ok (.aload_n 1, 1) := by decide +kernel
theorem dL_law_201 : decode cL_law 201 = .ok (.aload_n 0, 1) := by decide +kernel
theorem dL_law_202 : decode cL_law 202 = .ok (.iload_n 3, 1) := by decide +kernel
theorem dL_law_203 : decode cL_law 203 = .ok (.iconst 1, 1) := by decide +kernel
theorem dL_law_204 : decode cL_law 204 = .ok (.iadd, 1) := by decide +kernel
theorem dL_law_205 : decode cL_law 205 = .ok (.iaload, 1) := by decide +kernel
theorem dL_law_206 : decode cL_law 206 = .ok (.aload_n 0, 1) := by decide +kernel
theorem dL_law_207 : decode cL_law 207 = .ok (.iload_n 3, 1) := by decide +kernel
theorem dL_law_208 : decode cL_law 208 = .ok (.iconst 2, 1) := by decide +kernel
theorem dL_law_209 : decode cL_law 209 = .ok (.iadd, 1) := by decide +kernel
theorem dL_law_210 : decode cL_law 210 = .ok (.iaload, 1) := by decide +kernel
theorem dL_law_211 : decode cL_law 211 = .ok (.aload_n 0, 1) := by decide +kernel
theorem dL_law_212 : decode cL_law 212 = .ok (.iload_n 3, 1) := by decide +kernel
theorem dL_law_213 : decode cL_law 213 = .ok (.iconst 3, 1) := by decide +kernel
theorem dL_law_214 : decode cL_law 214 = .ok (.iadd, 1) := by decide +kernel
theorem dL_law_215 : decode cL_law 215 = .ok (.iaload, 1) := by decide +kernel
theorem dL_law_216 : decode cL_law 216 = .ok (.i2l, 1) := by decide +kernel
theorem dL_law_217 : decode cL_law 217 = .ok (.bipush 32, 2) := by decide +kernel
theorem dL_law_219 : decode cL_law 219 = .ok (.lshl, 1) := by decide +kernel
theorem dL_law_220 : decode cL_law 220 = .ok (.aload_n 0, 1) := by decide +kernel
theorem dL_law_221 : decode cL_law 221 = .ok (.iload_n 3, 1) := by decide +kernel
theorem dL_law_222 : decode cL_law 222 = .ok (.iconst 4, 1) := by decide +kernel
theorem dL_law_223 : decode cL_law 223 = .ok (.iadd, 1) := by decide +kernel
theorem dL_law_224 : decode cL_law 224 = .ok (.iaload, 1) := by decide +kernel
theorem dL_law_225 : decode cL_law 225 = .ok (.i2l, 1) := by decide +kernel
theorem dL_law_226 : decode cL_law 226 = .ok (.ldc2_w 13, 3) := by decide +kernel
theorem dL_law_229 : decode cL_law 229 = .ok (.land, 1) := by decide +kernel
theorem dL_law_230 : decode cL_law 230 = .ok (.lor, 1) := by decide +kernel
theorem dL_law_231 : decode cL_law 231 = .ok (.invokevirtual 15, 3) := by decide +kernel
theorem dL_law_234 : decode cL_law 234 = .ok (.aload_n 2, 1) := by decide +kernel
theorem dL_law_235 : decode cL_law 235 = .ok (.aload_n 0, 1) := by decide +kernel
theorem dL_law_236 : decode cL_law 236 = .ok (.iload_n 3, 1) := by decide +kernel
theorem dL_law_237 : decode cL_law 237 = .ok (.iconst 1, 1) := by decide +kernel
theorem dL_law_238 : decode cL_law 238 = .ok (.iadd, 1) := by decide +kernel
theorem dL_law_239 : decode cL_law 239 = .ok (.iaload, 1) := by decide +kernel
theorem dL_law_240 : decode cL_law 240 = .ok (.aload_n 0, 1) := by decide +kernel
theorem dL_law_241 : decode cL_law 241 = .ok (.iload_n 3, 1) := by decide +kernel
theorem dL_law_242 : decode cL_law 242 = .ok (.iconst 2, 1) := by decide +kernel
theorem dL_law_243 : decode cL_law 243 = .ok (.iadd, 1) := by decide +kernel
theorem dL_law_244 : decode cL_law 244 = .ok (.iaload, 1) := by decide +kernel
theorem dL_law_245 : decode cL_law 245 = .ok (.aload_n 0, 1) := by decide +kernel
theorem dL_law_246 : decode cL_law 246 = .ok (.iload_n 3, 1) := by decide +kernel
theorem dL_law_247 : decode cL_law 247 = .ok (.iconst 3, 1) := by decide +kernel
theorem dL_law_248 : decode cL_law 248 = .ok (.iadd, 1) := by decide +kernel
theorem dL_law_249 : decode cL_law 249 = .ok (.iaload, 1) := by decide +kernel
theorem dL_law_250 : decode cL_law 250 = .ok (.i2l, 1) := by decide +kernel
theorem dL_law_251 : decode cL_law 251 = .ok (.bipush 32, 2) := by decide +kernel
theorem dL_law_253 : decode cL_law 253 = .ok (.lshl, 1) := by decide +kernel
theorem dL_law_254 : decode cL_law 254 = .ok (.aload_n 0, 1) := by decide +kernel
theorem dL_law_255 : decode cL_law 255 = .ok (.iload_n 3, 1) := by decide +kernel
theorem dL_law_256 : decode cL_law 256 = .ok (.iconst 4, 1) := by decide +kernel
theorem dL_law_257 : decode cL_law 257 = .ok (.iadd, 1) := by decide +kernel
theorem dL_law_258 : decode cL_law 258 = .ok (.iaload, 1) := by decide +kernel
theorem dL_law_259 : decode cL_law 259 = .ok (.i2l, 1) := by decide +kernel
theorem dL_law_260 : decode cL_law 260 = .ok (.ldc2_w 13, 3) := by decide +kernel
theorem dL_law_263 : decode cL_law 263 = .ok (.land, 1) := by decide +kernel
theorem dL_law_264 : decode cL_law 264 = .ok (.lor, 1) := by decide +kernel
theorem dL_law_265 : decode cL_law 265 = .ok (.invokevirtual 19, 3) := by decide +kernel
theorem dL_law_268 : decode cL_law 268 = .ok (.if_icmp .eq 956, 3) := by decide +kernel
theorem dL_law_271 : decode cL_law 271 = .ok (.iconst 0, 1) := by decide +kernel
theorem dL_law_272 : decode cL_law 272 = .ok (.ireturn, 1) := by decide +kernel
theorem dL_law_273 : decode cL_law 273 = .ok (.aload_n 1, 1) := by decide +kernel
theorem dL_law_274 : decode cL_law 274 = .ok (.aload_n 0, 1) := by decide +kernel
theorem dL_law_275 : decode cL_law 275 = .ok (.iload_n 3, 1) := by decide +kernel
theorem dL_law_276 : decode cL_law 276 = .ok (.iconst 1, 1) := by decide +kernel
theorem dL_law_277 : decode cL_law 277 = .ok (.iadd, 1) := by decide +kernel
theorem dL_law_278 : decode cL_law 278 = .ok (.iaload, 1) := by decide +kernel
theorem dL_law_279 : decode cL_law 279 = .ok (.invokevirtual 20, 3) := by decide +kernel
theorem dL_law_282 : decode cL_law 282 = .ok (.aload_n 2, 1) := by decide +kernel
theorem dL_law_283 : decode cL_law 283 = .ok (.aload_n 0, 1) := by decide +kernel
theorem dL_law_284 : decode cL_law 284 = .ok (.iload_n 3, 1) := by decide +kernel
theorem dL_law_285 : decode cL_law 285 = .ok (.iconst 1, 1) := by decide +kernel
theorem dL_law_286 : decode cL_law 286 = .ok (.iadd, 1) := by decide +kernel
theorem dL_law_287 : decode cL_law 287 = .ok (.iaload, 1) := by decide +kernel
theorem dL_law_288 : decode cL_law 288 = .ok (.invokevirtual 24, 3) := by decide +kernel
theorem dL_law_291 : decode cL_law 291 = .ok (.if_icmp .eq 933, 3) := by decide +kernel
theorem dL_law_294 : decode cL_law 294 = .ok (.iconst 0, 1) := by decide +kernel
theorem dL_law_295 : decode cL_law 295 = .ok (.ireturn, 1) := by decide +kernel
theorem dL_law_296 : decode cL_law 296 = .ok (.aload_n 1, 1) := by decide +kernel
theorem dL_law_297 : decode cL_law 297 = .ok (.aload_n 0, 1) := by decide +kernel
theorem dL_law_298 : decode cL_law 298 = .ok (.iload_n 3, 1) := by decide +kernel
theorem dL_law_299 : decode cL_law 299 = .ok (.iconst 1, 1) := by decide +kernel
theorem dL_law_300 : decode cL_law 300 = .ok (.iadd, 1) := by decide +kernel
theorem dL_law_301 : decode cL_law 301 = .ok (.iaload, 1) := by decide +kernel
theorem dL_law_302 : decode cL_law 302 = .ok (.invokevirtual 25, 3) := by decide +kernel
theorem dL_law_305 : decode cL_law 305 = .ok (.aload_n 2, 1) := by decide +kernel
theorem dL_law_306 : decode cL_law 306 = .ok (.aload_n 0, 1) := by decide +kernel
theorem dL_law_307 : decode cL_law 307 = .ok (.iload_n 3, 1) := by decide +kernel
theorem dL_law_308 : decode cL_law 308 = .ok (.iconst 1, 1) := by decide +kernel
theorem dL_law_309 : decode cL_law 309 = .ok (.iadd, 1) := by decide +kernel
theorem dL_law_310 : decode cL_law 310 = .ok (.iaload, 1) := by decide +kernel
theorem dL_law_311 : decode cL_law 311 = .ok (.invokevirtual 28, 3) := by decide +kernel
theorem dL_law_314 : decode cL_law 314 = .ok (.if_icmp .eq 910, 3) := by decide +kernel
theorem dL_law_317 : decode cL_law 317 = .ok (.iconst 0, 1) := by decide +kernel
theorem dL_law_318 : decode cL_law 318 = .ok (.ireturn, 1) := by decide +kernel
theorem dL_law_319 : decode cL_law 319 = .ok (.aload_n 1, 1) := by decide +kernel
theorem dL_law_320 : decode cL_law 320 = .ok (.aload_n 0, 1) := by decide +kernel
theorem dL_law_321 : decode cL_law 321 = .ok (.iload_n 3, 1) := by decide +kernel
theorem dL_law_322 : decode cL_law 322 = .ok (.iconst 1, 1) := by decide +kernel
theorem dL_law_323 : decode cL_law 323 = .ok (.iadd, 1) := by decide +kernel
theorem dL_law_324 : decode cL_law 324 = .ok (.iaload, 1) := by decide +kernel
theorem dL_law_325 : decode cL_law 325 = .ok (.aload_n 0, 1) := by decide +kernel
theorem dL_law_326 : decode cL_law 326 = .ok (.iload_n 3, 1) := by decide +kernel
theorem dL_law_327 : decode cL_law 327 = .ok (.iconst 2, 1) := by decide +kernel
theorem dL_law_328 : decode cL_law 328 = .ok (.iadd, 1) := by decide +kernel
theorem dL_law_329 : decode cL_law 329 = .ok (.iaload, 1) := by decide +kernel
theorem dL_law_330 : decode cL_law 330 = .ok (.invokevirtual 29, 3) := by decide +kernel
theorem dL_law_333 : decode cL_law 333 = .ok (.aload_n 2, 1) := by decide +kernel
theorem dL_law_334 : decode cL_law 334 = .ok (.aload_n 0, 1) := by decide +kernel
theorem dL_law_335 : decode cL_law 335 = .ok (.iload_n 3, 1) := by decide +kernel
theorem dL_law_336 : decode cL_law 336 = .ok (.iconst 1, 1) := by decide +kernel
theorem dL_law_337 : decode cL_law 337 = .ok (.iadd, 1) := by decide +kernel
theorem dL_law_338 : decode cL_law 338 = .ok (.iaload, 1) := by decide +kernel
theorem dL_law_339 : decode cL_law 339 = .ok (.aload_n 0, 1) := by decide +kernel
theorem dL_law_340 : decode cL_law 340 = .ok (.iload_n 3, 1) := by decide +kernel
theorem dL_law_341 : decode cL_law 341 = .ok (.iconst 2, 1) := by decide +kernel
theorem dL_law_342 : decode cL_law 342 = .ok (.iadd, 1) := by decide +kernel
theorem dL_law_343 : decode cL_law 343 = .ok (.iaload, 1) := by decide +kernel
theorem dL_law_344 : decode cL_law 344 = .ok (.invokevirtual 33, 3) := by decide +kernel
theorem dL_law_347 : decode cL_law 347 = .ok (.if_icmp .eq 877, 3) := by decide +kernel
theorem dL_law_350 : decode cL_law 350 = .ok (.iconst 0, 1) := by decide +kernel
theorem dL_law_351 : decode cL_law 351 = .ok (.ireturn, 1) := by decide +kernel
theorem dL_law_352 : decode cL_law 352 = .ok (.aload_n 1, 1) := by decide +kernel
theorem dL_law_353 : decode cL_law 353 = .ok (.aload_n 0, 1) := by decide +kernel
theorem dL_law_354 : decode cL_law 354 = .ok (.iload_n 3, 1) := by decide +kernel
theorem dL_law_355 : decode cL_law 355 = .ok (.iconst 1, 1) := by decide +kernel
theorem dL_law_356 : decode cL_law 356 = .ok (.iadd, 1) := by decide +kernel
theorem dL_law_357 : decode cL_law 357 = .ok (.iaload, 1) := by decide +kernel
theorem dL_law_358 : decode cL_law 358 = .ok (.invokevirtual 34, 3) := by decide +kernel
theorem dL_law_361 : decode cL_law 361 = .ok (.aload_n 2, 1) := by decide +kernel
theorem dL_law_362 : decode cL_law 362 = .ok (.aload_n 0, 1) := by decide +kernel
theorem dL_law_363 : decode cL_law 363 = .ok (.iload_n 3, 1) := by decide +kernel
theorem dL_law_364 : decode cL_law 364 = .ok (.iconst 1, 1) := by decide +kernel
theorem dL_law_365 : decode cL_law 365 = .ok (.iadd, 1) := by decide +kernel
theorem dL_law_366 : decode cL_law 366 = .ok (.iaload, 1) := by decide +kernel
theorem dL_law_367 : decode cL_law 367 = .ok (.invokevirtual 37, 3) := by decide +kernel
theorem dL_law_370 : decode cL_law 370 = .ok (.if_icmp .eq 854, 3) := by decide +kernel
theorem dL_law_373 : decode cL_law 373 = .ok (.iconst 0, 1) := by decide +kernel
theorem dL_law_374 : decode cL_law 374 = .ok (.ireturn, 1) := by decide +kernel
theorem dL_law_375 : decode cL_law 375 = .ok (.aload_n 1, 1) := by decide +kernel
theorem dL_law_376 : decode cL_law 376 = .ok (.aload_n 0, 1) := by decide +kernel
theorem dL_law_377 : decode cL_law 377 = .ok (.iload_n 3, 1) := by decide +kernel
theorem dL_law_378 : decode cL_law 378 = .ok (.iconst 1, 1) := by decide +kernel
theorem dL_law_379 : decode cL_law 379 = .ok (.iadd, 1) := by decide +kernel
theorem dL_law_380 : decode cL_law 380 = .ok (.iaload, 1) := by decide +kernel
theorem dL_law_381 : decode cL_law 381 = .ok (.aload_n 0, 1) := by decide +kernel
theorem dL_law_382 : decode cL_law 382 = .ok (.iload_n 3, 1) := by decide +kernel
theorem dL_law_383 : decode cL_law 383 = .ok (.iconst 2, 1) := by decide +kernel
theorem dL_law_384 : decode cL_law 384 = .ok (.iadd, 1) := by decide +kernel
theorem dL_law_385 : decode cL_law 385 = .ok (.iaload, 1) := by decide +kernel
theorem dL_law_386 : decode cL_law 386 = .ok (.aload_n 0, 1) := by decide +kernel
theorem dL_law_387 : decode cL_law 387 = .ok (.iload_n 3, 1) := by decide +kernel
theorem dL_law_388 : decode cL_law 388 = .ok (.iconst 3, 1) := by decide +kernel
theorem dL_law_389 : decode cL_law 389 = .ok (.iadd, 1) := by decide +kernel
theorem dL_law_390 : decode cL_law 390 = .ok (.iaload, 1) := by decide +kernel
theorem dL_law_391 : decode cL_law 391 = .ok (.invokevirtual 38, 3) := by decide +kernel
theorem dL_law_394 : decode cL_law 394 = .ok (.aload_n 2, 1) := by decide +kernel
theorem dL_law_395 : decode cL_law 395 = .ok (.aload_n 0, 1) := by decide +kernel
theorem dL_law_396 : decode cL_law 396 = .ok (.iload_n 3, 1) := by decide +kernel
theorem dL_law_397 : decode cL_law 397 = .ok (.iconst 1, 1) := by decide +kernel
theorem dL_law_398 : decode cL_law 398 = .ok (.iadd, 1) := by decide +kernel
theorem dL_law_399 : decode cL_law 399 = .ok (.iaload, 1) := by decide +kernel
theorem dL_law_400 : decode cL_law 400 = .ok (.aload_n 0, 1) := by decide +kernel
theorem dL_law_401 : decode cL_law 401 = .ok (.iload_n 3, 1) := by decide +kernel
theorem dL_law_402 : decode cL_law 402 = .ok (.iconst 2, 1) := by decide +kernel
theorem dL_law_403 : decode cL_law 403 = .ok (.iadd, 1) := by decide +kernel
theorem dL_law_404 : decode cL_law 404 = .ok (.iaload, 1) := by decide +kernel
theorem dL_law_405 : decode cL_law 405 = .ok (.aload_n 0, 1) := by decide +kernel
theorem dL_law_406 : decode cL_law 406 = .ok (.iload_n 3, 1) := by decide +kernel
theorem dL_law_407 : decode cL_law 407 = .ok (.iconst 3, 1) := by decide +kernel
theorem dL_law_408 : decode cL_law 408 = .ok (.iadd, 1) := by decide +kernel
theorem dL_law_409 : decode cL_law 409 = .ok (.iaload, 1) := by decide +kernel
theorem dL_law_410 : decode cL_law 410 = .ok (.invokevirtual 42, 3) := by decide +kernel
theorem dL_law_413 : decode cL_law 413 = .ok (.if_icmp .eq 811, 3) := by decide +kernel
theorem dL_law_416 : decode cL_law 416 = .ok (.iconst 0, 1) := by decide +kernel
theorem dL_law_417 : decode cL_law 417 = .ok (.ireturn, 1) := by decide +kernel
theorem dL_law_418 : decode cL_law 418 = .ok (.aload_n 1, 1) := by decide +kernel
theorem dL_law_419 : decode cL_law 419 = .ok (.aload_n 0, 1) := by decide +kernel
theorem dL_law_420 : decode cL_law 420 = .ok (.iload_n 3, 1) := by decide +kernel
theorem dL_law_421 : decode cL_law 421 = .ok (.iconst 1, 1) := by decide +kernel
theorem dL_law_422 : decode cL_law 422 = .ok (.iadd, 1) := by decide +kernel
theorem dL_law_423 : decode cL_law 423 = .ok (.iaload, 1) := by decide +kernel
theorem dL_law_424 : decode cL_law 424 = .ok (.invokevirtual 43, 3) := by decide +kernel
theorem dL_law_427 : decode cL_law 427 = .ok (.aload_n 2, 1) := by decide +kernel
theorem dL_law_428 : decode cL_law 428 = .ok (.aload_n 0, 1) := by decide +kernel
theorem dL_law_429 : decode cL_law 429 = .ok (.iload_n 3, 1) := by decide +kernel
theorem dL_law_430 : decode cL_law 430 = .ok (.iconst 1, 1) := by decide +kernel
theorem dL_law_431 : decode cL_law 431 = .ok (.iadd, 1) := by decide +kernel
theorem dL_law_432 : decode cL_law 432 = .ok (.iaload, 1) := by decide +kernel
theorem dL_law_433 : decode cL_law 433 = .ok (.invokevirtual 46, 3) := by decide +kernel
theorem dL_law_436 : decode cL_law 436 = .ok (.if_icmp .eq 788, 3) := by decide +kernel
theorem dL_law_439 : decode cL_law 439 = .ok (.iconst 0, 1) := by decide +kernel
theorem dL_law_440 : decode cL_law 440 = .ok (.ireturn, 1) := by decide +kernel
theorem dL_law_441 : decode cL_law 441 = .ok (.aload_n 1, 1) := by decide +kernel
theorem dL_law_442 : decode cL_law 442 = .ok (.aload_n 0, 1) := by decide +kernel
theorem dL_law_443 : decode cL_law 443 = .ok (.iload_n 3, 1) := by decide +kernel
theorem dL_law_444 : decode cL_law 444 = .ok (.iconst 1, 1) := by decide +kernel
theorem dL_law_445 : decode cL_law 445 = .ok (.iadd, 1) := by decide +kernel
theorem dL_law_446 : decode cL_law 446 = .ok (.iaload, 1) := by decide +kernel
theorem dL_law_447 : decode cL_law 447 = .ok (.aload_n 0, 1) := by decide +kernel
theorem dL_law_448 : decode cL_law 448 = .ok (.iload_n 3, 1) := by decide +kernel
theorem dL_law_449 : decode cL_law 449 = .ok (.iconst 2, 1) := by decide +kernel
theorem dL_law_450 : decode cL_law 450 = .ok (.iadd, 1) := by decide +kernel
theorem dL_law_451 : decode cL_law 451 = .ok (.iaload, 1) := by decide +kernel
theorem dL_law_452 : decode cL_law 452 = .ok (.invokevirtual 47, 3) := by decide +kernel
theorem dL_law_455 : decode cL_law 455 = .ok (.aload_n 2, 1) := by decide +kernel
theorem dL_law_456 : decode cL_law 456 = .ok (.aload_n 0, 1) := by decide +kernel
theorem dL_law_457 : decode cL_law 457 = .ok (.iload_n 3, 1) := by decide +kernel
theorem dL_law_458 : decode cL_law 458 = .ok (.iconst 1, 1) := by decide +kernel
theorem dL_law_459 : decode cL_law 459 = .ok (.iadd, 1) := by decide +kernel
theorem dL_law_460 : decode cL_law 460 = .ok (.iaload, 1) := by decide +kernel
theorem dL_law_461 : decode cL_law 461 = .ok (.aload_n 0, 1) := by decide +kernel
theorem dL_law_462 : decode cL_law 462 = .ok (.iload_n 3, 1) := by decide +kernel
theorem dL_law_463 : decode cL_law 463 = .ok (.iconst 2, 1) := by decide +kernel
theorem dL_law_464 : decode cL_law 464 = .ok (.iadd, 1) := by decide +kernel
theorem dL_law_465 : decode cL_law 465 = .ok (.iaload, 1) := by decide +kernel
theorem dL_law_466 : decode cL_law 466 = .ok (.invokevirtual 50, 3) := by decide +kernel
theorem dL_law_469 : decode cL_law 469 = .ok (.if_icmp .eq 755, 3) := by decide +kernel
theorem dL_law_472 : decode cL_law 472 = .ok (.iconst 0, 1) := by decide +kernel
theorem dL_law_473 : decode cL_law 473 = .ok (.ireturn, 1) := by decide +kernel
theorem dL_law_474 : decode cL_law 474 = .ok (.aload_n 1, 1) := by decide +kernel
theorem dL_law_475 : decode cL_law 475 = .ok (.aload_n 0, 1) := by decide +kernel
theorem dL_law_476 : decode cL_law 476 = .ok (.iload_n 3, 1) := by decide +kernel
theorem dL_law_477 : decode cL_law 477 = .ok (.iconst 1, 1) := by decide +kernel
theorem dL_law_478 : decode cL_law 478 = .ok (.iadd, 1) := by decide +kernel
theorem dL_law_479 : decode cL_law 479 = .ok (.iaload, 1) := by decide +kernel
theorem dL_law_480 : decode cL_law 480 = .ok (.invokevirtual 51, 3) := by decide +kernel
theorem dL_law_483 : decode cL_law 483 = .ok (.aload_n 2, 1) := by decide +kernel
theorem dL_law_484 : decode cL_law 484 = .ok (.aload_n 0, 1) := by decide +kernel
theorem dL_law_485 : decode cL_law 485 = .ok (.iload_n 3, 1) := by decide +kernel
theorem dL_law_486 : decode cL_law 486 = .ok (.iconst 1, 1) := by decide +kernel
theorem dL_law_487 : decode cL_law 487 = .ok (.iadd, 1) := by decide +kernel
theorem dL_law_488 : decode cL_law 488 = .ok (.iaload, 1) := by decide +kernel
theorem dL_law_489 : decode cL_law 489 = .ok (.invokevirtual 54, 3) := by decide +kernel
theorem dL_law_492 : decode cL_law 492 = .ok (.if_icmp .eq 732, 3) := by decide +kernel
theorem dL_law_495 : decode cL_law 495 = .ok (.iconst 0, 1) := by decide +kernel
theorem dL_law_496 : decode cL_law 496 = .ok (.ireturn, 1) := by decide +kernel
theorem dL_law_497 : decode cL_law 497 = .ok (.aload_n 1, 1) := by decide +kernel
theorem dL_law_498 : decode cL_law 498 = .ok (.aload_n 0, 1) := by decide +kernel
theorem dL_law_499 : decode cL_law 499 = .ok (.iload_n 3, 1) := by decide +kernel
theorem dL_law_500 : decode cL_law 500 = .ok (.iconst 1, 1) := by decide +kernel
theorem dL_law_501 : decode cL_law 501 = .ok (.iadd, 1) := by decide +kernel
theorem dL_law_502 : decode cL_law 502 = .ok (.iaload, 1) := by decide +kernel
theorem dL_law_503 : decode cL_law 503 = .ok (.aload_n 0, 1) := by decide +kernel
theorem dL_law_504 : decode cL_law 504 = .ok (.iload_n 3, 1) := by decide +kernel
theorem dL_law_505 : decode cL_law 505 = .ok (.iconst 2, 1) := by decide +kernel
theorem dL_law_506 : decode cL_law 506 = .ok (.iadd, 1) := by decide +kernel
theorem dL_law_507 : decode cL_law 507 = .ok (.iaload, 1) := by decide +kernel
theorem dL_law_508 : decode cL_law 508 = .ok (.aload_n 0, 1) := by decide +kernel
theorem dL_law_509 : decode cL_law 509 = .ok (.iload_n 3, 1) := by decide +kernel
theorem dL_law_510 : decode cL_law 510 = .ok (.iconst 3, 1) := by decide +kernel
theorem dL_law_511 : decode cL_law 511 = .ok (.iadd, 1) := by decide +kernel
theorem dL_law_512 : decode cL_law 512 = .ok (.iaload, 1) := by decide +kernel
theorem dL_law_513 : decode cL_law 513 = .ok (.invokevirtual 55, 3) := by decide +kernel
theorem dL_law_516 : decode cL_law 516 = .ok (.aload_n 2, 1) := by decide +kernel
theorem dL_law_517 : decode cL_law 517 = .ok (.aload_n 0, 1) := by decide +kernel
theorem dL_law_518 : decode cL_law 518 = .ok (.iload_n 3, 1) := by decide +kernel
theorem dL_law_519 : decode cL_law 519 = .ok (.iconst 1, 1) := by decide +kernel
theorem dL_law_520 : decode cL_law 520 = .ok (.iadd, 1) := by decide +kernel
theorem dL_law_521 : decode cL_law 521 = .ok (.iaload, 1) := by decide +kernel
theorem dL_law_522 : decode cL_law 522 = .ok (.aload_n 0, 1) := by decide +kernel
theorem dL_law_523 : decode cL_law 523 = .ok (.iload_n 3, 1) := by decide +kernel
theorem dL_law_524 : decode cL_law 524 = .ok (.iconst 2, 1) := by decide +kernel
theorem dL_law_525 : decode cL_law 525 = .ok (.iadd, 1) := by decide +kernel
theorem dL_law_526 : decode cL_law 526 = .ok (.iaload, 1) := by decide +kernel
theorem dL_law_527 : decode cL_law 527 = .ok (.aload_n 0, 1) := by decide +kernel
theorem dL_law_528 : decode cL_law 528 = .ok (.iload_n 3, 1) := by decide +kernel
theorem dL_law_529 : decode cL_law 529 = .ok (.iconst 3, 1) := by decide +kernel
theorem dL_law_530 : decode cL_law 530 = .ok (.iadd, 1) := by decide +kernel
theorem dL_law_531 : decode cL_law 531 = .ok (.iaload, 1) := by decide +kernel
theorem dL_law_532 : decode cL_law 532 = .ok (.invokevirtual 58, 3) := by decide +kernel
theorem dL_law_535 : decode cL_law 535 = .ok (.if_icmp .eq 689, 3) := by decide +kernel
theorem dL_law_538 : decode cL_law 538 = .ok (.iconst 0, 1) := by decide +kernel
theorem dL_law_539 : decode cL_law 539 = .ok (.ireturn, 1) := by decide +kernel
theorem dL_law_540 : decode cL_law 540 = .ok (.aload_n 1, 1) := by decide +kernel
theorem dL_law_541 : decode cL_law 541 = .ok (.aload_n 0, 1) := by decide +kernel
theorem dL_law_542 : decode cL_law 542 = .ok (.iload_n 3, 1) := by decide +kernel
theorem dL_law_543 : decode cL_law 543 = .ok (.iconst 1, 1) := by decide +kernel
theorem dL_law_544 : decode cL_law 544 = .ok (.iadd, 1) := by decide +kernel
theorem dL_law_545 : decode cL_law 545 = .ok (.iaload, 1) := by decide +kernel
theorem dL_law_546 : decode cL_law 546 = .ok (.aload_n 0, 1) := by decide +kernel
theorem dL_law_547 : decode cL_law 547 = .ok (.iload_n 3, 1) := by decide +kernel
theorem dL_law_548 : decode cL_law 548 = .ok (.iconst 2, 1) := by decide +kernel
theorem dL_law_549 : decode cL_law 549 = .ok (.iadd, 1) := by decide +kernel
theorem dL_law_550 : decode cL_law 550 = .ok (.iaload, 1) := by decide +kernel
theorem dL_law_551 : decode cL_law 551 = .ok (.invokevirtual 59, 3) := by decide +kernel
theorem dL_law_554 : decode cL_law 554 = .ok (.aload_n 2, 1) := by decide +kernel
theorem dL_law_555 : decode cL_law 555 = .ok (.aload_n 0, 1) := by decide +kernel
theorem dL_law_556 : decode cL_law 556 = .ok (.iload_n 3, 1) := by decide +kernel
theorem dL_law_557 : decode cL_law 557 = .ok (.iconst 1, 1) := by decide +kernel
theorem dL_law_558 : decode cL_law 558 = .ok (.iadd, 1) := by decide +kernel
theorem dL_law_559 : decode cL_law 559 = .ok (.iaload, 1) := by decide +kernel
theorem dL_law_560 : decode cL_law 560 = .ok (.aload_n 0, 1) := by decide +kernel
theorem dL_law_561 : decode cL_law 561 = .ok (.iload_n 3, 1) := by decide +kernel
theorem dL_law_562 : decode cL_law 562 = .ok (.iconst 2, 1) := by decide +kernel
theorem dL_law_563 : decode cL_law 563 = .ok (.iadd, 1) := by decide +kernel
theorem dL_law_564 : decode cL_law 564 = .ok (.iaload, 1) := by decide +kernel
theorem dL_law_565 : decode cL_law 565 = .ok (.invokevirtual 62, 3) := by decide +kernel
theorem dL_law_568 : decode cL_law 568 = .ok (.if_icmp .eq 656, 3) := by decide +kernel
theorem dL_law_571 : decode cL_law 571 = .ok (.iconst 0, 1) := by decide +kernel
theorem dL_law_572 : decode cL_law 572 = .ok (.ireturn, 1) := by decide +kernel
theorem dL_law_573 : decode cL_law 573 = .ok (.aload_n 1, 1) := by decide +kernel
theorem dL_law_574 : decode cL_law 574 = .ok (.aload_n 0, 1) := by decide +kernel
theorem dL_law_575 : decode cL_law 575 = .ok (.iload_n 3, 1) := by decide +kernel
theorem dL_law_576 : decode cL_law 576 = .ok (.iconst 1, 1) := by decide +kernel
theorem dL_law_577 : decode cL_law 577 = .ok (.iadd, 1) := by decide +kernel
theorem dL_law_578 : decode cL_law 578 = .ok (.iaload, 1) := by decide +kernel
theorem dL_law_579 : decode cL_law 579 = .ok (.invokevirtual 63, 3) := by decide +kernel
theorem dL_law_582 : decode cL_law 582 = .ok (.aload_n 2, 1) := by decide +kernel
theorem dL_law_583 : decode cL_law 583 = .ok (.aload_n 0, 1) := by decide +kernel
theorem dL_law_584 : decode cL_law 584 = .ok (.iload_n 3, 1) := by decide +kernel
theorem dL_law_585 : decode cL_law 585 = .ok (.iconst 1, 1) := by decide +kernel
theorem dL_law_586 : decode cL_law 586 = .ok (.iadd, 1) := by decide +kernel
theorem dL_law_587 : decode cL_law 587 = .ok (.iaload, 1) := by decide +kernel
theorem dL_law_588 : decode cL_law 588 = .ok (.invokevirtual 66, 3) := by decide +kernel
theorem dL_law_591 : decode cL_law 591 = .ok (.if_icmp .eq 633, 3) := by decide +kernel
theorem dL_law_594 : decode cL_law 594 = .ok (.iconst 0, 1) := by decide +kernel
theorem dL_law_595 : decode cL_law 595 = .ok (.ireturn, 1) := by decide +kernel
theorem dL_law_596 : decode cL_law 596 = .ok (.aload_n 1, 1) := by decide +kernel
theorem dL_law_597 : decode cL_law 597 = .ok (.invokevirtual 67, 3) := by decide +kernel
theorem dL_law_600 : decode cL_law 600 = .ok (.aload_n 2, 1) := by decide +kernel
theorem dL_law_601 : decode cL_law 601 = .ok (.invokevirtual 71, 3) := by decide +kernel
theorem dL_law_604 : decode cL_law 604 = .ok (.if_icmp .eq 620, 3) := by decide +kernel
theorem dL_law_607 : decode cL_law 607 = .ok (.iconst 0, 1) := by decide +kernel
theorem dL_law_608 : decode cL_law 608 = .ok (.ireturn, 1) := by decide +kernel
theorem dL_law_609 : decode cL_law 609 = .ok (.aload_n 1, 1) := by decide +kernel
theorem dL_law_610 : decode cL_law 610 = .ok (.aload_n 0, 1) := by decide +kernel
theorem dL_law_611 : decode cL_law 611 = .ok (.iload_n 3, 1) := by decide +kernel
theorem dL_law_612 : decode cL_law 612 = .ok (.iconst 1, 1) := by decide +kernel
theorem dL_law_613 : decode cL_law 613 = .ok (.iadd, 1) := by decide +kernel
theorem dL_law_614 : decode cL_law 614 = .ok (.iaload, 1) := by decide +kernel
theorem dL_law_615 : decode cL_law 615 = .ok (.invokevirtual 72, 3) := by decide +kernel
theorem dL_law_618 : decode cL_law 618 = .ok (.aload_n 2, 1) := by decide +kernel
theorem dL_law_619 : decode cL_law 619 = .ok (.aload_n 0, 1) := by decide +kernel
theorem dL_law_620 : decode cL_law 620 = .ok (.iload_n 3, 1) := by decide +kernel
theorem dL_law_621 : decode cL_law 621 = .ok (.iconst 1, 1) := by decide +kernel
theorem dL_law_622 : decode cL_law 622 = .ok (.iadd, 1) := by decide +kernel
theorem dL_law_623 : decode cL_law 623 = .ok (.iaload, 1) := by decide +kernel
theorem dL_law_624 : decode cL_law 624 = .ok (.invokevirtual 75, 3) := by decide +kernel
theorem dL_law_627 : decode cL_law 627 = .ok (.if_icmp .eq 597, 3) := by decide +kernel
theorem dL_law_630 : decode cL_law 630 = .ok (.iconst 0, 1) := by decide +kernel
theorem dL_law_631 : decode cL_law 631 = .ok (.ireturn, 1) := by decide +kernel
theorem dL_law_632 : decode cL_law 632 = .ok (.aload_n 1, 1) := by decide +kernel
theorem dL_law_633 : decode cL_law 633 = .ok (.invokevirtual 76, 3) := by decide +kernel
theorem dL_law_636 : decode cL_law 636 = .ok (.aload_n 2, 1) := by decide +kernel
theorem dL_law_637 : decode cL_law 637 = .ok (.invokevirtual 79, 3) := by decide +kernel
theorem dL_law_640 : decode cL_law 640 = .ok (.if_icmp .eq 584, 3) := by decide +kernel
theorem dL_law_643 : decode cL_law 643 = .ok (.iconst 0, 1) := by decide +kernel
theorem dL_law_644 : decode cL_law 644 = .ok (.ireturn, 1) := by decide +kernel
theorem dL_law_645 : decode cL_law 645 = .ok (.aload_n 1, 1) := by decide +kernel
theorem dL_law_646 : decode cL_law 646 = .ok (.aload_n 0, 1) := by decide +kernel
theorem dL_law_647 : decode cL_law 647 = .ok (.iload_n 3, 1) := by decide +kernel
theorem dL_law_648 : decode cL_law 648 = .ok (.iconst 1, 1) := by decide +kernel
theorem dL_law_649 : decode cL_law 649 = .ok (.iadd, 1) := by decide +kernel
theorem dL_law_650 : decode cL_law 650 = .ok (.iaload, 1) := by decide +kernel
theorem dL_law_651 : decode cL_law 651 = .ok (.aload_n 0, 1) := by decide +kernel
theorem dL_law_652 : decode cL_law 652 = .ok (.iload_n 3, 1) := by decide +kernel
theorem dL_law_653 : decode cL_law 653 = .ok (.iconst 2, 1) := by decide +kernel
theorem dL_law_654 : decode cL_law 654 = .ok (.iadd, 1) := by decide +kernel
theorem dL_law_655 : decode cL_law 655 = .ok (.iaload, 1) := by decide +kernel
theorem dL_law_656 : decode cL_law 656 = .ok (.aload_n 0, 1) := by decide +kernel
theorem dL_law_657 : decode cL_law 657 = .ok (.iload_n 3, 1) := by decide +kernel
theorem dL_law_658 : decode cL_law 658 = .ok (.iconst 3, 1) := by decide +kernel
theorem dL_law_659 : decode cL_law 659 = .ok (.iadd, 1) := by decide +kernel
theorem dL_law_660 : decode cL_law 660 = .ok (.iaload, 1) := by decide +kernel
theorem dL_law_661 : decode cL_law 661 = .ok (.invokevirtual 80, 3) := by decide +kernel
theorem dL_law_664 : decode cL_law 664 = .ok (.aload_n 2, 1) := by decide +kernel
theorem dL_law_665 : decode cL_law 665 = .ok (.aload_n 0, 1) := by decide +kernel
theorem dL_law_666 : decode cL_law 666 = .ok (.iload_n 3, 1) := by decide +kernel
theorem dL_law_667 : decode cL_law 667 = .ok (.iconst 1, 1) := by decide +kernel
theorem dL_law_668 : decode cL_law 668 = .ok (.iadd, 1) := by decide +kernel
theorem dL_law_669 : decode cL_law 669 = .ok (.iaload, 1) := by decide +kernel
theorem dL_law_670 : decode cL_law 670 = .ok (.aload_n 0, 1) := by decide +kernel
theorem dL_law_671 : decode cL_law 671 = .ok (.iload_n 3, 1) := by decide +kernel
theorem dL_law_672 : decode cL_law 672 = .ok (.iconst 2, 1) := by decide +kernel
theorem dL_law_673 : decode cL_law 673 = .ok (.iadd, 1) := by decide +kernel
theorem dL_law_674 : decode cL_law 674 = .ok (.iaload, 1) := by decide +kernel
theorem dL_law_675 : decode cL_law 675 = .ok (.aload_n 0, 1) := by decide +kernel
theorem dL_law_676 : decode cL_law 676 = .ok (.iload_n 3, 1) := by decide +kernel
theorem dL_law_677 : decode cL_law 677 = .ok (.iconst 3, 1) := by decide +kernel
theorem dL_law_678 : decode cL_law 678 = .ok (.iadd, 1) := by decide +kernel
theorem dL_law_679 : decode cL_law 679 = .ok (.iaload, 1) := by decide +kernel
theorem dL_law_680 : decode cL_law 680 = .ok (.invokevirtual 83, 3) := by decide +kernel
theorem dL_law_683 : decode cL_law 683 = .ok (.if_icmp .eq 541, 3) := by decide +kernel
theorem dL_law_686 : decode cL_law 686 = .ok (.iconst 0, 1) := by decide +kernel
theorem dL_law_687 : decode cL_law 687 = .ok (.ireturn, 1) := by decide +kernel
theorem dL_law_688 : decode cL_law 688 = .ok (.aload_n 1, 1) := by decide +kernel
theorem dL_law_689 : decode cL_law 689 = .ok (.aload_n 0, 1) := by decide +kernel
theorem dL_law_690 : decode cL_law 690 = .ok (.iload_n 3, 1) := by decide +kernel
theorem dL_law_691 : decode cL_law 691 = .ok (.iconst 1, 1) := by decide +kernel
theorem dL_law_692 : decode cL_law 692 = .ok (.iadd, 1) := by decide +kernel
theorem dL_law_693 : decode cL_law 693 = .ok (.iaload, 1) := by decide +kernel
theorem dL_law_694 : decode cL_law 694 = .ok (.aload_n 0, 1) := by decide +kernel
theorem dL_law_695 : decode cL_law 695 = .ok (.iload_n 3, 1) := by decide +kernel
theorem dL_law_696 : decode cL_law 696 = .ok (.iconst 2, 1) := by decide +kernel
theorem dL_law_697 : decode cL_law 697 = .ok (.iadd, 1) := by decide +kernel
theorem dL_law_698 : decode cL_law 698 = .ok (.iaload, 1) := by decide +kernel
theorem dL_law_699 : decode cL_law 699 = .ok (.invokevirtual 84, 3) := by decide +kernel
theorem dL_law_702 : decode cL_law 702 = .ok (.aload_n 2, 1) := by decide +kernel
theorem dL_law_703 : decode cL_law 703 = .ok (.aload_n 0, 1) := by decide +kernel
theorem dL_law_704 : decode cL_law 704 = .ok (.iload_n 3, 1) := by decide +kernel
theorem dL_law_705 : decode cL_law 705 = .ok (.iconst 1, 1) := by decide +kernel
theorem dL_law_706 : decode cL_law 706 = .ok (.iadd, 1) := by decide +kernel
theorem dL_law_707 : decode cL_law 707 = .ok (.iaload, 1) := by decide +kernel
theorem dL_law_708 : decode cL_law 708 = .ok (.aload_n 0, 1) := by decide +kernel
theorem dL_law_709 : decode cL_law 709 = .ok (.iload_n 3, 1) := by decide +kernel
theorem dL_law_710 : decode cL_law 710 = .ok (.iconst 2, 1) := by decide +kernel
theorem dL_law_711 : decode cL_law 711 = .ok (.iadd, 1) := by decide +kernel
theorem dL_law_712 : decode cL_law 712 = .ok (.iaload, 1) := by decide +kernel
theorem dL_law_713 : decode cL_law 713 = .ok (.invokevirtual 87, 3) := by decide +kernel
theorem dL_law_716 : decode cL_law 716 = .ok (.if_icmp .eq 508, 3) := by decide +kernel
theorem dL_law_719 : decode cL_law 719 = .ok (.iconst 0, 1) := by decide +kernel
theorem dL_law_720 : decode cL_law 720 = .ok (.ireturn, 1) := by decide +kernel
theorem dL_law_721 : decode cL_law 721 = .ok (.aload_n 1, 1) := by decide +kernel
theorem dL_law_722 : decode cL_law 722 = .ok (.aload_n 0, 1) := by decide +kernel
theorem dL_law_723 : decode cL_law 723 = .ok (.iload_n 3, 1) := by decide +kernel
theorem dL_law_724 : decode cL_law 724 = .ok (.iconst 1, 1) := by decide +kernel
theorem dL_law_725 : decode cL_law 725 = .ok (.iadd, 1) := by decide +kernel
theorem dL_law_726 : decode cL_law 726 = .ok (.iaload, 1) := by decide +kernel
theorem dL_law_727 : decode cL_law 727 = .ok (.aload_n 0, 1) := by decide +kernel
theorem dL_law_728 : decode cL_law 728 = .ok (.iload_n 3, 1) := by decide +kernel
theorem dL_law_729 : decode cL_law 729 = .ok (.iconst 2, 1) := by decide +kernel
theorem dL_law_730 : decode cL_law 730 = .ok (.iadd, 1) := by decide +kernel
theorem dL_law_731 : decode cL_law 731 = .ok (.iaload, 1) := by decide +kernel
theorem dL_law_732 : decode cL_law 732 = .ok (.invokevirtual 88, 3) := by decide +kernel
theorem dL_law_735 : decode cL_law 735 = .ok (.aload_n 2, 1) := by decide +kernel
theorem dL_law_736 : decode cL_law 736 = .ok (.aload_n 0, 1) := by decide +kernel
theorem dL_law_737 : decode cL_law 737 = .ok (.iload_n 3, 1) := by decide +kernel
theorem dL_law_738 : decode cL_law 738 = .ok (.iconst 1, 1) := by decide +kernel
theorem dL_law_739 : decode cL_law 739 = .ok (.iadd, 1) := by decide +kernel
theorem dL_law_740 : decode cL_law 740 = .ok (.iaload, 1) := by decide +kernel
theorem dL_law_741 : decode cL_law 741 = .ok (.aload_n 0, 1) := by decide +kernel
theorem dL_law_742 : decode cL_law 742 = .ok (.iload_n 3, 1) := by decide +kernel
theorem dL_law_743 : decode cL_law 743 = .ok (.iconst 2, 1) := by decide +kernel
theorem dL_law_744 : decode cL_law 744 = .ok (.iadd, 1) := by decide +kernel
theorem dL_law_745 : decode cL_law 745 = .ok (.iaload, 1) := by decide +kernel
theorem dL_law_746 : decode cL_law 746 = .ok (.invokevirtual 91, 3) := by decide +kernel
theorem dL_law_749 : decode cL_law 749 = .ok (.if_icmp .eq 475, 3) := by decide +kernel
theorem dL_law_752 : decode cL_law 752 = .ok (.iconst 0, 1) := by decide +kernel
theorem dL_law_753 : decode cL_law 753 = .ok (.ireturn, 1) := by decide +kernel
theorem dL_law_754 : decode cL_law 754 = .ok (.aload_n 1, 1) := by decide +kernel
theorem dL_law_755 : decode cL_law 755 = .ok (.aload_n 0, 1) := by decide +kernel
theorem dL_law_756 : decode cL_law 756 = .ok (.iload_n 3, 1) := by decide +kernel
theorem dL_law_757 : decode cL_law 757 = .ok (.iconst 1, 1) := by decide +kernel
theorem dL_law_758 : decode cL_law 758 = .ok (.iadd, 1) := by decide +kernel
theorem dL_law_759 : decode cL_law 759 = .ok (.iaload, 1) := by decide +kernel
theorem dL_law_760 : decode cL_law 760 = .ok (.aload_n 0, 1) := by decide +kernel
theorem dL_law_761 : decode cL_law 761 = .ok (.iload_n 3, 1) := by decide +kernel
theorem dL_law_762 : decode cL_law 762 = .ok (.iconst 2, 1) := by decide +kernel
theorem dL_law_763 : decode cL_law 763 = .ok (.iadd, 1) := by decide +kernel
theorem dL_law_764 : decode cL_law 764 = .ok (.iaload, 1) := by decide +kernel
theorem dL_law_765 : decode cL_law 765 = .ok (.aload_n 0, 1) := by decide +kernel
theorem dL_law_766 : decode cL_law 766 = .ok (.iload_n 3, 1) := by decide +kernel
theorem dL_law_767 : decode cL_law 767 = .ok (.iconst 3, 1) := by decide +kernel
theorem dL_law_768 : decode cL_law 768 = .ok (.iadd, 1) := by decide +kernel
theorem dL_law_769 : decode cL_law 769 = .ok (.iaload, 1) := by decide +kernel
theorem dL_law_770 : decode cL_law 770 = .ok (.invokevirtual 92, 3) := by decide +kernel
theorem dL_law_773 : decode cL_law 773 = .ok (.aload_n 2, 1) := by decide +kernel
theorem dL_law_774 : decode cL_law 774 = .ok (.aload_n 0, 1) := by decide +kernel
theorem dL_law_775 : decode cL_law 775 = .ok (.iload_n 3, 1) := by decide +kernel
theorem dL_law_776 : decode cL_law 776 = .ok (.iconst 1, 1) := by decide +kernel
theorem dL_law_777 : decode cL_law 777 = .ok (.iadd, 1) := by decide +kernel
theorem dL_law_778 : decode cL_law 778 = .ok (.iaload, 1) := by decide +kernel
theorem dL_law_779 : decode cL_law 779 = .ok (.aload_n 0, 1) := by decide +kernel
theorem dL_law_780 : decode cL_law 780 = .ok (.iload_n 3, 1) := by decide +kernel
theorem dL_law_781 : decode cL_law 781 = .ok (.iconst 2, 1) := by decide +kernel
theorem dL_law_782 : decode cL_law 782 = .ok (.iadd, 1) := by decide +kernel
theorem dL_law_783 : decode cL_law 783 = .ok (.iaload, 1) := by decide +kernel
theorem dL_law_784 : decode cL_law 784 = .ok (.aload_n 0, 1) := by decide +kernel
theorem dL_law_785 : decode cL_law 785 = .ok (.iload_n 3, 1) := by decide +kernel
theorem dL_law_786 : decode cL_law 786 = .ok (.iconst 3, 1) := by decide +kernel
theorem dL_law_787 : decode cL_law 787 = .ok (.iadd, 1) := by decide +kernel
theorem dL_law_788 : decode cL_law 788 = .ok (.iaload, 1) := by decide +kernel
theorem dL_law_789 : decode cL_law 789 = .ok (.invokevirtual 95, 3) := by decide +kernel
theorem dL_law_792 : decode cL_law 792 = .ok (.if_icmp .eq 432, 3) := by decide +kernel
theorem dL_law_795 : decode cL_law 795 = .ok (.iconst 0, 1) := by decide +kernel
theorem dL_law_796 : decode cL_law 796 = .ok (.ireturn, 1) := by decide +kernel
theorem dL_law_797 : decode cL_law 797 = .ok (.aload_n 1, 1) := by decide +kernel
theorem dL_law_798 : decode cL_law 798 = .ok (.aload_n 0, 1) := by decide +kernel
theorem dL_law_799 : decode cL_law 799 = .ok (.iload_n 3, 1) := by decide +kernel
theorem dL_law_800 : decode cL_law 800 = .ok (.iconst 1, 1) := by decide +kernel
theorem dL_law_801 : decode cL_law 801 = .ok (.iadd, 1) := by decide +kernel
theorem dL_law_802 : decode cL_law 802 = .ok (.iaload, 1) := by decide +kernel
theorem dL_law_803 : decode cL_law 803 = .ok (.aload_n 0, 1) := by decide +kernel
theorem dL_law_804 : decode cL_law 804 = .ok (.iload_n 3, 1) := by decide +kernel
theorem dL_law_805 : decode cL_law 805 = .ok (.iconst 2, 1) := by decide +kernel
theorem dL_law_806 : decode cL_law 806 = .ok (.iadd, 1) := by decide +kernel
theorem dL_law_807 : decode cL_law 807 = .ok (.iaload, 1) := by decide +kernel
theorem dL_law_808 : decode cL_law 808 = .ok (.aload_n 0, 1) := by decide +kernel
theorem dL_law_809 : decode cL_law 809 = .ok (.iload_n 3, 1) := by decide +kernel
theorem dL_law_810 : decode cL_law 810 = .ok (.iconst 3, 1) := by decide +kernel
theorem dL_law_811 : decode cL_law 811 = .ok (.iadd, 1) := by decide +kernel
theorem dL_law_812 : decode cL_law 812 = .ok (.iaload, 1) := by decide +kernel
theorem dL_law_813 : decode cL_law 813 = .ok (.invokevirtual 96, 3) := by decide +kernel
theorem dL_law_816 : decode cL_law 816 = .ok (.aload_n 2, 1) := by decide +kernel
theorem dL_law_817 : decode cL_law 817 = .ok (.aload_n 0, 1) := by decide +kernel
theorem dL_law_818 : decode cL_law 818 = .ok (.iload_n 3, 1) := by decide +kernel
theorem dL_law_819 : decode cL_law 819 = .ok (.iconst 1, 1) := by decide +kernel
theorem dL_law_820 : decode cL_law 820 = .ok (.iadd, 1) := by decide +kernel
theorem dL_law_821 : decode cL_law 821 = .ok (.iaload, 1) := by decide +kernel
theorem dL_law_822 : decode cL_law 822 = .ok (.aload_n 0, 1) := by decide +kernel
theorem dL_law_823 : decode cL_law 823 = .ok (.iload_n 3, 1) := by decide +kernel
theorem dL_law_824 : decode cL_law 824 = .ok (.iconst 2, 1) := by decide +kernel
theorem dL_law_825 : decode cL_law 825 = .ok (.iadd, 1) := by decide +kernel
theorem dL_law_826 : decode cL_law 826 = .ok (.iaload, 1) := by decide +kernel
theorem dL_law_827 : decode cL_law 827 = .ok (.aload_n 0, 1) := by decide +kernel
theorem dL_law_828 : decode cL_law 828 = .ok (.iload_n 3, 1) := by decide +kernel
theorem dL_law_829 : decode cL_law 829 = .ok (.iconst 3, 1) := by decide +kernel
theorem dL_law_830 : decode cL_law 830 = .ok (.iadd, 1) := by decide +kernel
theorem dL_law_831 : decode cL_law 831 = .ok (.iaload, 1) := by decide +kernel
theorem dL_law_832 : decode cL_law 832 = .ok (.invokevirtual 99, 3) := by decide +kernel
theorem dL_law_835 : decode cL_law 835 = .ok (.if_icmp .eq 389, 3) := by decide +kernel
theorem dL_law_838 : decode cL_law 838 = .ok (.iconst 0, 1) := by decide +kernel
theorem dL_law_839 : decode cL_law 839 = .ok (.ireturn, 1) := by decide +kernel
theorem dL_law_840 : decode cL_law 840 = .ok (.aload_n 1, 1) := by decide +kernel
theorem dL_law_841 : decode cL_law 841 = .ok (.invokevirtual 100, 3) := by decide +kernel
theorem dL_law_844 : decode cL_law 844 = .ok (.aload_n 2, 1) := by decide +kernel
theorem dL_law_845 : decode cL_law 845 = .ok (.invokevirtual 103, 3) := by decide +kernel
theorem dL_law_848 : decode cL_law 848 = .ok (.if_icmp .eq 376, 3) := by decide +kernel
theorem dL_law_851 : decode cL_law 851 = .ok (.iconst 0, 1) := by decide +kernel
theorem dL_law_852 : decode cL_law 852 = .ok (.ireturn, 1) := by decide +kernel
theorem dL_law_853 : decode cL_law 853 = .ok (.aload_n 1, 1) := by decide +kernel
theorem dL_law_854 : decode cL_law 854 = .ok (.aload_n 0, 1) := by decide +kernel
theorem dL_law_855 : decode cL_law 855 = .ok (.iload_n 3, 1) := by decide +kernel
theorem dL_law_856 : decode cL_law 856 = .ok (.iconst 1, 1) := by decide +kernel
theorem dL_law_857 : decode cL_law 857 = .ok (.iadd, 1) := by decide +kernel
theorem dL_law_858 : decode cL_law 858 = .ok (.iaload, 1) := by decide +kernel
theorem dL_law_859 : decode cL_law 859 = .ok (.invokevirtual 104, 3) := by decide +kernel
theorem dL_law_862 : decode cL_law 862 = .ok (.aload_n 2, 1) := by decide +kernel
theorem dL_law_863 : decode cL_law 863 = .ok (.aload_n 0, 1) := by decide +kernel
theorem dL_law_864 : decode cL_law 864 = .ok (.iload_n 3, 1) := by decide +kernel
theorem dL_law_865 : decode cL_law 865 = .ok (.iconst 1, 1) := by decide +kernel
theorem dL_law_866 : decode cL_law 866 = .ok (.iadd, 1) := by decide +kernel
theorem dL_law_867 : decode cL_law 867 = .ok (.iaload, 1) := by decide +kernel
theorem dL_law_868 : decode cL_law 868 = .ok (.invokevirtual 107, 3) := by decide +kernel
theorem dL_law_871 : decode cL_law 871 = .ok (.if_icmp .eq 353, 3) := by decide +kernel
theorem dL_law_874 : decode cL_law 874 = .ok (.iconst 0, 1) := by decide +kernel
theorem dL_law_875 : decode cL_law 875 = .ok (.ireturn, 1) := by decide +kernel
theorem dL_law_876 : decode cL_law 876 = .ok (.aload_n 1, 1) := by decide +kernel
theorem dL_law_877 : decode cL_law 877 = .ok (.aload_n 0, 1) := by decide +kernel
theorem dL_law_878 : decode cL_law 878 = .ok (.iload_n 3, 1) := by decide +kernel
theorem dL_law_879 : decode cL_law 879 = .ok (.iconst 1, 1) := by decide +kernel
theorem dL_law_880 : decode cL_law 880 = .ok (.iadd, 1) := by decide +kernel
theorem dL_law_881 : decode cL_law 881 = .ok (.iaload, 1) := by decide +kernel
theorem dL_law_882 : decode cL_law 882 = .ok (.aload_n 0, 1) := by decide +kernel
theorem dL_law_883 : decode cL_law 883 = .ok (.iload_n 3, 1) := by decide +kernel
theorem dL_law_884 : decode cL_law 884 = .ok (.iconst 2, 1) := by decide +kernel
theorem dL_law_885 : decode cL_law 885 = .ok (.iadd, 1) := by decide +kernel
theorem dL_law_886 : decode cL_law 886 = .ok (.iaload, 1) := by decide +kernel
theorem dL_law_887 : decode cL_law 887 = .ok (.invokevirtual 108, 3) := by decide +kernel
theorem dL_law_890 : decode cL_law 890 = .ok (.aload_n 2, 1) := by decide +kernel
theorem dL_law_891 : decode cL_law 891 = .ok (.aload_n 0, 1) := by decide +kernel
theorem dL_law_892 : decode cL_law 892 = .ok (.iload_n 3, 1) := by decide +kernel
theorem dL_law_893 : decode cL_law 893 = .ok (.iconst 1, 1) := by decide +kernel
theorem dL_law_894 : decode cL_law 894 = .ok (.iadd, 1) := by decide +kernel
theorem dL_law_895 : decode cL_law 895 = .ok (.iaload, 1) := by decide +kernel
theorem dL_law_896 : decode cL_law 896 = .ok (.aload_n 0, 1) := by decide +kernel
theorem dL_law_897 : decode cL_law 897 = .ok (.iload_n 3, 1) := by decide +kernel
theorem dL_law_898 : decode cL_law 898 = .ok (.iconst 2, 1) := by decide +kernel
theorem dL_law_899 : decode cL_law 899 = .ok (.iadd, 1) := by decide +kernel
theorem dL_law_900 : decode cL_law 900 = .ok (.iaload, 1) := by decide +kernel
theorem dL_law_901 : decode cL_law 901 = .ok (.invokevirtual 111, 3) := by decide +kernel
theorem dL_law_904 : decode cL_law 904 = .ok (.if_icmp .eq 320, 3) := by decide +kernel
theorem dL_law_907 : decode cL_law 907 = .ok (.iconst 0, 1) := by decide +kernel
theorem dL_law_908 : decode cL_law 908 = .ok (.ireturn, 1) := by decide +kernel
theorem dL_law_909 : decode cL_law 909 = .ok (.aload_n 1, 1) := by decide +kernel
theorem dL_law_910 : decode cL_law 910 = .ok (.aload_n 0, 1) := by decide +kernel
theorem dL_law_911 : decode cL_law 911 = .ok (.iload_n 3, 1) := by decide +kernel
theorem dL_law_912 : decode cL_law 912 = .ok (.iconst 1, 1) := by decide +kernel
theorem dL_law_913 : decode cL_law 913 = .ok (.iadd, 1) := by decide +kernel
theorem dL_law_914 : decode cL_law 914 = .ok (.iaload, 1) := by decide +kernel
theorem dL_law_915 : decode cL_law 915 = .ok (.invokevirtual 112, 3) := by decide +kernel
theorem dL_law_918 : decode cL_law 918 = .ok (.aload_n 2, 1) := by decide +kernel
theorem dL_law_919 : decode cL_law 919 = .ok (.aload_n 0, 1) := by decide +kernel
theorem dL_law_920 : decode cL_law 920 = .ok (.iload_n 3, 1) := by decide +kernel
theorem dL_law_921 : decode cL_law 921 = .ok (.iconst 1, 1) := by decide +kernel
theorem dL_law_922 : decode cL_law 922 = .ok (.iadd, 1) := by decide +kernel
theorem dL_law_923 : decode cL_law 923 = .ok (.iaload, 1) := by decide +kernel
theorem dL_law_924 : decode cL_law 924 = .ok (.invokevirtual 115, 3) := by decide +kernel
theorem dL_law_927 : decode cL_law 927 = .ok (.if_icmp .eq 297, 3) := by decide +kernel
theorem dL_law_930 : decode cL_law 930 = .ok (.iconst 0, 1) := by decide +kernel
theorem dL_law_931 : decode cL_law 931 = .ok (.ireturn, 1) := by decide +kernel
theorem dL_law_932 : decode cL_law 932 = .ok (.aload_n 1, 1) := by decide +kernel
theorem dL_law_933 : decode cL_law 933 = .ok (.aload_n 0, 1) := by decide +kernel
theorem dL_law_934 : decode cL_law 934 = .ok (.iload_n 3, 1) := by decide +kernel
theorem dL_law_935 : decode cL_law 935 = .ok (.iconst 1, 1) := by decide +kernel
theorem dL_law_936 : decode cL_law 936 = .ok (.iadd, 1) := by decide +kernel
theorem dL_law_937 : decode cL_law 937 = .ok (.iaload, 1) := by decide +kernel
theorem dL_law_938 : decode cL_law 938 = .ok (.invokevirtual 116, 3) := by decide +kernel
theorem dL_law_941 : decode cL_law 941 = .ok (.aload_n 2, 1) := by decide +kernel
theorem dL_law_942 : decode cL_law 942 = .ok (.aload_n 0, 1) := by decide +kernel
theorem dL_law_943 : decode cL_law 943 = .ok (.iload_n 3, 1) := by decide +kernel
theorem dL_law_944 : decode cL_law 944 = .ok (.iconst 1, 1) := by decide +kernel
theorem dL_law_945 : decode cL_law 945 = .ok (.iadd, 1) := by decide +kernel
theorem dL_law_946 : decode cL_law 946 = .ok (.iaload, 1) := by decide +kernel
theorem dL_law_947 : decode cL_law 947 = .ok (.invokevirtual 119, 3) := by decide +kernel
theorem dL_law_950 : decode cL_law 950 = .ok (.if_icmp .eq 274, 3) := by decide +kernel
theorem dL_law_953 : decode cL_law 953 = .ok (.iconst 0, 1) := by decide +kernel
theorem dL_law_954 : decode cL_law 954 = .ok (.ireturn, 1) := by decide +kernel
theorem dL_law_955 : decode cL_law 955 = .ok (.aload_n 1, 1) := by decide +kernel
theorem dL_law_956 : decode cL_law 956 = .ok (.invokevirtual 120, 3) := by decide +kernel
theorem dL_law_959 : decode cL_law 959 = .ok (.aload_n 2, 1) := by decide +kernel
theorem dL_law_960 : decode cL_law 960 = .ok (.invokevirtual 123, 3) := by decide +kernel
theorem dL_law_963 : decode cL_law 963 = .ok (.if_icmp .eq 261, 3) := by decide +kernel
theorem dL_law_966 : decode cL_law 966 = .ok (.iconst 0, 1) := by decide +kernel
theorem dL_law_967 : decode cL_law 967 = .ok (.ireturn, 1) := by decide +kernel
theorem dL_law_968 : decode cL_law 968 = .ok (.aload_n 1, 1) := by decide +kernel
theorem dL_law_969 : decode cL_law 969 = .ok (.aload_n 0, 1) := by decide +kernel
theorem dL_law_970 : decode cL_law 970 = .ok (.iload_n 3, 1) := by decide +kernel
theorem dL_law_971 : decode cL_law 971 = .ok (.iconst 1, 1) := by decide +kernel
theorem dL_law_972 : decode cL_law 972 = .ok (.iadd, 1) := by decide +kernel
theorem dL_law_973 : decode cL_law 973 = .ok (.iaload, 1) := by decide +kernel
theorem dL_law_974 : decode cL_law 974 = .ok (.invokevirtual 124, 3) := by decide +kernel
theorem dL_law_977 : decode cL_law 977 = .ok (.aload_n 2, 1) := by decide +kernel
theorem dL_law_978 : decode cL_law 978 = .ok (.aload_n 0, 1) := by decide +kernel
theorem dL_law_979 : decode cL_law 979 = .ok (.iload_n 3, 1) := by decide +kernel
theorem dL_law_980 : decode cL_law 980 = .ok (.iconst 1, 1) := by decide +kernel
theorem dL_law_981 : decode cL_law 981 = .ok (.iadd, 1) := by decide +kernel
theorem dL_law_982 : decode cL_law 982 = .ok (.iaload, 1) := by decide +kernel
theorem dL_law_983 : decode cL_law 983 = .ok (.invokevirtual 127, 3) := by decide +kernel
theorem dL_law_986 : decode cL_law 986 = .ok (.if_icmp .eq 238, 3) := by decide +kernel
theorem dL_law_989 : decode cL_law 989 = .ok (.iconst 0, 1) := by decide +kernel
theorem dL_law_990 : decode cL_law 990 = .ok (.ireturn, 1) := by decide +kernel
theorem dL_law_991 : decode cL_law 991 = .ok (.aload_n 1, 1) := by decide +kernel
theorem dL_law_992 : decode cL_law 992 = .ok (.aload_n 0, 1) := by decide +kernel
theorem dL_law_993 : decode cL_law 993 = .ok (.iload_n 3, 1) := by decide +kernel
theorem dL_law_994 : decode cL_law 994 = .ok (.iconst 1, 1) := by decide +kernel
theorem dL_law_995 : decode cL_law 995 = .ok (.iadd, 1) := by decide +kernel
theorem dL_law_996 : decode cL_law 996 = .ok (.iaload, 1) := by decide +kernel
theorem dL_law_997 : decode cL_law 997 = .ok (.aload_n 0, 1) := by decide +kernel
theorem dL_law_998 : decode cL_law 998 = .ok (.iload_n 3, 1) := by decide +kernel
theorem dL_law_999 : decode cL_law 999 = .ok (.iconst 2, 1) := by decide +kernel
theorem dL_law_1000 : decode cL_law 1000 = .ok (.iadd, 1) := by decide +kernel
theorem dL_law_1001 : decode cL_law 1001 = .ok (.iaload, 1) := by decide +kernel
theorem dL_law_1002 : decode cL_law 1002 = .ok (.invokevirtual 128, 3) := by decide +kernel
theorem dL_law_1005 : decode cL_law 1005 = .ok (.aload_n 2, 1) := by decide +kernel
theorem dL_law_1006 : decode cL_law 1006 = .ok (.aload_n 0, 1) := by decide +kernel
theorem dL_law_1007 : decode cL_law 1007 = .ok (.iload_n 3, 1) := by decide +kernel
theorem dL_law_1008 : decode cL_law 1008 = .ok (.iconst 1, 1) := by decide +kernel
theorem dL_law_1009 : decode cL_law 1009 = .ok (.iadd, 1) := by decide +kernel
theorem dL_law_1010 : decode cL_law 1010 = .ok (.iaload, 1) := by decide +kernel
theorem dL_law_1011 : decode cL_law 1011 = .ok (.aload_n 0, 1) := by decide +kernel
theorem dL_law_1012 : decode cL_law 1012 = .ok (.iload_n 3, 1) := by decide +kernel
theorem dL_law_1013 : decode cL_law 1013 = .ok (.iconst 2, 1) := by decide +kernel
theorem dL_law_1014 : decode cL_law 1014 = .ok (.iadd, 1) := by decide +kernel
theorem dL_law_1015 : decode cL_law 1015 = .ok (.iaload, 1) := by decide +kernel
theorem dL_law_1016 : decode cL_law 1016 = .ok (.invokevirtual 131, 3) := by decide +kernel
theorem dL_law_1019 : decode cL_law 1019 = .ok (.if_icmp .eq 205, 3) := by decide +kernel
theorem dL_law_1022 : decode cL_law 1022 = .ok (.iconst 0, 1) := by decide +kernel
theorem dL_law_1023 : decode cL_law 1023 = .ok (.ireturn, 1) := by decide +kernel
theorem dL_law_1024 : decode cL_law 1024 = .ok (.aload_n 1, 1) := by decide +kernel
theorem dL_law_1025 : decode cL_law 1025 = .ok (.aload_n 0, 1) := by decide +kernel
theorem dL_law_1026 : decode cL_law 1026 = .ok (.iload_n 3, 1) := by decide +kernel
theorem dL_law_1027 : decode cL_law 1027 = .ok (.iconst 1, 1) := by decide +kernel
theorem dL_law_1028 : decode cL_law 1028 = .ok (.iadd, 1) := by decide +kernel
theorem dL_law_1029 : decode cL_law 1029 = .ok (.iaload, 1) := by decide +kernel
theorem dL_law_1030 : decode cL_law 1030 = .ok (.invokevirtual 132, 3) := by decide +kernel
theorem dL_law_1033 : decode cL_law 1033 = .ok (.aload_n 2, 1) := by decide +kernel
theorem dL_law_1034 : decode cL_law 1034 = .ok (.aload_n 0, 1) := by decide +kernel
theorem dL_law_1035 : decode cL_law 1035 = .ok (.iload_n 3, 1) := by decide +kernel
theorem dL_law_1036 : decode cL_law 1036 = .ok (.iconst 1, 1) := by decide +kernel
theorem dL_law_1037 : decode cL_law 1037 = .ok (.iadd, 1) := by decide +kernel
theorem dL_law_1038 : decode cL_law 1038 = .ok (.iaload, 1) := by decide +kernel
theorem dL_law_1039 : decode cL_law 1039 = .ok (.invokevirtual 135, 3) := by decide +kernel
theorem dL_law_1042 : decode cL_law 1042 = .ok (.if_icmp .eq 182, 3) := by decide +kernel
theorem dL_law_1045 : decode cL_law 1045 = .ok (.iconst 0, 1) := by decide +kernel
theorem dL_law_1046 : decode cL_law 1046 = .ok (.ireturn, 1) := by decide +kernel
theorem dL_law_1047 : decode cL_law 1047 = .ok (.aload_n 1, 1) := by decide +kernel
theorem dL_law_1048 : decode cL_law 1048 = .ok (.aload_n 0, 1) := by decide +kernel
theorem dL_law_1049 : decode cL_law 1049 = .ok (.iload_n 3, 1) := by decide +kernel
theorem dL_law_1050 : decode cL_law 1050 = .ok (.iconst 1, 1) := by decide +kernel
theorem dL_law_1051 : decode cL_law 1051 = .ok (.iadd, 1) := by decide +kernel
theorem dL_law_1052 : decode cL_law 1052 = .ok (.iaload, 1) := by decide +kernel
theorem dL_law_1053 : decode cL_law 1053 = .ok (.invokevirtual 136, 3) := by decide +kernel
theorem dL_law_1056 : decode cL_law 1056 = .ok (.aload_n 2, 1) := by decide +kernel
theorem dL_law_1057 : decode cL_law 1057 = .ok (.aload_n 0, 1) := by decide +kernel
theorem dL_law_1058 : decode cL_law 1058 = .ok (.iload_n 3, 1) := by decide +kernel
theorem dL_law_1059 : decode cL_law 1059 = .ok (.iconst 1, 1) := by decide +kernel
theorem dL_law_1060 : decode cL_law 1060 = .ok (.iadd, 1) := by decide +kernel
theorem dL_law_1061 : decode cL_law 1061 = .ok (.iaload, 1) := by decide +kernel
theorem dL_law_1062 : decode cL_law 1062 = .ok (.invokevirtual 139, 3) := by decide +kernel
theorem dL_law_1065 : decode cL_law 1065 = .ok (.if_icmp .eq 159, 3) := by decide +kernel
theorem dL_law_1068 : decode cL_law 1068 = .ok (.iconst 0, 1) := by decide +kernel
theorem dL_law_1069 : decode cL_law 1069 = .ok (.ireturn, 1) := by decide +kernel
theorem dL_law_1070 : decode cL_law 1070 = .ok (.aload_n 1, 1) := by decide +kernel
theorem dL_law_1071 : decode cL_law 1071 = .ok (.invokevirtual 140, 3) := by decide +kernel
theorem dL_law_1074 : decode cL_law 1074 = .ok (.aload_n 2, 1) := by decide +kernel
theorem dL_law_1075 : decode cL_law 1075 = .ok (.invokevirtual 143, 3) := by decide +kernel
theorem dL_law_1078 : decode cL_law 1078 = .ok (.if_icmp .eq 146, 3) := by decide +kernel
theorem dL_law_1081 : decode cL_law 1081 = .ok (.iconst 0, 1) := by decide +kernel
theorem dL_law_1082 : decode cL_law 1082 = .ok (.ireturn, 1) := by decide +kernel
theorem dL_law_1083 : decode cL_law 1083 = .ok (.aload_n 1, 1) := by decide +kernel
theorem dL_law_1084 : decode cL_law 1084 = .ok (.aload_n 0, 1) := by decide +kernel
theorem dL_law_1085 : decode cL_law 1085 = .ok (.iload_n 3, 1) := by decide +kernel
theorem dL_law_1086 : decode cL_law 1086 = .ok (.iconst 1, 1) := by decide +kernel
theorem dL_law_1087 : decode cL_law 1087 = .ok (.iadd, 1) := by decide +kernel
theorem dL_law_1088 : decode cL_law 1088 = .ok (.iaload, 1) := by decide +kernel
theorem dL_law_1089 : decode cL_law 1089 = .ok (.invokevirtual 144, 3) := by decide +kernel
theorem dL_law_1092 : decode cL_law 1092 = .ok (.aload_n 2, 1) := by decide +kernel
theorem dL_law_1093 : decode cL_law 1093 = .ok (.aload_n 0, 1) := by decide +kernel
theorem dL_law_1094 : decode cL_law 1094 = .ok (.iload_n 3, 1) := by decide +kernel
theorem dL_law_1095 : decode cL_law 1095 = .ok (.iconst 1, 1) := by decide +kernel
theorem dL_law_1096 : decode cL_law 1096 = .ok (.iadd, 1) := by decide +kernel
theorem dL_law_1097 : decode cL_law 1097 = .ok (.iaload, 1) := by decide +kernel
theorem dL_law_1098 : decode cL_law 1098 = .ok (.invokevirtual 147, 3) := by decide +kernel
theorem dL_law_1101 : decode cL_law 1101 = .ok (.if_icmp .eq 123, 3) := by decide +kernel
theorem dL_law_1104 : decode cL_law 1104 = .ok (.iconst 0, 1) := by decide +kernel
theorem dL_law_1105 : decode cL_law 1105 = .ok (.ireturn, 1) := by decide +kernel
theorem dL_law_1106 : decode cL_law 1106 = .ok (.aload_n 1, 1) := by decide +kernel
theorem dL_law_1107 : decode cL_law 1107 = .ok (.aload_n 0, 1) := by decide +kernel
theorem dL_law_1108 : decode cL_law 1108 = .ok (.iload_n 3, 1) := by decide +kernel
theorem dL_law_1109 : decode cL_law 1109 = .ok (.iconst 1, 1) := by decide +kernel
theorem dL_law_1110 : decode cL_law 1110 = .ok (.iadd, 1) := by decide +kernel
theorem dL_law_1111 : decode cL_law 1111 = .ok (.iaload, 1) := by decide +kernel
theorem dL_law_1112 : decode cL_law 1112 = .ok (.aload_n 0, 1) := by decide +kernel
theorem dL_law_1113 : decode cL_law 1113 = .ok (.iload_n 3, 1) := by decide +kernel
theorem dL_law_1114 : decode cL_law 1114 = .ok (.iconst 2, 1) := by decide +kernel
theorem dL_law_1115 : decode cL_law 1115 = .ok (.iadd, 1) := by decide +kernel
theorem dL_law_1116 : decode cL_law 1116 = .ok (.iaload, 1) := by decide +kernel
theorem dL_law_1117 : decode cL_law 1117 = .ok (.invokevirtual 148, 3) := by decide +kernel
theorem dL_law_1120 : decode cL_law 1120 = .ok (.aload_n 2, 1) := by decide +kernel
theorem dL_law_1121 : decode cL_law 1121 = .ok (.aload_n 0, 1) := by decide +kernel
theorem dL_law_1122 : decode cL_law 1122 = .ok (.iload_n 3, 1) := by decide +kernel
theorem dL_law_1123 : decode cL_law 1123 = .ok (.iconst 1, 1) := by decide +kernel
theorem dL_law_1124 : decode cL_law 1124 = .ok (.iadd, 1) := by decide +kernel
theorem dL_law_1125 : decode cL_law 1125 = .ok (.iaload, 1) := by decide +kernel
theorem dL_law_1126 : decode cL_law 1126 = .ok (.aload_n 0, 1) := by decide +kernel
theorem dL_law_1127 : decode cL_law 1127 = .ok (.iload_n 3, 1) := by decide +kernel
theorem dL_law_1128 : decode cL_law 1128 = .ok (.iconst 2, 1) := by decide +kernel
theorem dL_law_1129 : decode cL_law 1129 = .ok (.iadd, 1) := by decide +kernel
theorem dL_law_1130 : decode cL_law 1130 = .ok (.iaload, 1) := by decide +kernel
theorem dL_law_1131 : decode cL_law 1131 = .ok (.invokevirtual 151, 3) := by decide +kernel
theorem dL_law_1134 : decode cL_law 1134 = .ok (.if_icmp .eq 90, 3) := by decide +kernel
theorem dL_law_1137 : decode cL_law 1137 = .ok (.iconst 0, 1) := by decide +kernel
theorem dL_law_1138 : decode cL_law 1138 = .ok (.ireturn, 1) := by decide +kernel
theorem dL_law_1139 : decode cL_law 1139 = .ok (.aload_n 1, 1) := by decide +kernel
theorem dL_law_1140 : decode cL_law 1140 = .ok (.aload_n 0, 1) := by decide +kernel
theorem dL_law_1141 : decode cL_law 1141 = .ok (.iload_n 3, 1) := by decide +kernel
theorem dL_law_1142 : decode cL_law 1142 = .ok (.iconst 1, 1) := by decide +kernel
theorem dL_law_1143 : decode cL_law 1143 = .ok (.iadd, 1) := by decide +kernel
theorem dL_law_1144 : decode cL_law 1144 = .ok (.iaload, 1) := by decide +kernel
theorem dL_law_1145 : decode cL_law 1145 = .ok (.invokevirtual 152, 3) := by decide +kernel
theorem dL_law_1148 : decode cL_law 1148 = .ok (.aload_n 2, 1) := by decide +kernel
theorem dL_law_1149 : decode cL_law 1149 = .ok (.aload_n 0, 1) := by decide +kernel
theorem dL_law_1150 : decode cL_law 1150 = .ok (.iload_n 3, 1) := by decide +kernel
theorem dL_law_1151 : decode cL_law 1151 = .ok (.iconst 1, 1) := by decide +kernel
theorem dL_law_1152 : decode cL_law 1152 = .ok (.iadd, 1) := by decide +kernel
theorem dL_law_1153 : decode cL_law 1153 = .ok (.iaload, 1) := by decide +kernel
theorem dL_law_1154 : decode cL_law 1154 = .ok (.invokevirtual 155, 3) := by decide +kernel
theorem dL_law_1157 : decode cL_law 1157 = .ok (.if_icmp .eq 67, 3) := by decide +kernel
theorem dL_law_1160 : decode cL_law 1160 = .ok (.iconst 0, 1) := by decide +kernel
theorem dL_law_1161 : decode cL_law 1161 = .ok (.ireturn, 1) := by decide +kernel
theorem dL_law_1162 : decode cL_law 1162 = .ok (.aload_n 1, 1) := by decide +kernel
theorem dL_law_1163 : decode cL_law 1163 = .ok (.invokevirtual 156, 3) := by decide +kernel
theorem dL_law_1166 : decode cL_law 1166 = .ok (.aload_n 2, 1) := by decide +kernel
theorem dL_law_1167 : decode cL_law 1167 = .ok (.invokevirtual 159, 3) := by decide +kernel
theorem dL_law_1170 : decode cL_law 1170 = .ok (.if_icmp .eq 54, 3) := by decide +kernel
theorem dL_law_1173 : decode cL_law 1173 = .ok (.iconst 0, 1) := by decide +kernel
theorem dL_law_1174 : decode cL_law 1174 = .ok (.ireturn, 1) := by decide +kernel
theorem dL_law_1175 : decode cL_law 1175 = .ok (.aload_n 1, 1) := by decide +kernel
theorem dL_law_1176 : decode cL_law 1176 = .ok (.invokevirtual 160, 3) := by decide +kernel
theorem dL_law_1179 : decode cL_law 1179 = .ok (.aload_n 2, 1) := by decide +kernel
theorem dL_law_1180 : decode cL_law 1180 = .ok (.invokevirtual 163, 3) := by decide +kernel
theorem dL_law_1183 : decode cL_law 1183 = .ok (.if_icmp .eq 41, 3) := by decide +kernel
theorem dL_law_1186 : decode cL_law 1186 = .ok (.iconst 0, 1) := by decide +kernel
theorem dL_law_1187 : decode cL_law 1187 = .ok (.ireturn, 1) := by decide +kernel
theorem dL_law_1188 : decode cL_law 1188 = .ok (.aload_n 1, 1) := by decide +kernel
theorem dL_law_1189 : decode cL_law 1189 = .ok (.invokevirtual 164, 3) := by decide +kernel
theorem dL_law_1192 : decode cL_law 1192 = .ok (.aload_n 2, 1) := by decide +kernel
theorem dL_law_1193 : decode cL_law 1193 = .ok (.invokevirtual 167, 3) := by decide +kernel
theorem dL_law_1196 : decode cL_law 1196 = .ok (.if_icmp .eq 28, 3) := by decide +kernel
theorem dL_law_1199 : decode cL_law 1199 = .ok (.iconst 0, 1) := by decide +kernel
theorem dL_law_1200 : decode cL_law 1200 = .ok (.ireturn, 1) := by decide +kernel
theorem dL_law_1201 : decode cL_law 1201 = .ok (.aload_n 1, 1) := by decide +kernel
theorem dL_law_1202 : decode cL_law 1202 = .ok (.aload_n 0, 1) := by decide +kernel
theorem dL_law_1203 : decode cL_law 1203 = .ok (.iload_n 3, 1) := by decide +kernel
theorem dL_law_1204 : decode cL_law 1204 = .ok (.iconst 1, 1) := by decide +kernel
theorem dL_law_1205 : decode cL_law 1205 = .ok (.iadd, 1) := by decide +kernel
theorem dL_law_1206 : decode cL_law 1206 = .ok (.iaload, 1) := by decide +kernel
theorem dL_law_1207 : decode cL_law 1207 = .ok (.invokevirtual 168, 3) := by decide +kernel
theorem dL_law_1210 : decode cL_law 1210 = .ok (.aload_n 2, 1) := by decide +kernel
theorem dL_law_1211 : decode cL_law 1211 = .ok (.aload_n 0, 1) := by decide +kernel
theorem dL_law_1212 : decode cL_law 1212 = .ok (.iload_n 3, 1) := by decide +kernel
theorem dL_law_1213 : decode cL_law 1213 = .ok (.iconst 1, 1) := by decide +kernel
theorem dL_law_1214 : decode cL_law 1214 = .ok (.iadd, 1) := by decide +kernel
theorem dL_law_1215 : decode cL_law 1215 = .ok (.iaload, 1) := by decide +kernel
theorem dL_law_1216 : decode cL_law 1216 = .ok (.invokevirtual 171, 3) := by decide +kernel
theorem dL_law_1219 : decode cL_law 1219 = .ok (.if_icmp .eq 5, 3) := by decide +kernel
theorem dL_law_1222 : decode cL_law 1222 = .ok (.iconst 0, 1) := by decide +kernel
theorem dL_law_1223 : decode cL_law 1223 = .ok (.ireturn, 1) := by decide +kernel
theorem dL_law_1224 : decode cL_law 1224 = .ok (.iinc 3 5, 3) := by decide +kernel
theorem dL_law_1227 : decode cL_law 1227 = .ok (.goto (-1209), 3) := by decide +kernel
theorem dL_law_1230 : decode cL_law 1230 = .ok (.iconst 1, 1) := by decide +kernel
theorem dL_law_1231 : decode cL_law 1231 = .ok (.ireturn, 1) := by decide +kernel
def kL_law_0 : List (Nat × zT) := [(18, a_iload 3 19), (19, a_aload 0 20), (20, a_alen 21), (21, a_i 5 22), (22, a_ii (fun x y => x - y) 23), (23, a_ic_gt 1230 26), (26, a_aload 0 27), (27, a_iload 3 28), (28, a_iald 29), (29, a_i 63 31), (31, a_ii (fun x y => x &&& y) 32), (32, a_sw [(0, 200), (1, 273), (2, 296), (3, 319), (4, 352), (5, 375), (6, 418), (7, 441), (8, 474), (9, 497), (10, 540), (11, 573), (12, 596), (13, 609), (14, 632), (15, 645), (16, 688), (17, 721), (18, 754), (19, 797), (20, 840), (21, 853), (22, 876), (23, 909), (24, 932), (25, 955), (26, 968), (27, 991), (28, 1024), (29, 1047), (30, 1070), (31, 1083), (32, 1106), (33, 1139), (34, 1162), (35, 1175), (36, 1188), (37, 1201)] 1224), (200, a_aload 1 201), (201, a_aload 0 202), (202, a_iload 3 203), (203, a_i 1 204), (204, a_ii (fun x y => x + y) 205), (205, a_iald 206), (206, a_aload 0 207), (207, a_iload 3 208), (208, a_i 2 209), (209, a_ii (fun x y => x + y) 210), (210, a_iald 211), (211, a_aload 0 212)]
theorem oL_law_0 : ∀ q ∈ kL_law_0, zSnd zty false RL cL_law 4 (some .boolean) false q := List.forall_mem_cons.mpr ⟨ok_iload_n dL_law_18 rfl, List.forall_mem_cons.mpr ⟨ok_aload_n dL_law_19 rfl, List.forall_mem_cons.mpr ⟨ok_alen dL_law_20, List.forall_mem_cons.mpr ⟨ok_iconst dL_law_21 (by decide), List.forall_mem_cons.mpr ⟨ok_isub dL_law_22, List.forall_mem_cons.mpr ⟨ok_ic_gt dL_law_23 (by decide), List.forall_mem_cons.mpr ⟨ok_aload_n dL_law_26 rfl, List.forall_mem_cons.mpr ⟨ok_iload_n dL_law_27 rfl, List.forall_mem_cons.mpr ⟨ok_iald dL_law_28, List.forall_mem_cons.mpr ⟨ok_bipush dL_law_29 (by decide), List.forall_mem_cons.mpr ⟨ok_iand dL_law_31, List.forall_mem_cons.mpr ⟨ok_tsw dL_law_32 (by decide) (by decide) (by decide) (by decide), List.forall_mem_cons.mpr ⟨ok_aload_n dL_law_200 rfl, List.forall_mem_cons.mpr ⟨ok_aload_n dL_law_201 rfl, List.forall_mem_cons.mpr ⟨ok_iload_n dL_law_202 rfl, List.forall_mem_cons.mpr ⟨ok_iconst dL_law_203 (by decide), List.forall_mem_cons.mpr ⟨ok_iadd dL_law_204, List.forall_mem_cons.mpr ⟨ok_iald dL_law_205, List.forall_mem_cons.mpr ⟨ok_aload_n dL_law_206 rfl, List.forall_mem_cons.mpr ⟨ok_iload_n dL_law_207 rfl, List.forall_mem_cons.mpr ⟨ok_iconst dL_law_208 (by decide), List.forall_mem_cons.mpr ⟨ok_iadd dL_law_209, List.forall_mem_cons.mpr ⟨ok_iald dL_law_210, List.forall_mem_cons.mpr ⟨ok_aload_n dL_law_211 rfl, fun _ h => absurd h List.not_mem_nil⟩⟩⟩⟩⟩⟩⟩⟩⟩⟩⟩⟩⟩⟩⟩⟩⟩⟩⟩⟩⟩⟩⟩⟩
def kL_law_1 : List (Nat × zT) := [(212, a_iload 3 213), (213, a_i 3 214), (214, a_ii (fun x y => x + y) 215), (215, a_iald 216), (216, a_i2l 217), (217, a_i 32 219), (219, a_li (fun x y => x <<< (y.toInt64 &&& 63)) 220), (220, a_aload 0 221), (221, a_iload 3 222), (222, a_i 4 223), (223, a_ii (fun x y => x + y) 224), (224, a_iald 225), (225, a_i2l 226), (226, a_l 4294967295 229), (229, a_ll (fun x y => x &&& y) 230), (230, a_ll (fun x y => x ||| y) 231), (231, a_callV 11 90 4 234 0 0), (234, a_aload 2 235), (235, a_aload 0 236), (236, a_iload 3 237), (237, a_i 1 238), (238, a_ii (fun x y => x + y) 239), (239, a_iald 240), (240, a_aload 0 241)]
theorem oL_law_1 : ∀ q ∈ kL_law_1, zSnd zty false RL cL_law 4 (some .boolean) false q := List.forall_mem_cons.mpr ⟨ok_iload_n dL_law_212 rfl, List.forall_mem_cons.mpr ⟨ok_iconst dL_law_213 (by decide), List.forall_mem_cons.mpr ⟨ok_iadd dL_law_214, List.forall_mem_cons.mpr ⟨ok_iald dL_law_215, List.forall_mem_cons.mpr ⟨ok_i2l dL_law_216, List.forall_mem_cons.mpr ⟨ok_bipush dL_law_217 (by decide), List.forall_mem_cons.mpr ⟨ok_lshl dL_law_219, List.forall_mem_cons.mpr ⟨ok_aload_n dL_law_220 rfl, List.forall_mem_cons.mpr ⟨ok_iload_n dL_law_221 rfl, List.forall_mem_cons.mpr ⟨ok_iconst dL_law_222 (by decide), List.forall_mem_cons.mpr ⟨ok_iadd dL_law_223, List.forall_mem_cons.mpr ⟨ok_iald dL_law_224, List.forall_mem_cons.mpr ⟨ok_i2l dL_law_225, List.forall_mem_cons.mpr ⟨ok_ldc2 dL_law_226 w1384, List.forall_mem_cons.mpr ⟨ok_land dL_law_229, List.forall_mem_cons.mpr ⟨ok_lor dL_law_230, List.forall_mem_cons.mpr ⟨ok_callV dL_law_231 rfl rfl w389 w386 w387 w1 w388 (by decide +kernel) (by decide), List.forall_mem_cons.mpr ⟨ok_aload_n dL_law_234 rfl, List.forall_mem_cons.mpr ⟨ok_aload_n dL_law_235 rfl, List.forall_mem_cons.mpr ⟨ok_iload_n dL_law_236 rfl, List.forall_mem_cons.mpr ⟨ok_iconst dL_law_237 (by decide), List.forall_mem_cons.mpr ⟨ok_iadd dL_law_238, List.forall_mem_cons.mpr ⟨ok_iald dL_law_239, List.forall_mem_cons.mpr ⟨ok_aload_n dL_law_240 rfl, fun _ h => absurd h List.not_mem_nil⟩⟩⟩⟩⟩⟩⟩⟩⟩⟩⟩⟩⟩⟩⟩⟩⟩⟩⟩⟩⟩⟩⟩⟩
def kL_law_2 : List (Nat × zT) := [(241, a_iload 3 242), (242, a_i 2 243), (243, a_ii (fun x y => x + y) 244), (244, a_iald 245), (245, a_aload 0 246), (246, a_iload 3 247), (247, a_i 3 248), (248, a_ii (fun x y => x + y) 249), (249, a_iald 250), (250, a_i2l 251), (251, a_i 32 253), (253, a_li (fun x y => x <<< (y.toInt64 &&& 63)) 254), (254, a_aload 0 255), (255, a_iload 3 256), (256, a_i 4 257), (257, a_ii (fun x y => x + y) 258), (258, a_iald 259), (259, a_i2l 260), (260, a_l 4294967295 263), (263, a_ll (fun x y => x &&& y) 264), (264, a_ll (fun x y => x ||| y) 265), (265, a_callV 12 139 4 268 0 0), (268, a_ic_eq 1224 271), (271, a_i 0 272)]
theorem oL_law_2 : ∀ q ∈ kL_law_2, zSnd zty false RL cL_law 4 (some .boolean) false q := List.forall_mem_cons.mpr ⟨ok_iload_n dL_law_241 rfl, List.forall_mem_cons.mpr ⟨ok_iconst dL_law_242 (by decide), List.forall_mem_cons.mpr ⟨ok_iadd dL_law_243, List.forall_mem_cons.mpr ⟨ok_iald dL_law_244, List.forall_mem_cons.mpr ⟨ok_aload_n dL_law_245 rfl, List.forall_mem_cons.mpr ⟨ok_iload_n dL_law_246 rfl, List.forall_mem_cons.mpr ⟨ok_iconst dL_law_247 (by decide), List.forall_mem_cons.mpr ⟨ok_iadd dL_law_248, List.forall_mem_cons.mpr ⟨ok_iald dL_law_249, List.forall_mem_cons.mpr ⟨ok_i2l dL_law_250, List.forall_mem_cons.mpr ⟨ok_bipush dL_law_251 (by decide), List.forall_mem_cons.mpr ⟨ok_lshl dL_law_253, List.forall_mem_cons.mpr ⟨ok_aload_n dL_law_254 rfl, List.forall_mem_cons.mpr ⟨ok_iload_n dL_law_255 rfl, List.forall_mem_cons.mpr ⟨ok_iconst dL_law_256 (by decide), List.forall_mem_cons.mpr ⟨ok_iadd dL_law_257, List.forall_mem_cons.mpr ⟨ok_iald dL_law_258, List.forall_mem_cons.mpr ⟨ok_i2l dL_law_259, List.forall_mem_cons.mpr ⟨ok_ldc2 dL_law_260 w1384, List.forall_mem_cons.mpr ⟨ok_land dL_law_263, List.forall_mem_cons.mpr ⟨ok_lor dL_law_264, List.forall_mem_cons.mpr ⟨ok_callV dL_law_265 rfl rfl w1081 w1078 w1079 w13 w1080 (by decide +kernel) (by decide), List.forall_mem_cons.mpr ⟨ok_ic_eq dL_law_268 (by decide), List.forall_mem_cons.mpr ⟨ok_iconst dL_law_271 (by decide), fun _ h => absurd h List.not_mem_nil⟩⟩⟩⟩⟩⟩⟩⟩⟩⟩⟩⟩⟩⟩⟩⟩⟩⟩⟩⟩⟩⟩⟩⟩
def kL_law_3 : List (Nat × zT) := [(272, a_iret true), (273, a_aload 1 274), (274, a_aload 0 275), (275, a_iload 3 276), (276, a_i 1 277), (277, a_ii (fun x y => x + y) 278), (278, a_iald 279), (279, a_callV 11 91 2 282 0 0), (282, a_aload 2 283), (283, a_aload 0 284), (284, a_iload 3 285), (285, a_i 1 286), (286, a_ii (fun x y => x + y) 287), (287, a_iald 288), (288, a_callV 12 140 2 291 0 0), (291, a_ic_eq 1224 294), (294, a_i 0 295), (295, a_iret true), (296, a_aload 1 297), (297, a_aload 0 298), (298, a_iload 3 299), (299, a_i 1 300), (300, a_ii (fun x y => x + y) 301), (301, a_iald 302)]
theorem oL_law_3 : ∀ q ∈ kL_law_3, zSnd zty false RL cL_law 4 (some .boolean) false q := List.forall_mem_cons.mpr ⟨ok_iret (bz := true) dL_law_272 rfl, List.forall_mem_cons.mpr ⟨ok_aload_n dL_law_273 rfl, List.forall_mem_cons.mpr ⟨ok_aload_n dL_law_274 rfl, List.forall_mem_cons.mpr ⟨ok_iload_n dL_law_275 rfl, List.forall_mem_cons.mpr ⟨ok_iconst dL_law_276 (by decide), List.forall_mem_cons.mpr ⟨ok_iadd dL_law_277, List.forall_mem_cons.mpr ⟨ok_iald dL_law_278, List.forall_mem_cons.mpr ⟨ok_callV dL_law_279 rfl rfl w400 w397 w398 w1 w399 (by decide +kernel) (by decide), List.forall_mem_cons.mpr ⟨ok_aload_n dL_law_282 rfl, List.forall_mem_cons.mpr ⟨ok_aload_n dL_law_283 rfl, List.forall_mem_cons.mpr ⟨ok_iload_n dL_law_284 rfl, List.forall_mem_cons.mpr ⟨ok_iconst dL_law_285 (by decide), List.forall_mem_cons.mpr ⟨ok_iadd dL_law_286, List.forall_mem_cons.mpr ⟨ok_iald dL_law_287, List.forall_mem_cons.mpr ⟨ok_callV dL_law_288 rfl rfl w1089 w1086 w1087 w13 w1088 (by decide +kernel) (by decide), List.forall_mem_cons.mpr ⟨ok_ic_eq dL_law_291 (by decide), List.forall_mem_cons.mpr ⟨ok_iconst dL_law_294 (by decide), List.forall_mem_cons.mpr ⟨ok_iret (bz := true) dL_law_295 rfl, List.forall_mem_cons.mpr ⟨ok_aload_n dL_law_296 rfl, List.forall_mem_cons.mpr ⟨ok_aload_n dL_law_297 rfl, List.forall_mem_cons.mpr ⟨ok_iload_n dL_law_298 rfl, List.forall_mem_cons.mpr ⟨ok_iconst dL_law_299 (by decide), List.forall_mem_cons.mpr ⟨ok_iadd dL_law_300, List.forall_mem_cons.mpr ⟨ok_iald dL_law_301, fun _ h => absurd h List.not_mem_nil⟩⟩⟩⟩⟩⟩⟩⟩⟩⟩⟩⟩⟩⟩⟩⟩⟩⟩⟩⟩⟩⟩⟩⟩
def kL_law_4 : List (Nat × zT) := [(302, a_callV 11 92 2 305 0 0), (305, a_aload 2 306), (306, a_aload 0 307), (307, a_iload 3 308), (308, a_i 1 309), (309, a_ii (fun x y => x + y) 310), (310, a_iald 311), (311, a_callV 12 147 2 314 0 0), (314, a_ic_eq 1224 317), (317, a_i 0 318), (318, a_iret true), (319, a_aload 1 320), (320, a_aload 0 321), (321, a_iload 3 322), (322, a_i 1 323), (323, a_ii (fun x y => x + y) 324), (324, a_iald 325), (325, a_aload 0 326), (326, a_iload 3 327), (327, a_i 2 328), (328, a_ii (fun x y => x + y) 329), (329, a_iald 330), (330, a_callV 11 93 3 333 0 0), (333, a_aload 2 334)]
theorem oL_law_4 : ∀ q ∈ kL_law_4, zSnd zty false RL cL_law 4 (some .boolean) false q := List.forall_mem_cons.mpr ⟨ok_callV dL_law_302 rfl rfl w404 w401 w402 w1 w403 (by decide +kernel) (by decide), List.forall_mem_cons.mpr ⟨ok_aload_n dL_law_305 rfl, List.forall_mem_cons.mpr ⟨ok_aload_n dL_law_306 rfl, List.forall_mem_cons.mpr ⟨ok_iload_n dL_law_307 rfl, List.forall_mem_cons.mpr ⟨ok_iconst dL_law_308 (by decide), List.forall_mem_cons.mpr ⟨ok_iadd dL_law_309, List.forall_mem_cons.mpr ⟨ok_iald dL_law_310, List.forall_mem_cons.mpr ⟨ok_callV dL_law_311 rfl rfl w1093 w1090 w1091 w13 w1092 (by decide +kernel) (by decide), List.forall_mem_cons.mpr ⟨ok_ic_eq dL_law_314 (by decide), List.forall_mem_cons.mpr ⟨ok_iconst dL_law_317 (by decide), List.forall_mem_cons.mpr ⟨ok_iret (bz := true) dL_law_318 rfl, List.forall_mem_cons.mpr ⟨ok_aload_n dL_law_319 rfl, List.forall_mem_cons.mpr ⟨ok_aload_n dL_law_320 rfl, List.forall_mem_cons.mpr ⟨ok_iload_n dL_law_321 rfl, List.forall_mem_cons.mpr ⟨ok_iconst dL_law_322 (by decide), List.forall_mem_cons.mpr ⟨ok_iadd dL_law_323, List.forall_mem_cons.mpr ⟨ok_iald dL_law_324, List.forall_mem_cons.mpr ⟨ok_aload_n dL_law_325 rfl, List.forall_mem_cons.mpr ⟨ok_iload_n dL_law_326 rfl, List.forall_mem_cons.mpr ⟨ok_iconst dL_law_327 (by decide), List.forall_mem_cons.mpr ⟨ok_iadd dL_law_328, List.forall_mem_cons.mpr ⟨ok_iald dL_law_329, List.forall_mem_cons.mpr ⟨ok_callV dL_law_330 rfl rfl w461 w458 w459 w1 w460 (by decide +kernel) (by decide), List.forall_mem_cons.mpr ⟨ok_aload_n dL_law_333 rfl, fun _ h => absurd h List.not_mem_nil⟩⟩⟩⟩⟩⟩⟩⟩⟩⟩⟩⟩⟩⟩⟩⟩⟩⟩⟩⟩⟩⟩⟩⟩
def kL_law_5 : List (Nat × zT) := [(334, a_aload 0 335), (335, a_iload 3 336), (336, a_i 1 337), (337, a_ii (fun x y => x + y) 338), (338, a_iald 339), (339, a_aload 0 340), (340, a_iload 3 341), (341, a_i 2 342), (342, a_ii (fun x y => x + y) 343), (343, a_iald 344), (344, a_callV 12 148 3 347 0 0), (347, a_ic_eq 1224 350), (350, a_i 0 351), (351, a_iret true), (352, a_aload 1 353), (353, a_aload 0 354), (354, a_iload 3 355), (355, a_i 1 356), (356, a_ii (fun x y => x + y) 357), (357, a_iald 358), (358, a_callV 11 94 2 361 0 0), (361, a_aload 2 362), (362, a_aload 0 363), (363, a_iload 3 364)]
theorem oL_law_5 : ∀ q ∈ kL_law_5, zSnd zty false RL cL_law 4 (some .boolean) false q := List.forall_mem_cons.mpr ⟨ok_aload_n dL_law_334 rfl, List.forall_mem_cons.mpr ⟨ok_iload_n dL_law_335 rfl, List.forall_mem_cons.mpr ⟨ok_iconst dL_law_336 (by decide), List.forall_mem_cons.mpr ⟨ok_iadd dL_law_337, List.forall_mem_cons.mpr ⟨ok_iald dL_law_338, List.forall_mem_cons.mpr ⟨ok_aload_n dL_law_339 rfl, List.forall_mem_cons.mpr ⟨ok_iload_n dL_law_340 rfl, List.forall_mem_cons.mpr ⟨ok_iconst dL_law_341 (by decide), List.forall_mem_cons.mpr ⟨ok_iadd dL_law_342, List.forall_mem_cons.mpr ⟨ok_iald dL_law_343, List.forall_mem_cons.mpr ⟨ok_callV dL_law_344 rfl rfl w1104 w1101 w1102 w13 w1103 (by decide +kernel) (by decide), List.forall_mem_cons.mpr ⟨ok_ic_eq dL_law_347 (by decide), List.forall_mem_cons.mpr ⟨ok_iconst dL_law_350 (by decide), List.forall_mem_cons.mpr ⟨ok_iret (bz := true) dL_law_351 rfl, List.forall_mem_cons.mpr ⟨ok_aload_n dL_law_352 rfl, List.forall_mem_cons.mpr ⟨ok_aload_n dL_law_353 rfl, List.forall_mem_cons.mpr ⟨ok_iload_n dL_law_354 rfl, List.forall_mem_cons.mpr ⟨ok_iconst dL_law_355 (by decide), List.forall_mem_cons.mpr ⟨ok_iadd dL_law_356, List.forall_mem_cons.mpr ⟨ok_iald dL_law_357, List.forall_mem_cons.mpr ⟨ok_callV dL_law_358 rfl rfl w474 w471 w472 w1 w473 (by decide +kernel) (by decide), List.forall_mem_cons.mpr ⟨ok_aload_n dL_law_361 rfl, List.forall_mem_cons.mpr ⟨ok_aload_n dL_law_362 rfl, List.forall_mem_cons.mpr ⟨ok_iload_n dL_law_363 rfl, fun _ h => absurd h List.not_mem_nil⟩⟩⟩⟩⟩⟩⟩⟩⟩⟩⟩⟩⟩⟩⟩⟩⟩⟩⟩⟩⟩⟩⟩⟩
def kL_law_6 : List (Nat × zT) := [(364, a_i 1 365), (365, a_ii (fun x y => x + y) 366), (366, a_iald 367), (367, a_callV 12 152 2 370 0 0), (370, a_ic_eq 1224 373), (373, a_i 0 374), (374, a_iret true), (375, a_aload 1 376), (376, a_aload 0 377), (377, a_iload 3 378), (378, a_i 1 379), (379, a_ii (fun x y => x + y) 380), (380, a_iald 381), (381, a_aload 0 382), (382, a_iload 3 383), (383, a_i 2 384), (384, a_ii (fun x y => x + y) 385), (385, a_iald 386), (386, a_aload 0 387), (387, a_iload 3 388), (388, a_i 3 389), (389, a_ii (fun x y => x + y) 390), (390, a_iald 391), (391, a_callV 11 95 4 394 0 0)]
theorem oL_law_6 : ∀ q ∈ kL_law_6, zSnd zty false RL cL_law 4 (some .boolean) false q := List.forall_mem_cons.mpr ⟨ok_iconst dL_law_364 (by decide), List.forall_mem_cons.mpr ⟨ok_iadd dL_law_365, List.forall_mem_cons.mpr ⟨ok_iald dL_law_366, List.forall_mem_cons.mpr ⟨ok_callV dL_law_367 rfl rfl w1124 w1121 w1122 w13 w1123 (by decide +kernel) (by decide), List.forall_mem_cons.mpr ⟨ok_ic_eq dL_law_370 (by decide), List.forall_mem_cons.mpr ⟨ok_iconst dL_law_373 (by decide), List.forall_mem_cons.mpr ⟨ok_iret (bz := true) dL_law_374 rfl, List.forall_mem_cons.mpr ⟨ok_aload_n dL_law_375 rfl, List.forall_mem_cons.mpr ⟨ok_aload_n dL_law_376 rfl, List.forall_mem_cons.mpr ⟨ok_iload_n dL_law_377 rfl, List.forall_mem_cons.mpr ⟨ok_iconst dL_law_378 (by decide), List.forall_mem_cons.mpr ⟨ok_iadd dL_law_379, List.forall_mem_cons.mpr ⟨ok_iald dL_law_380, List.forall_mem_cons.mpr ⟨ok_aload_n dL_law_381 rfl, List.forall_mem_cons.mpr ⟨ok_iload_n dL_law_382 rfl, List.forall_mem_cons.mpr ⟨ok_iconst dL_law_383 (by decide), List.forall_mem_cons.mpr ⟨ok_iadd dL_law_384, List.forall_mem_cons.mpr ⟨ok_iald dL_law_385, List.forall_mem_cons.mpr ⟨ok_aload_n dL_law_386 rfl, List.forall_mem_cons.mpr ⟨ok_iload_n dL_law_387 rfl, List.forall_mem_cons.mpr ⟨ok_iconst dL_law_388 (by decide), List.forall_mem_cons.mpr ⟨ok_iadd dL_law_389, List.forall_mem_cons.mpr ⟨ok_iald dL_law_390, List.forall_mem_cons.mpr ⟨ok_callV dL_law_391 rfl rfl w510 w507 w508 w1 w509 (by decide +kernel) (by decide), fun _ h => absurd h List.not_mem_nil⟩⟩⟩⟩⟩⟩⟩⟩⟩⟩⟩⟩⟩⟩⟩⟩⟩⟩⟩⟩⟩⟩⟩⟩
def kL_law_7 : List (Nat × zT) := [(394, a_aload 2 395), (395, a_aload 0 396), (396, a_iload 3 397), (397, a_i 1 398), (398, a_ii (fun x y => x + y) 399), (399, a_iald 400), (400, a_aload 0 401), (401, a_iload 3 402), (402, a_i 2 403), (403, a_ii (fun x y => x + y) 404), (404, a_iald 405), (405, a_aload 0 406), (406, a_iload 3 407), (407, a_i 3 408), (408, a_ii (fun x y => x + y) 409), (409, a_iald 410), (410, a_callV 12 155 4 413 0 0), (413, a_ic_eq 1224 416), (416, a_i 0 417), (417, a_iret true), (418, a_aload 1 419), (419, a_aload 0 420), (420, a_iload 3 421), (421, a_i 1 422)]
theorem oL_law_7 : ∀ q ∈ kL_law_7, zSnd zty false RL cL_law 4 (some .boolean) false q := List.forall_mem_cons.mpr ⟨ok_aload_n dL_law_394 rfl, List.forall_mem_cons.mpr ⟨ok_aload_n dL_law_395 rfl, List.forall_mem_cons.mpr ⟨ok_iload_n dL_law_396 rfl, List.forall_mem_cons.mpr ⟨ok_iconst dL_law_397 (by decide), List.forall_mem_cons.mpr ⟨ok_iadd dL_law_398, List.forall_mem_cons.mpr ⟨ok_iald dL_law_399, List.forall_mem_cons.mpr ⟨ok_aload_n dL_law_400 rfl, List.forall_mem_cons.mpr ⟨ok_iload_n dL_law_401 rfl, List.forall_mem_cons.mpr ⟨ok_iconst dL_law_402 (by decide), List.forall_mem_cons.mpr ⟨ok_iadd dL_law_403, List.forall_mem_cons.mpr ⟨ok_iald dL_law_404, List.forall_mem_cons.mpr ⟨ok_aload_n dL_law_405 rfl, List.forall_mem_cons.mpr ⟨ok_iload_n dL_law_406 rfl, List.forall_mem_cons.mpr ⟨ok_iconst dL_law_407 (by decide), List.forall_mem_cons.mpr ⟨ok_iadd dL_law_408, List.forall_mem_cons.mpr ⟨ok_iald dL_law_409, List.forall_mem_cons.mpr ⟨ok_callV dL_law_410 rfl rfl w1140 w1137 w1138 w13 w1139 (by decide +kernel) (by decide), List.forall_mem_cons.mpr ⟨ok_ic_eq dL_law_413 (by decide), List.forall_mem_cons.mpr ⟨ok_iconst dL_law_416 (by decide), List.forall_mem_cons.mpr ⟨ok_iret (bz := true) dL_law_417 rfl, List.forall_mem_cons.mpr ⟨ok_aload_n dL_law_418 rfl, List.forall_mem_cons.mpr ⟨ok_aload_n dL_law_419 rfl, List.forall_mem_cons.mpr ⟨ok_iload_n dL_law_420 rfl, List.forall_mem_cons.mpr ⟨ok_iconst dL_law_421 (by decide), fun _ h => absurd h List.not_mem_nil⟩⟩⟩⟩⟩⟩⟩⟩⟩⟩⟩⟩⟩⟩⟩⟩⟩⟩⟩⟩⟩⟩⟩⟩
def kL_law_8 : List (Nat × zT) := [(422, a_ii (fun x y => x + y) 423), (423, a_iald 424), (424, a_callV 11 96 2 427 0 0), (427, a_aload 2 428), (428, a_aload 0 429), (429, a_iload 3 430), (430, a_i 1 431), (431, a_ii (fun x y => x + y) 432), (432, a_iald 433), (433, a_callV 12 164 2 436 0 0), (436, a_ic_eq 1224 439), (439, a_i 0 440), (440, a_iret true), (441, a_aload 1 442), (442, a_aload 0 443), (443, a_iload 3 444), (444, a_i 1 445), (445, a_ii (fun x y => x + y) 446), (446, a_iald 447), (447, a_aload 0 448), (448, a_iload 3 449), (449, a_i 2 450), (450, a_ii (fun x y => x + y) 451), (451, a_iald 452)]
theorem oL_law_8 : ∀ q ∈ kL_law_8, zSnd zty false RL cL_law 4 (some .boolean) false q := List.forall_mem_cons.mpr ⟨ok_iadd dL_law_422, List.forall_mem_cons.mpr ⟨ok_iald dL_law_423, List.forall_mem_cons.mpr ⟨ok_callV dL_law_424 rfl rfl w516 w513 w514 w1 w515 (by decide +kernel) (by decide), List.forall_mem_cons.mpr ⟨ok_aload_n dL_law_427 rfl, List.forall_mem_cons.mpr ⟨ok_aload_n dL_law_428 rfl, List.forall_mem_cons.mpr ⟨ok_iload_n dL_law_429 rfl, List.forall_mem_cons.mpr ⟨ok_iconst dL_law_430 (by decide), List.forall_mem_cons.mpr ⟨ok_iadd dL_law_431, List.forall_mem_cons.mpr ⟨ok_iald dL_law_432, List.forall_mem_cons.mpr ⟨ok_callV dL_law_433 rfl rfl w1152 w1149 w1150 w13 w1151 (by decide +kernel) (by decide), List.forall_mem_cons.mpr ⟨ok_ic_eq dL_law_436 (by decide), List.forall_mem_cons.mpr ⟨ok_iconst dL_law_439 (by decide), List.forall_mem_cons.mpr ⟨ok_iret (bz := true) dL_law_440 rfl, List.forall_mem_cons.mpr ⟨ok_aload_n dL_law_441 rfl, List.forall_mem_cons.mpr ⟨ok_aload_n dL_law_442 rfl, List.forall_mem_cons.mpr ⟨ok_iload_n dL_law_443 rfl, List.forall_mem_cons.mpr ⟨ok_iconst dL_law_444 (by decide), List.forall_mem_cons.mpr ⟨ok_iadd dL_law_445, List.forall_mem_cons.mpr ⟨ok_iald dL_law_446, List.forall_mem_cons.mpr ⟨ok_aload_n dL_law_447 rfl, List.forall_mem_cons.mpr ⟨ok_iload_n dL_law_448 rfl, List.forall_mem_cons.mpr ⟨ok_iconst dL_law_449 (by decide), List.forall_mem_cons.mpr ⟨ok_iadd dL_law_450, List.forall_mem_cons.mpr ⟨ok_iald dL_law_451, fun _ h => absurd h List.not_mem_nil⟩⟩⟩⟩⟩⟩⟩⟩⟩⟩⟩⟩⟩⟩⟩⟩⟩⟩⟩⟩⟩⟩⟩⟩
def kL_law_9 : List (Nat × zT) := [(452, a_callV 11 97 3 455 0 0), (455, a_aload 2 456), (456, a_aload 0 457), (457, a_iload 3 458), (458, a_i 1 459), (459, a_ii (fun x y => x + y) 460), (460, a_iald 461), (461, a_aload 0 462), (462, a_iload 3 463), (463, a_i 2 464), (464, a_ii (fun x y => x + y) 465), (465, a_iald 466), (466, a_callV 12 165 3 469 0 0), (469, a_ic_eq 1224 472), (472, a_i 0 473), (473, a_iret true), (474, a_aload 1 475), (475, a_aload 0 476), (476, a_iload 3 477), (477, a_i 1 478), (478, a_ii (fun x y => x + y) 479), (479, a_iald 480), (480, a_callV 11 98 2 483 0 0), (483, a_aload 2 484)]
theorem oL_law_9 : ∀ q ∈ kL_law_9, zSnd zty false RL cL_law 4 (some .boolean) false q := List.forall_mem_cons.mpr ⟨ok_callV dL_law_452 rfl rfl w524 w521 w522 w1 w523 (by decide +kernel) (by decide), List.forall_mem_cons.mpr ⟨ok_aload_n dL_law_455 rfl, List.forall_mem_cons.mpr ⟨ok_aload_n dL_law_456 rfl, List.forall_mem_cons.mpr ⟨ok_iload_n dL_law_457 rfl, List.forall_mem_cons.mpr ⟨ok_iconst dL_law_458 (by decide), List.forall_mem_cons.mpr ⟨ok_iadd dL_law_459, List.forall_mem_cons.mpr ⟨ok_iald dL_law_460, List.forall_mem_cons.mpr ⟨ok_aload_n dL_law_461 rfl, List.forall_mem_cons.mpr ⟨ok_iload_n dL_law_462 rfl, List.forall_mem_cons.mpr ⟨ok_iconst dL_law_463 (by decide), List.forall_mem_cons.mpr ⟨ok_iadd dL_law_464, List.forall_mem_cons.mpr ⟨ok_iald dL_law_465, List.forall_mem_cons.mpr ⟨ok_callV dL_law_466 rfl rfl w1160 w1157 w1158 w13 w1159 (by decide +kernel) (by decide), List.forall_mem_cons.mpr ⟨ok_ic_eq dL_law_469 (by decide), List.forall_mem_cons.mpr ⟨ok_iconst dL_law_472 (by decide), List.forall_mem_cons.mpr ⟨ok_iret (bz := true) dL_law_473 rfl, List.forall_mem_cons.mpr ⟨ok_aload_n dL_law_474 rfl, List.forall_mem_cons.mpr ⟨ok_aload_n dL_law_475 rfl, List.forall_mem_cons.mpr ⟨ok_iload_n dL_law_476 rfl, List.forall_mem_cons.mpr ⟨ok_iconst dL_law_477 (by decide), List.forall_mem_cons.mpr ⟨ok_iadd dL_law_478, List.forall_mem_cons.mpr ⟨ok_iald dL_law_479, List.forall_mem_cons.mpr ⟨ok_callV dL_law_480 rfl rfl w559 w556 w557 w1 w558 (by decide +kernel) (by decide), List.forall_mem_cons.mpr ⟨ok_aload_n dL_law_483 rfl, fun _ h => absurd h List.not_mem_nil⟩⟩⟩⟩⟩⟩⟩⟩⟩⟩⟩⟩⟩⟩⟩⟩⟩⟩⟩⟩⟩⟩⟩⟩
def kL_law_10 : List (Nat × zT) := [(484, a_aload 0 485), (485, a_iload 3 486), (486, a_i 1 487), (487, a_ii (fun x y => x + y) 488), (488, a_iald 489), (489, a_callV 12 166 2 492 0 0), (492, a_ic_eq 1224 495), (495, a_i 0 496), (496, a_iret true), (497, a_aload 1 498), (498, a_aload 0 499), (499, a_iload 3 500), (500, a_i 1 501), (501, a_ii (fun x y => x + y) 502), (502, a_iald 503), (503, a_aload 0 504), (504, a_iload 3 505), (505, a_i 2 506), (506, a_ii (fun x y => x + y) 507), (507, a_iald 508), (508, a_aload 0 509), (509, a_iload 3 510), (510, a_i 3 511), (511, a_ii (fun x y => x + y) 512)]
theorem oL_law_10 : ∀ q ∈ kL_law_10, zSnd zty false RL cL_law 4 (some .boolean) false q := List.forall_mem_cons.mpr ⟨ok_aload_n dL_law_484 rfl, List.forall_mem_cons.mpr ⟨ok_iload_n dL_law_485 rfl, List.forall_mem_cons.mpr ⟨ok_iconst dL_law_486 (by decide), List.forall_mem_cons.mpr ⟨ok_iadd dL_law_487, List.forall_mem_cons.mpr ⟨ok_iald dL_law_488, List.forall_mem_cons.mpr ⟨ok_callV dL_law_489 rfl rfl w1186 w1183 w1184 w13 w1185 (by decide +kernel) (by decide), List.forall_mem_cons.mpr ⟨ok_ic_eq dL_law_492 (by decide), List.forall_mem_cons.mpr ⟨ok_iconst dL_law_495 (by decide), List.forall_mem_cons.mpr ⟨ok_iret (bz := true) dL_law_496 rfl, List.forall_mem_cons.mpr ⟨ok_aload_n dL_law_497 rfl, List.forall_mem_cons.mpr ⟨ok_aload_n dL_law_498 rfl, List.forall_mem_cons.mpr ⟨ok_iload_n dL_law_499 rfl, List.forall_mem_cons.mpr ⟨ok_iconst dL_law_500 (by decide), List.forall_mem_cons.mpr ⟨ok_iadd dL_law_501, List.forall_mem_cons.mpr ⟨ok_iald dL_law_502, List.forall_mem_cons.mpr ⟨ok_aload_n dL_law_503 rfl, List.forall_mem_cons.mpr ⟨ok_iload_n dL_law_504 rfl, List.forall_mem_cons.mpr ⟨ok_iconst dL_law_505 (by decide), List.forall_mem_cons.mpr ⟨ok_iadd dL_law_506, List.forall_mem_cons.mpr ⟨ok_iald dL_law_507, List.forall_mem_cons.mpr ⟨ok_aload_n dL_law_508 rfl, List.forall_mem_cons.mpr ⟨ok_iload_n dL_law_509 rfl, List.forall_mem_cons.mpr ⟨ok_iconst dL_law_510 (by decide), List.forall_mem_cons.mpr ⟨ok_iadd dL_law_511, fun _ h => absurd h List.not_mem_nil⟩⟩⟩⟩⟩⟩⟩⟩⟩⟩⟩⟩⟩⟩⟩⟩⟩⟩⟩⟩⟩⟩⟩⟩
def kL_law_11 : List (Nat × zT) := [(512, a_iald 513), (513, a_callV 11 99 4 516 0 0), (516, a_aload 2 517), (517, a_aload 0 518), (518, a_iload 3 519), (519, a_i 1 520), (520, a_ii (fun x y => x + y) 521), (521, a_iald 522), (522, a_aload 0 523), (523, a_iload 3 524), (524, a_i 2 525), (525, a_ii (fun x y => x + y) 526), (526, a_iald 527), (527, a_aload 0 528), (528, a_iload 3 529), (529, a_i 3 530), (530, a_ii (fun x y => x + y) 531), (531, a_iald 532), (532, a_callV 12 167 4 535 0 0), (535, a_ic_eq 1224 538), (538, a_i 0 539), (539, a_iret true), (540, a_aload 1 541), (541, a_aload 0 542)]
theorem oL_law_11 : ∀ q ∈ kL_law_11, zSnd zty false RL cL_law 4 (some .boolean) false q := List.forall_mem_cons.mpr ⟨ok_iald dL_law_512, List.forall_mem_cons.mpr ⟨ok_callV dL_law_513 rfl rfl w563 w560 w561 w1 w562 (by decide +kernel) (by decide), List.forall_mem_cons.mpr ⟨ok_aload_n dL_law_516 rfl, List.forall_mem_cons.mpr ⟨ok_aload_n dL_law_517 rfl, List.forall_mem_cons.mpr ⟨ok_iload_n dL_law_518 rfl, List.forall_mem_cons.mpr ⟨ok_iconst dL_law_519 (by decide), List.forall_mem_cons.mpr ⟨ok_iadd dL_law_520, List.forall_mem_cons.mpr ⟨ok_iald dL_law_521, List.forall_mem_cons.mpr ⟨ok_aload_n dL_law_522 rfl, List.forall_mem_cons.mpr ⟨ok_iload_n dL_law_523 rfl, List.forall_mem_cons.mpr ⟨ok_iconst dL_law_524 (by decide), List.forall_mem_cons.mpr ⟨ok_iadd dL_law_525, List.forall_mem_cons.mpr ⟨ok_iald dL_law_526, List.forall_mem_cons.mpr ⟨ok_aload_n dL_law_527 rfl, List.forall_mem_cons.mpr ⟨ok_iload_n dL_law_528 rfl, List.forall_mem_cons.mpr ⟨ok_iconst dL_law_529 (by decide), List.forall_mem_cons.mpr ⟨ok_iadd dL_law_530, List.forall_mem_cons.mpr ⟨ok_iald dL_law_531, List.forall_mem_cons.mpr ⟨ok_callV dL_law_532 rfl rfl w1190 w1187 w1188 w13 w1189 (by decide +kernel) (by decide), List.forall_mem_cons.mpr ⟨ok_ic_eq dL_law_535 (by decide), List.forall_mem_cons.mpr ⟨ok_iconst dL_law_538 (by decide), List.forall_mem_cons.mpr ⟨ok_iret (bz := true) dL_law_539 rfl, List.forall_mem_cons.mpr ⟨ok_aload_n dL_law_540 rfl, List.forall_mem_cons.mpr ⟨ok_aload_n dL_law_541 rfl, fun _ h => absurd h List.not_mem_nil⟩⟩⟩⟩⟩⟩⟩⟩⟩⟩⟩⟩⟩⟩⟩⟩⟩⟩⟩⟩⟩⟩⟩⟩
def kL_law_12 : List (Nat × zT) := [(542, a_iload 3 543), (543, a_i 1 544), (544, a_ii (fun x y => x + y) 545), (545, a_iald 546), (546, a_aload 0 547), (547, a_iload 3 548), (548, a_i 2 549), (549, a_ii (fun x y => x + y) 550), (550, a_iald 551), (551, a_callV 11 100 3 554 0 0), (554, a_aload 2 555), (555, a_aload 0 556), (556, a_iload 3 557), (557, a_i 1 558), (558, a_ii (fun x y => x + y) 559), (559, a_iald 560), (560, a_aload 0 561), (561, a_iload 3 562), (562, a_i 2 563), (563, a_ii (fun x y => x + y) 564), (564, a_iald 565), (565, a_callV 12 168 3 568 0 0), (568, a_ic_eq 1224 571), (571, a_i 0 572)]
theorem oL_law_12 : ∀ q ∈ kL_law_12, zSnd zty false RL cL_law 4 (some .boolean) false q := List.forall_mem_cons.mpr ⟨ok_iload_n dL_law_542 rfl, List.forall_mem_cons.mpr ⟨ok_iconst dL_law_543 (by decide), List.forall_mem_cons.mpr ⟨ok_iadd dL_law_544, List.forall_mem_cons.mpr ⟨ok_iald dL_law_545, List.forall_mem_cons.mpr ⟨ok_aload_n dL_law_546 rfl, List.forall_mem_cons.mpr ⟨ok_iload_n dL_law_547 rfl, List.forall_mem_cons.mpr ⟨ok_iconst dL_law_548 (by decide), List.forall_mem_cons.mpr ⟨ok_iadd dL_law_549, List.forall_mem_cons.mpr ⟨ok_iald dL_law_550, List.forall_mem_cons.mpr ⟨ok_callV dL_law_551 rfl rfl w593 w590 w591 w1 w592 (by decide +kernel) (by decide), List.forall_mem_cons.mpr ⟨ok_aload_n dL_law_554 rfl, List.forall_mem_cons.mpr ⟨ok_aload_n dL_law_555 rfl, List.forall_mem_cons.mpr ⟨ok_iload_n dL_law_556 rfl, List.forall_mem_cons.mpr ⟨ok_iconst dL_law_557 (by decide), List.forall_mem_cons.mpr ⟨ok_iadd dL_law_558, List.forall_mem_cons.mpr ⟨ok_iald dL_law_559, List.forall_mem_cons.mpr ⟨ok_aload_n dL_law_560 rfl, List.forall_mem_cons.mpr ⟨ok_iload_n dL_law_561 rfl, List.forall_mem_cons.mpr ⟨ok_iconst dL_law_562 (by decide), List.forall_mem_cons.mpr ⟨ok_iadd dL_law_563, List.forall_mem_cons.mpr ⟨ok_iald dL_law_564, List.forall_mem_cons.mpr ⟨ok_callV dL_law_565 rfl rfl w1198 w1195 w1196 w13 w1197 (by decide +kernel) (by decide), List.forall_mem_cons.mpr ⟨ok_ic_eq dL_law_568 (by decide), List.forall_mem_cons.mpr ⟨ok_iconst dL_law_571 (by decide), fun _ h => absurd h List.not_mem_nil⟩⟩⟩⟩⟩⟩⟩⟩⟩⟩⟩⟩⟩⟩⟩⟩⟩⟩⟩⟩⟩⟩⟩⟩
def kL_law_13 : List (Nat × zT) := [(572, a_iret true), (573, a_aload 1 574), (574, a_aload 0 575), (575, a_iload 3 576), (576, a_i 1 577), (577, a_ii (fun x y => x + y) 578), (578, a_iald 579), (579, a_callV 11 101 2 582 0 0), (582, a_aload 2 583), (583, a_aload 0 584), (584, a_iload 3 585), (585, a_i 1 586), (586, a_ii (fun x y => x + y) 587), (587, a_iald 588), (588, a_callV 12 169 2 591 0 0), (591, a_ic_eq 1224 594), (594, a_i 0 595), (595, a_iret true), (596, a_aload 1 597), (597, a_callV 11 102 1 600 0 0), (600, a_aload 2 601), (601, a_callV 12 170 1 604 0 0), (604, a_ic_eq 1224 607), (607, a_i 0 608)]
theorem oL_law_13 : ∀ q ∈ kL_law_13, zSnd zty false RL cL_law 4 (some .boolean) false q := List.forall_mem_cons.mpr ⟨ok_iret (bz := true) dL_law_572 rfl, List.forall_mem_cons.mpr ⟨ok_aload_n dL_law_573 rfl, List.forall_mem_cons.mpr ⟨ok_aload_n dL_law_574 rfl, List.forall_mem_cons.mpr ⟨ok_iload_n dL_law_575 rfl, List.forall_mem_cons.mpr ⟨ok_iconst dL_law_576 (by decide), List.forall_mem_cons.mpr ⟨ok_iadd dL_law_577, List.forall_mem_cons.mpr ⟨ok_iald dL_law_578, List.forall_mem_cons.mpr ⟨ok_callV dL_law_579 rfl rfl w609 w606 w607 w1 w608 (by decide +kernel) (by decide), List.forall_mem_cons.mpr ⟨ok_aload_n dL_law_582 rfl, List.forall_mem_cons.mpr ⟨ok_aload_n dL_law_583 rfl, List.forall_mem_cons.mpr ⟨ok_iload_n dL_law_584 rfl, List.forall_mem_cons.mpr ⟨ok_iconst dL_law_585 (by decide), List.forall_mem_cons.mpr ⟨ok_iadd dL_law_586, List.forall_mem_cons.mpr ⟨ok_iald dL_law_587, List.forall_mem_cons.mpr ⟨ok_callV dL_law_588 rfl rfl w1202 w1199 w1200 w13 w1201 (by decide +kernel) (by decide), List.forall_mem_cons.mpr ⟨ok_ic_eq dL_law_591 (by decide), List.forall_mem_cons.mpr ⟨ok_iconst dL_law_594 (by decide), List.forall_mem_cons.mpr ⟨ok_iret (bz := true) dL_law_595 rfl, List.forall_mem_cons.mpr ⟨ok_aload_n dL_law_596 rfl, List.forall_mem_cons.mpr ⟨ok_callV dL_law_597 rfl rfl w613 w610 w611 w1 w612 (by decide +kernel) (by decide), List.forall_mem_cons.mpr ⟨ok_aload_n dL_law_600 rfl, List.forall_mem_cons.mpr ⟨ok_callV dL_law_601 rfl rfl w1206 w1203 w1204 w13 w1205 (by decide +kernel) (by decide), List.forall_mem_cons.mpr ⟨ok_ic_eq dL_law_604 (by decide), List.forall_mem_cons.mpr ⟨ok_iconst dL_law_607 (by decide), fun _ h => absurd h List.not_mem_nil⟩⟩⟩⟩⟩⟩⟩⟩⟩⟩⟩⟩⟩⟩⟩⟩⟩⟩⟩⟩⟩⟩⟩⟩
def kL_law_14 : List (Nat × zT) := [(608, a_iret true), (609, a_aload 1 610), (610, a_aload 0 611), (611, a_iload 3 612), (612, a_i 1 613), (613, a_ii (fun x y => x + y) 614), (614, a_iald 615), (615, a_callV 11 103 2 618 0 0), (618, a_aload 2 619), (619, a_aload 0 620), (620, a_iload 3 621), (621, a_i 1 622), (622, a_ii (fun x y => x + y) 623), (623, a_iald 624), (624, a_callV 12 171 2 627 0 0), (627, a_ic_eq 1224 630), (630, a_i 0 631), (631, a_iret true), (632, a_aload 1 633), (633, a_callV 11 104 1 636 0 0), (636, a_aload 2 637), (637, a_callV 12 172 1 640 0 0), (640, a_ic_eq 1224 643), (643, a_i 0 644)]
theorem oL_law_14 : ∀ q ∈ kL_law_14, zSnd zty false RL cL_law 4 (some .boolean) false q := List.forall_mem_cons.mpr ⟨ok_iret (bz := true) dL_law_608 rfl, List.forall_mem_cons.mpr ⟨ok_aload_n dL_law_609 rfl, List.forall_mem_cons.mpr ⟨ok_aload_n dL_law_610 rfl, List.forall_mem_cons.mpr ⟨ok_iload_n dL_law_611 rfl, List.forall_mem_cons.mpr ⟨ok_iconst dL_law_612 (by decide), List.forall_mem_cons.mpr ⟨ok_iadd dL_law_613, List.forall_mem_cons.mpr ⟨ok_iald dL_law_614, List.forall_mem_cons.mpr ⟨ok_callV dL_law_615 rfl rfl w627 w624 w625 w1 w626 (by decide +kernel) (by decide), List.forall_mem_cons.mpr ⟨ok_aload_n dL_law_618 rfl, List.forall_mem_cons.mpr ⟨ok_aload_n dL_law_619 rfl, List.forall_mem_cons.mpr ⟨ok_iload_n dL_law_620 rfl, List.forall_mem_cons.mpr ⟨ok_iconst dL_law_621 (by decide), List.forall_mem_cons.mpr ⟨ok_iadd dL_law_622, List.forall_mem_cons.mpr ⟨ok_iald dL_law_623, List.forall_mem_cons.mpr ⟨ok_callV dL_law_624 rfl rfl w1210 w1207 w1208 w13 w1209 (by decide +kernel) (by decide), List.forall_mem_cons.mpr ⟨ok_ic_eq dL_law_627 (by decide), List.forall_mem_cons.mpr ⟨ok_iconst dL_law_630 (by decide), List.forall_mem_cons.mpr ⟨ok_iret (bz := true) dL_law_631 rfl, List.forall_mem_cons.mpr ⟨ok_aload_n dL_law_632 rfl, List.forall_mem_cons.mpr ⟨ok_callV dL_law_633 rfl rfl w646 w643 w644 w1 w645 (by decide +kernel) (by decide), List.forall_mem_cons.mpr ⟨ok_aload_n dL_law_636 rfl, List.forall_mem_cons.mpr ⟨ok_callV dL_law_637 rfl rfl w1215 w1212 w1213 w13 w1214 (by decide +kernel) (by decide), List.forall_mem_cons.mpr ⟨ok_ic_eq dL_law_640 (by decide), List.forall_mem_cons.mpr ⟨ok_iconst dL_law_643 (by decide), fun _ h => absurd h List.not_mem_nil⟩⟩⟩⟩⟩⟩⟩⟩⟩⟩⟩⟩⟩⟩⟩⟩⟩⟩⟩⟩⟩⟩⟩⟩
def kL_law_15 : List (Nat × zT) := [(644, a_iret true), (645, a_aload 1 646), (646, a_aload 0 647), (647, a_iload 3 648), (648, a_i 1 649), (649, a_ii (fun x y => x + y) 650), (650, a_iald 651), (651, a_aload 0 652), (652, a_iload 3 653), (653, a_i 2 654), (654, a_ii (fun x y => x + y) 655), (655, a_iald 656), (656, a_aload 0 657), (657, a_iload 3 658), (658, a_i 3 659), (659, a_ii (fun x y => x + y) 660), (660, a_iald 661), (661, a_callV 11 105 4 664 0 0), (664, a_aload 2 665), (665, a_aload 0 666), (666, a_iload 3 667), (667, a_i 1 668), (668, a_ii (fun x y => x + y) 669), (669, a_iald 670)]
theorem oL_law_15 : ∀ q ∈ kL_law_15, zSnd zty false RL cL_law 4 (some .boolean) false q := List.forall_mem_cons.mpr ⟨ok_iret (bz := true) dL_law_644 rfl, List.forall_mem_cons.mpr ⟨ok_aload_n dL_law_645 rfl, List.forall_mem_cons.mpr ⟨ok_aload_n dL_law_646 rfl, List.forall_mem_cons.mpr ⟨ok_iload_n dL_law_647 rfl, List.forall_mem_cons.mpr ⟨ok_iconst dL_law_648 (by decide), List.forall_mem_cons.mpr ⟨ok_iadd dL_law_649, List.forall_mem_cons.mpr ⟨ok_iald dL_law_650, List.forall_mem_cons.mpr ⟨ok_aload_n dL_law_651 rfl, List.forall_mem_cons.mpr ⟨ok_iload_n dL_law_652 rfl, List.forall_mem_cons.mpr ⟨ok_iconst dL_law_653 (by decide), List.forall_mem_cons.mpr ⟨ok_iadd dL_law_654, List.forall_mem_cons.mpr ⟨ok_iald dL_law_655, List.forall_mem_cons.mpr ⟨ok_aload_n dL_law_656 rfl, List.forall_mem_cons.mpr ⟨ok_iload_n dL_law_657 rfl, List.forall_mem_cons.mpr ⟨ok_iconst dL_law_658 (by decide), List.forall_mem_cons.mpr ⟨ok_iadd dL_law_659, List.forall_mem_cons.mpr ⟨ok_iald dL_law_660, List.forall_mem_cons.mpr ⟨ok_callV dL_law_661 rfl rfl w650 w647 w648 w1 w649 (by decide +kernel) (by decide), List.forall_mem_cons.mpr ⟨ok_aload_n dL_law_664 rfl, List.forall_mem_cons.mpr ⟨ok_aload_n dL_law_665 rfl, List.forall_mem_cons.mpr ⟨ok_iload_n dL_law_666 rfl, List.forall_mem_cons.mpr ⟨ok_iconst dL_law_667 (by decide), List.forall_mem_cons.mpr ⟨ok_iadd dL_law_668, List.forall_mem_cons.mpr ⟨ok_iald dL_law_669, fun _ h => absurd h List.not_mem_nil⟩⟩⟩⟩⟩⟩⟩⟩⟩⟩⟩⟩⟩⟩⟩⟩⟩⟩⟩⟩⟩⟩⟩⟩
def kL_law_16 : List (Nat × zT) := [(670, a_aload 0 671), (671, a_iload 3 672), (672, a_i 2 673), (673, a_ii (fun x y => x + y) 674), (674, a_iald 675), (675, a_aload 0 676), (676, a_iload 3 677), (677, a_i 3 678), (678, a_ii (fun x y => x + y) 679), (679, a_iald 680), (680, a_callV 12 173 4 683 0 0), (683, a_ic_eq 1224 686), (686, a_i 0 687), (687, a_iret true), (688, a_aload 1 689), (689, a_aload 0 690), (690, a_iload 3 691), (691, a_i 1 692), (692, a_ii (fun x y => x + y) 693), (693, a_iald 694), (694, a_aload 0 695), (695, a_iload 3 696), (696, a_i 2 697), (697, a_ii (fun x y => x + y) 698)]
theorem oL_law_16 : ∀ q ∈ kL_law_16, zSnd zty false RL cL_law 4 (some .boolean) false q := List.forall_mem_cons.mpr ⟨ok_aload_n dL_law_670 rfl, List.forall_mem_cons.mpr ⟨ok_iload_n dL_law_671 rfl, List.forall_mem_cons.mpr ⟨ok_iconst dL_law_672 (by decide), List.forall_mem_cons.mpr ⟨ok_iadd dL_law_673, List.forall_mem_cons.mpr ⟨ok_iald dL_law_674, List.forall_mem_cons.mpr ⟨ok_aload_n dL_law_675 rfl, List.forall_mem_cons.mpr ⟨ok_iload_n dL_law_676 rfl, List.forall_mem_cons.mpr ⟨ok_iconst dL_law_677 (by decide), List.forall_mem_cons.mpr ⟨ok_iadd dL_law_678, List.forall_mem_cons.mpr ⟨ok_iald dL_law_679, List.forall_mem_cons.mpr ⟨ok_callV dL_law_680 rfl rfl w1219 w1216 w1217 w13 w1218 (by decide +kernel) (by decide), List.forall_mem_cons.mpr ⟨ok_ic_eq dL_law_683 (by decide), List.forall_mem_cons.mpr ⟨ok_iconst dL_law_686 (by decide), List.forall_mem_cons.mpr ⟨ok_iret (bz := true) dL_law_687 rfl, List.forall_mem_cons.mpr ⟨ok_aload_n dL_law_688 rfl, List.forall_mem_cons.mpr ⟨ok_aload_n dL_law_689 rfl, List.forall_mem_cons.mpr ⟨ok_iload_n dL_law_690 rfl, List.forall_mem_cons.mpr ⟨ok_iconst dL_law_691 (by decide), List.forall_mem_cons.mpr ⟨ok_iadd dL_law_692, List.forall_mem_cons.mpr ⟨ok_iald dL_law_693, List.forall_mem_cons.mpr ⟨ok_aload_n dL_law_694 rfl, List.forall_mem_cons.mpr ⟨ok_iload_n dL_law_695 rfl, List.forall_mem_cons.mpr ⟨ok_iconst dL_law_696 (by decide), List.forall_mem_cons.mpr ⟨ok_iadd dL_law_697, fun _ h => absurd h List.not_mem_nil⟩⟩⟩⟩⟩⟩⟩⟩⟩⟩⟩⟩⟩⟩⟩⟩⟩⟩⟩⟩⟩⟩⟩⟩
def kL_law_17 : List (Nat × zT) := [(698, a_iald 699), (699, a_callV 11 106 3 702 0 0), (702, a_aload 2 703), (703, a_aload 0 704), (704, a_iload 3 705), (705, a_i 1 706), (706, a_ii (fun x y => x + y) 707), (707, a_iald 708), (708, a_aload 0 709), (709, a_iload 3 710), (710, a_i 2 711), (711, a_ii (fun x y => x + y) 712), (712, a_iald 713), (713, a_callV 12 174 3 716 0 0), (716, a_ic_eq 1224 719), (719, a_i 0 720), (720, a_iret true), (721, a_aload 1 722), (722, a_aload 0 723), (723, a_iload 3 724), (724, a_i 1 725), (725, a_ii (fun x y => x + y) 726), (726, a_iald 727), (727, a_aload 0 728)]
theorem oL_law_17 : ∀ q ∈ kL_law_17, zSnd zty false RL cL_law 4 (some .boolean) false q := List.forall_mem_cons.mpr ⟨ok_iald dL_law_698, List.forall_mem_cons.mpr ⟨ok_callV dL_law_699 rfl rfl w654 w651 w652 w1 w653 (by decide +kernel) (by decide), List.forall_mem_cons.mpr ⟨ok_aload_n dL_law_702 rfl, List.forall_mem_cons.mpr ⟨ok_aload_n dL_law_703 rfl, List.forall_mem_cons.mpr ⟨ok_iload_n dL_law_704 rfl, List.forall_mem_cons.mpr ⟨ok_iconst dL_law_705 (by decide), List.forall_mem_cons.mpr ⟨ok_iadd dL_law_706, List.forall_mem_cons.mpr ⟨ok_iald dL_law_707, List.forall_mem_cons.mpr ⟨ok_aload_n dL_law_708 rfl, List.forall_mem_cons.mpr ⟨ok_iload_n dL_law_709 rfl, List.forall_mem_cons.mpr ⟨ok_iconst dL_law_710 (by decide), List.forall_mem_cons.mpr ⟨ok_iadd dL_law_711, List.forall_mem_cons.mpr ⟨ok_iald dL_law_712, List.forall_mem_cons.mpr ⟨ok_callV dL_law_713 rfl rfl w1223 w1220 w1221 w13 w1222 (by decide +kernel) (by decide), List.forall_mem_cons.mpr ⟨ok_ic_eq dL_law_716 (by decide), List.forall_mem_cons.mpr ⟨ok_iconst dL_law_719 (by decide), List.forall_mem_cons.mpr ⟨ok_iret (bz := true) dL_law_720 rfl, List.forall_mem_cons.mpr ⟨ok_aload_n dL_law_721 rfl, List.forall_mem_cons.mpr ⟨ok_aload_n dL_law_722 rfl, List.forall_mem_cons.mpr ⟨ok_iload_n dL_law_723 rfl, List.forall_mem_cons.mpr ⟨ok_iconst dL_law_724 (by decide), List.forall_mem_cons.mpr ⟨ok_iadd dL_law_725, List.forall_mem_cons.mpr ⟨ok_iald dL_law_726, List.forall_mem_cons.mpr ⟨ok_aload_n dL_law_727 rfl, fun _ h => absurd h List.not_mem_nil⟩⟩⟩⟩⟩⟩⟩⟩⟩⟩⟩⟩⟩⟩⟩⟩⟩⟩⟩⟩⟩⟩⟩⟩
def kL_law_18 : List (Nat × zT) := [(728, a_iload 3 729), (729, a_i 2 730), (730, a_ii (fun x y => x + y) 731), (731, a_iald 732), (732, a_callV 11 107 3 735 0 0), (735, a_aload 2 736), (736, a_aload 0 737), (737, a_iload 3 738), (738, a_i 1 739), (739, a_ii (fun x y => x + y) 740), (740, a_iald 741), (741, a_aload 0 742), (742, a_iload 3 743), (743, a_i 2 744), (744, a_ii (fun x y => x + y) 745), (745, a_iald 746), (746, a_callV 12 178 3 749 0 0), (749, a_ic_eq 1224 752), (752, a_i 0 753), (753, a_iret true), (754, a_aload 1 755), (755, a_aload 0 756), (756, a_iload 3 757), (757, a_i 1 758)]
theorem oL_law_18 : ∀ q ∈ kL_law_18, zSnd zty false RL cL_law 4 (some .boolean) false q := List.forall_mem_cons.mpr ⟨ok_iload_n dL_law_728 rfl, List.forall_mem_cons.mpr ⟨ok_iconst dL_law_729 (by decide), List.forall_mem_cons.mpr ⟨ok_iadd dL_law_730, List.forall_mem_cons.mpr ⟨ok_iald dL_law_731, List.forall_mem_cons.mpr ⟨ok_callV dL_law_732 rfl rfl w670 w667 w668 w1 w669 (by decide +kernel) (by decide), List.forall_mem_cons.mpr ⟨ok_aload_n dL_law_735 rfl, List.forall_mem_cons.mpr ⟨ok_aload_n dL_law_736 rfl, List.forall_mem_cons.mpr ⟨ok_iload_n dL_law_737 rfl, List.forall_mem_cons.mpr ⟨ok_iconst dL_law_738 (by decide), List.forall_mem_cons.mpr ⟨ok_iadd dL_law_739, List.forall_mem_cons.mpr ⟨ok_iald dL_law_740, List.forall_mem_cons.mpr ⟨ok_aload_n dL_law_741 rfl, List.forall_mem_cons.mpr ⟨ok_iload_n dL_law_742 rfl, List.forall_mem_cons.mpr ⟨ok_iconst dL_law_743 (by decide), List.forall_mem_cons.mpr ⟨ok_iadd dL_law_744, List.forall_mem_cons.mpr ⟨ok_iald dL_law_745, List.forall_mem_cons.mpr ⟨ok_callV dL_law_746 rfl rfl w1227 w1224 w1225 w13 w1226 (by decide +kernel) (by decide), List.forall_mem_cons.mpr ⟨ok_ic_eq dL_law_749 (by decide), List.forall_mem_cons.mpr ⟨ok_iconst dL_law_752 (by decide), List.forall_mem_cons.mpr ⟨ok_iret (bz := true) dL_law_753 rfl, List.forall_mem_cons.mpr ⟨ok_aload_n dL_law_754 rfl, List.forall_mem_cons.mpr ⟨ok_aload_n dL_law_755 rfl, List.forall_mem_cons.mpr ⟨ok_iload_n dL_law_756 rfl, List.forall_mem_cons.mpr ⟨ok_iconst dL_law_757 (by decide), fun _ h => absurd h List.not_mem_nil⟩⟩⟩⟩⟩⟩⟩⟩⟩⟩⟩⟩⟩⟩⟩⟩⟩⟩⟩⟩⟩⟩⟩⟩
def kL_law_19 : List (Nat × zT) := [(758, a_ii (fun x y => x + y) 759), (759, a_iald 760), (760, a_aload 0 761), (761, a_iload 3 762), (762, a_i 2 763), (763, a_ii (fun x y => x + y) 764), (764, a_iald 765), (765, a_aload 0 766), (766, a_iload 3 767), (767, a_i 3 768), (768, a_ii (fun x y => x + y) 769), (769, a_iald 770), (770, a_callV 11 108 4 773 0 0), (773, a_aload 2 774), (774, a_aload 0 775), (775, a_iload 3 776), (776, a_i 1 777), (777, a_ii (fun x y => x + y) 778), (778, a_iald 779), (779, a_aload 0 780), (780, a_iload 3 781), (781, a_i 2 782), (782, a_ii (fun x y => x + y) 783), (783, a_iald 784)]
theorem oL_law_19 : ∀ q ∈ kL_law_19, zSnd zty false RL cL_law 4 (some .boolean) false q := List.forall_mem_cons.mpr ⟨ok_iadd dL_law_758, List.forall_mem_cons.mpr ⟨ok_iald dL_law_759, List.forall_mem_cons.mpr ⟨ok_aload_n dL_law_760 rfl, List.forall_mem_cons.mpr ⟨ok_iload_n dL_law_761 rfl, List.forall_mem_cons.mpr ⟨ok_iconst dL_law_762 (by decide), List.forall_mem_cons.mpr ⟨ok_iadd dL_law_763, List.forall_mem_cons.mpr ⟨ok_iald dL_law_764, List.forall_mem_cons.mpr ⟨ok_aload_n dL_law_765 rfl, List.forall_mem_cons.mpr ⟨ok_iload_n dL_law_766 rfl, List.forall_mem_cons.mpr ⟨ok_iconst dL_law_767 (by decide), List.forall_mem_cons.mpr ⟨ok_iadd dL_law_768, List.forall_mem_cons.mpr ⟨ok_iald dL_law_769, List.forall_mem_cons.mpr ⟨ok_callV dL_law_770 rfl rfl w696 w693 w694 w1 w695 (by decide +kernel) (by decide), List.forall_mem_cons.mpr ⟨ok_aload_n dL_law_773 rfl, List.forall_mem_cons.mpr ⟨ok_aload_n dL_law_774 rfl, List.forall_mem_cons.mpr ⟨ok_iload_n dL_law_775 rfl, List.forall_mem_cons.mpr ⟨ok_iconst dL_law_776 (by decide), List.forall_mem_cons.mpr ⟨ok_iadd dL_law_777, List.forall_mem_cons.mpr ⟨ok_iald dL_law_778, List.forall_mem_cons.mpr ⟨ok_aload_n dL_law_779 rfl, List.forall_mem_cons.mpr ⟨ok_iload_n dL_law_780 rfl, List.forall_mem_cons.mpr ⟨ok_iconst dL_law_781 (by decide), List.forall_mem_cons.mpr ⟨ok_iadd dL_law_782, List.forall_mem_cons.mpr ⟨ok_iald dL_law_783, fun _ h => absurd h List.not_mem_nil⟩⟩⟩⟩⟩⟩⟩⟩⟩⟩⟩⟩⟩⟩⟩⟩⟩⟩⟩⟩⟩⟩⟩⟩
def kL_law_20 : List (Nat × zT) := [(784, a_aload 0 785), (785, a_iload 3 786), (786, a_i 3 787), (787, a_ii (fun x y => x + y) 788), (788, a_iald 789), (789, a_callV 12 182 4 792 0 0), (792, a_ic_eq 1224 795), (795, a_i 0 796), (796, a_iret true), (797, a_aload 1 798), (798, a_aload 0 799), (799, a_iload 3 800), (800, a_i 1 801), (801, a_ii (fun x y => x + y) 802), (802, a_iald 803), (803, a_aload 0 804), (804, a_iload 3 805), (805, a_i 2 806), (806, a_ii (fun x y => x + y) 807), (807, a_iald 808), (808, a_aload 0 809), (809, a_iload 3 810), (810, a_i 3 811), (811, a_ii (fun x y => x + y) 812)]
theorem oL_law_20 : ∀ q ∈ kL_law_20, zSnd zty false RL cL_law 4 (some .boolean) false q := List.forall_mem_cons.mpr ⟨ok_aload_n dL_law_784 rfl, List.forall_mem_cons.mpr ⟨ok_iload_n dL_law_785 rfl, List.forall_mem_cons.mpr ⟨ok_iconst dL_law_786 (by decide), List.forall_mem_cons.mpr ⟨ok_iadd dL_law_787, List.forall_mem_cons.mpr ⟨ok_iald dL_law_788, List.forall_mem_cons.mpr ⟨ok_callV dL_law_789 rfl rfl w1242 w1239 w1240 w13 w1241 (by decide +kernel) (by decide), List.forall_mem_cons.mpr ⟨ok_ic_eq dL_law_792 (by decide), List.forall_mem_cons.mpr ⟨ok_iconst dL_law_795 (by decide), List.forall_mem_cons.mpr ⟨ok_iret (bz := true) dL_law_796 rfl, List.forall_mem_cons.mpr ⟨ok_aload_n dL_law_797 rfl, List.forall_mem_cons.mpr ⟨ok_aload_n dL_law_798 rfl, List.forall_mem_cons.mpr ⟨ok_iload_n dL_law_799 rfl, List.forall_mem_cons.mpr ⟨ok_iconst dL_law_800 (by decide), List.forall_mem_cons.mpr ⟨ok_iadd dL_law_801, List.forall_mem_cons.mpr ⟨ok_iald dL_law_802, List.forall_mem_cons.mpr ⟨ok_aload_n dL_law_803 rfl, List.forall_mem_cons.mpr ⟨ok_iload_n dL_law_804 rfl, List.forall_mem_cons.mpr ⟨ok_iconst dL_law_805 (by decide), List.forall_mem_cons.mpr ⟨ok_iadd dL_law_806, List.forall_mem_cons.mpr ⟨ok_iald dL_law_807, List.forall_mem_cons.mpr ⟨ok_aload_n dL_law_808 rfl, List.forall_mem_cons.mpr ⟨ok_iload_n dL_law_809 rfl, List.forall_mem_cons.mpr ⟨ok_iconst dL_law_810 (by decide), List.forall_mem_cons.mpr ⟨ok_iadd dL_law_811, fun _ h => absurd h List.not_mem_nil⟩⟩⟩⟩⟩⟩⟩⟩⟩⟩⟩⟩⟩⟩⟩⟩⟩⟩⟩⟩⟩⟩⟩⟩
def kL_law_21 : List (Nat × zT) := [(812, a_iald 813), (813, a_callV 11 109 4 816 0 0), (816, a_aload 2 817), (817, a_aload 0 818), (818, a_iload 3 819), (819, a_i 1 820), (820, a_ii (fun x y => x + y) 821), (821, a_iald 822), (822, a_aload 0 823), (823, a_iload 3 824), (824, a_i 2 825), (825, a_ii (fun x y => x + y) 826), (826, a_iald 827), (827, a_aload 0 828), (828, a_iload 3 829), (829, a_i 3 830), (830, a_ii (fun x y => x + y) 831), (831, a_iald 832), (832, a_callV 12 183 4 835 0 0), (835, a_ic_eq 1224 838), (838, a_i 0 839), (839, a_iret true), (840, a_aload 1 841), (841, a_callV 11 110 1 844 0 0)]
theorem oL_law_21 : ∀ q ∈ kL_law_21, zSnd zty false RL cL_law 4 (some .boolean) false q := List.forall_mem_cons.mpr ⟨ok_iald dL_law_812, List.forall_mem_cons.mpr ⟨ok_callV dL_law_813 rfl rfl w727 w724 w725 w1 w726 (by decide +kernel) (by decide), List.forall_mem_cons.mpr ⟨ok_aload_n dL_law_816 rfl, List.forall_mem_cons.mpr ⟨ok_aload_n dL_law_817 rfl, List.forall_mem_cons.mpr ⟨ok_iload_n dL_law_818 rfl, List.forall_mem_cons.mpr ⟨ok_iconst dL_law_819 (by decide), List.forall_mem_cons.mpr ⟨ok_iadd dL_law_820, List.forall_mem_cons.mpr ⟨ok_iald dL_law_821, List.forall_mem_cons.mpr ⟨ok_aload_n dL_law_822 rfl, List.forall_mem_cons.mpr ⟨ok_iload_n dL_law_823 rfl, List.forall_mem_cons.mpr ⟨ok_iconst dL_law_824 (by decide), List.forall_mem_cons.mpr ⟨ok_iadd dL_law_825, List.forall_mem_cons.mpr ⟨ok_iald dL_law_826, List.forall_mem_cons.mpr ⟨ok_aload_n dL_law_827 rfl, List.forall_mem_cons.mpr ⟨ok_iload_n dL_law_828 rfl, List.forall_mem_cons.mpr ⟨ok_iconst dL_law_829 (by decide), List.forall_mem_cons.mpr ⟨ok_iadd dL_law_830, List.forall_mem_cons.mpr ⟨ok_iald dL_law_831, List.forall_mem_cons.mpr ⟨ok_callV dL_law_832 rfl rfl w1257 w1254 w1255 w13 w1256 (by decide +kernel) (by decide), List.forall_mem_cons.mpr ⟨ok_ic_eq dL_law_835 (by decide), List.forall_mem_cons.mpr ⟨ok_iconst dL_law_838 (by decide), List.forall_mem_cons.mpr ⟨ok_iret (bz := true) dL_law_839 rfl, List.forall_mem_cons.mpr ⟨ok_aload_n dL_law_840 rfl, List.forall_mem_cons.mpr ⟨ok_callV dL_law_841 rfl rfl w744 w741 w742 w1 w743 (by decide +kernel) (by decide), fun _ h => absurd h List.not_mem_nil⟩⟩⟩⟩⟩⟩⟩⟩⟩⟩⟩⟩⟩⟩⟩⟩⟩⟩⟩⟩⟩⟩⟩⟩
def kL_law_22 : List (Nat × zT) := [(844, a_aload 2 845), (845, a_callV 12 185 1 848 0 0), (848, a_ic_eq 1224 851), (851, a_i 0 852), (852, a_iret true), (853, a_aload 1 854), (854, a_aload 0 855), (855, a_iload 3 856), (856, a_i 1 857), (857, a_ii (fun x y => x + y) 858), (858, a_iald 859), (859, a_callV 11 111 2 862 0 0), (862, a_aload 2 863), (863, a_aload 0 864), (864, a_iload 3 865), (865, a_i 1 866), (866, a_ii (fun x y => x + y) 867), (867, a_iald 868), (868, a_callV 12 186 2 871 0 0), (871, a_ic_eq 1224 874), (874, a_i 0 875), (875, a_iret true), (876, a_aload 1 877), (877, a_aload 0 878)]
theorem oL_law_22 : ∀ q ∈ kL_law_22, zSnd zty false RL cL_law 4 (some .boolean) false q := List.forall_mem_cons.mpr ⟨ok_aload_n dL_law_844 rfl, List.forall_mem_cons.mpr ⟨ok_callV dL_law_845 rfl rfl w1261 w1258 w1259 w13 w1260 (by decide +kernel) (by decide), List.forall_mem_cons.mpr ⟨ok_ic_eq dL_law_848 (by decide), List.forall_mem_cons.mpr ⟨ok_iconst dL_law_851 (by decide), List.forall_mem_cons.mpr ⟨ok_iret (bz := true) dL_law_852 rfl, List.forall_mem_cons.mpr ⟨ok_aload_n dL_law_853 rfl, List.forall_mem_cons.mpr ⟨ok_aload_n dL_law_854 rfl, List.forall_mem_cons.mpr ⟨ok_iload_n dL_law_855 rfl, List.forall_mem_cons.mpr ⟨ok_iconst dL_law_856 (by decide), List.forall_mem_cons.mpr ⟨ok_iadd dL_law_857, List.forall_mem_cons.mpr ⟨ok_iald dL_law_858, List.forall_mem_cons.mpr ⟨ok_callV dL_law_859 rfl rfl w758 w755 w756 w1 w757 (by decide +kernel) (by decide), List.forall_mem_cons.mpr ⟨ok_aload_n dL_law_862 rfl, List.forall_mem_cons.mpr ⟨ok_aload_n dL_law_863 rfl, List.forall_mem_cons.mpr ⟨ok_iload_n dL_law_864 rfl, List.forall_mem_cons.mpr ⟨ok_iconst dL_law_865 (by decide), List.forall_mem_cons.mpr ⟨ok_iadd dL_law_866, List.forall_mem_cons.mpr ⟨ok_iald dL_law_867, List.forall_mem_cons.mpr ⟨ok_callV dL_law_868 rfl rfl w1269 w1266 w1267 w13 w1268 (by decide +kernel) (by decide), List.forall_mem_cons.mpr ⟨ok_ic_eq dL_law_871 (by decide), List.forall_mem_cons.mpr ⟨ok_iconst dL_law_874 (by decide), List.forall_mem_cons.mpr ⟨ok_iret (bz := true) dL_law_875 rfl, List.forall_mem_cons.mpr ⟨ok_aload_n dL_law_876 rfl, List.forall_mem_cons.mpr ⟨ok_aload_n dL_law_877 rfl, fun _ h => absurd h List.not_mem_nil⟩⟩⟩⟩⟩⟩⟩⟩⟩⟩⟩⟩⟩⟩⟩⟩⟩⟩⟩⟩⟩⟩⟩⟩
def kL_law_23 : List (Nat × zT) := [(878, a_iload 3 879), (879, a_i 1 880), (880, a_ii (fun x y => x + y) 881), (881, a_iald 882), (882, a_aload 0 883), (883, a_iload 3 884), (884, a_i 2 885), (885, a_ii (fun x y => x + y) 886), (886, a_iald 887), (887, a_callV 11 112 3 890 0 0), (890, a_aload 2 891), (891, a_aload 0 892), (892, a_iload 3 893), (893, a_i 1 894), (894, a_ii (fun x y => x + y) 895), (895, a_iald 896), (896, a_aload 0 897), (897, a_iload 3 898), (898, a_i 2 899), (899, a_ii (fun x y => x + y) 900), (900, a_iald 901), (901, a_callV 12 187 3 904 0 0), (904, a_ic_eq 1224 907), (907, a_i 0 908)]
theorem oL_law_23 : ∀ q ∈ kL_law_23, zSnd zty false RL cL_law 4 (some .boolean) false q := List.forall_mem_cons.mpr ⟨ok_iload_n dL_law_878 rfl, List.forall_mem_cons.mpr ⟨ok_iconst dL_law_879 (by decide), List.forall_mem_cons.mpr ⟨ok_iadd dL_law_880, List.forall_mem_cons.mpr ⟨ok_iald dL_law_881, List.forall_mem_cons.mpr ⟨ok_aload_n dL_law_882 rfl, List.forall_mem_cons.mpr ⟨ok_iload_n dL_law_883 rfl, List.forall_mem_cons.mpr ⟨ok_iconst dL_law_884 (by decide), List.forall_mem_cons.mpr ⟨ok_iadd dL_law_885, List.forall_mem_cons.mpr ⟨ok_iald dL_law_886, List.forall_mem_cons.mpr ⟨ok_callV dL_law_887 rfl rfl w772 w769 w770 w1 w771 (by decide +kernel) (by decide), List.forall_mem_cons.mpr ⟨ok_aload_n dL_law_890 rfl, List.forall_mem_cons.mpr ⟨ok_aload_n dL_law_891 rfl, List.forall_mem_cons.mpr ⟨ok_iload_n dL_law_892 rfl, List.forall_mem_cons.mpr ⟨ok_iconst dL_law_893 (by decide), List.forall_mem_cons.mpr ⟨ok_iadd dL_law_894, List.forall_mem_cons.mpr ⟨ok_iald dL_law_895, List.forall_mem_cons.mpr ⟨ok_aload_n dL_law_896 rfl, List.forall_mem_cons.mpr ⟨ok_iload_n dL_law_897 rfl, List.forall_mem_cons.mpr ⟨ok_iconst dL_law_898 (by decide), List.forall_mem_cons.mpr ⟨ok_iadd dL_law_899, List.forall_mem_cons.mpr ⟨ok_iald dL_law_900, List.forall_mem_cons.mpr ⟨ok_callV dL_law_901 rfl rfl w1273 w1270 w1271 w13 w1272 (by decide +kernel) (by decide), List.forall_mem_cons.mpr ⟨ok_ic_eq dL_law_904 (by decide), List.forall_mem_cons.mpr ⟨ok_iconst dL_law_907 (by decide), fun _ h => absurd h List.not_mem_nil⟩⟩⟩⟩⟩⟩⟩⟩⟩⟩⟩⟩⟩⟩⟩⟩⟩⟩⟩⟩⟩⟩⟩⟩
def kL_law_24 : List (Nat × zT) := [(908, a_iret true), (909, a_aload 1 910), (910, a_aload 0 911), (911, a_iload 3 912), (912, a_i 1 913), (913, a_ii (fun x y => x + y) 914), (914, a_iald 915), (915, a_callV 11 113 2 918 0 0), (918, a_aload 2 919), (919, a_aload 0 920), (920, a_iload 3 921), (921, a_i 1 922), (922, a_ii (fun x y => x + y) 923), (923, a_iald 924), (924, a_callV 12 191 2 927 0 0), (927, a_ic_eq 1224 930), (930, a_i 0 931), (931, a_iret true), (932, a_aload 1 933), (933, a_aload 0 934), (934, a_iload 3 935), (935, a_i 1 936), (936, a_ii (fun x y => x + y) 937), (937, a_iald 938)]
theorem oL_law_24 : ∀ q ∈ kL_law_24, zSnd zty false RL cL_law 4 (some .boolean) false q := List.forall_mem_cons.mpr ⟨ok_iret (bz := true) dL_law_908 rfl, List.forall_mem_cons.mpr ⟨ok_aload_n dL_law_909 rfl, List.forall_mem_cons.mpr ⟨ok_aload_n dL_law_910 rfl, List.forall_mem_cons.mpr ⟨ok_iload_n dL_law_911 rfl, List.forall_mem_cons.mpr ⟨ok_iconst dL_law_912 (by decide), List.forall_mem_cons.mpr ⟨ok_iadd dL_law_913, List.forall_mem_cons.mpr ⟨ok_iald dL_law_914, List.forall_mem_cons.mpr ⟨ok_callV dL_law_915 rfl rfl w780 w777 w778 w1 w779 (by decide +kernel) (by decide), List.forall_mem_cons.mpr ⟨ok_aload_n dL_law_918 rfl, List.forall_mem_cons.mpr ⟨ok_aload_n dL_law_919 rfl, List.forall_mem_cons.mpr ⟨ok_iload_n dL_law_920 rfl, List.forall_mem_cons.mpr ⟨ok_iconst dL_law_921 (by decide), List.forall_mem_cons.mpr ⟨ok_iadd dL_law_922, List.forall_mem_cons.mpr ⟨ok_iald dL_law_923, List.forall_mem_cons.mpr ⟨ok_callV dL_law_924 rfl rfl w1277 w1274 w1275 w13 w1276 (by decide +kernel) (by decide), List.forall_mem_cons.mpr ⟨ok_ic_eq dL_law_927 (by decide), List.forall_mem_cons.mpr ⟨ok_iconst dL_law_930 (by decide), List.forall_mem_cons.mpr ⟨ok_iret (bz := true) dL_law_931 rfl, List.forall_mem_cons.mpr ⟨ok_aload_n dL_law_932 rfl, List.forall_mem_cons.mpr ⟨ok_aload_n dL_law_933 rfl, List.forall_mem_cons.mpr ⟨ok_iload_n dL_law_934 rfl, List.forall_mem_cons.mpr ⟨ok_iconst dL_law_935 (by decide), List.forall_mem_cons.mpr ⟨ok_iadd dL_law_936, List.forall_mem_cons.mpr ⟨ok_iald dL_law_937, fun _ h => absurd h List.not_mem_nil⟩⟩⟩⟩⟩⟩⟩⟩⟩⟩⟩⟩⟩⟩⟩⟩⟩⟩⟩⟩⟩⟩⟩⟩
def kL_law_25 : List (Nat × zT) := [(938, a_callV 11 114 2 941 0 0), (941, a_aload 2 942), (942, a_aload 0 943), (943, a_iload 3 944), (944, a_i 1 945), (945, a_ii (fun x y => x + y) 946), (946, a_iald 947), (947, a_callV 12 194 2 950 0 0), (950, a_ic_eq 1224 953), (953, a_i 0 954), (954, a_iret true), (955, a_aload 1 956), (956, a_callV 11 115 1 959 0 0), (959, a_aload 2 960), (960, a_callV 12 196 1 963 0 0), (963, a_ic_eq 1224 966), (966, a_i 0 967), (967, a_iret true), (968, a_aload 1 969), (969, a_aload 0 970), (970, a_iload 3 971), (971, a_i 1 972), (972, a_ii (fun x y => x + y) 973), (973, a_iald 974)]
theorem oL_law_25 : ∀ q ∈ kL_law_25, zSnd zty false RL cL_law 4 (some .boolean) false q := List.forall_mem_cons.mpr ⟨ok_callV dL_law_938 rfl rfl w799 w796 w797 w1 w798 (by decide +kernel) (by decide), List.forall_mem_cons.mpr ⟨ok_aload_n dL_law_941 rfl, List.forall_mem_cons.mpr ⟨ok_aload_n dL_law_942 rfl, List.forall_mem_cons.mpr ⟨ok_iload_n dL_law_943 rfl, List.forall_mem_cons.mpr ⟨ok_iconst dL_law_944 (by decide), List.forall_mem_cons.mpr ⟨ok_iadd dL_law_945, List.forall_mem_cons.mpr ⟨ok_iald dL_law_946, List.forall_mem_cons.mpr ⟨ok_callV dL_law_947 rfl rfl w1293 w1290 w1291 w13 w1292 (by decide +kernel) (by decide), List.forall_mem_cons.mpr ⟨ok_ic_eq dL_law_950 (by decide), List.forall_mem_cons.mpr ⟨ok_iconst dL_law_953 (by decide), List.forall_mem_cons.mpr ⟨ok_iret (bz := true) dL_law_954 rfl, List.forall_mem_cons.mpr ⟨ok_aload_n dL_law_955 rfl, List.forall_mem_cons.mpr ⟨ok_callV dL_law_956 rfl rfl w825 w822 w823 w1 w824 (by decide +kernel) (by decide), List.forall_mem_cons.mpr ⟨ok_aload_n dL_law_959 rfl, List.forall_mem_cons.mpr ⟨ok_callV dL_law_960 rfl rfl w1306 w1303 w1304 w13 w1305 (by decide +kernel) (by decide), List.forall_mem_cons.mpr ⟨ok_ic_eq dL_law_963 (by decide), List.forall_mem_cons.mpr ⟨ok_iconst dL_law_966 (by decide), List.forall_mem_cons.mpr ⟨ok_iret (bz := true) dL_law_967 rfl, List.forall_mem_cons.mpr ⟨ok_aload_n dL_law_968 rfl, List.forall_mem_cons.mpr ⟨ok_aload_n dL_law_969 rfl, List.forall_mem_cons.mpr ⟨ok_iload_n dL_law_970 rfl, List.forall_mem_cons.mpr ⟨ok_iconst dL_law_971 (by decide), List.forall_mem_cons.mpr ⟨ok_iadd dL_law_972, List.forall_mem_cons.mpr ⟨ok_iald dL_law_973, fun _ h => absurd h List.not_mem_nil⟩⟩⟩⟩⟩⟩⟩⟩⟩⟩⟩⟩⟩⟩⟩⟩⟩⟩⟩⟩⟩⟩⟩⟩
def kL_law_26 : List (Nat × zT) := [(974, a_callV 11 116 2 977 0 0), (977, a_aload 2 978), (978, a_aload 0 979), (979, a_iload 3 980), (980, a_i 1 981), (981, a_ii (fun x y => x + y) 982), (982, a_iald 983), (983, a_callV 12 197 2 986 0 0), (986, a_ic_eq 1224 989), (989, a_i 0 990), (990, a_iret true), (991, a_aload 1 992), (992, a_aload 0 993), (993, a_iload 3 994), (994, a_i 1 995), (995, a_ii (fun x y => x + y) 996), (996, a_iald 997), (997, a_aload 0 998), (998, a_iload 3 999), (999, a_i 2 1000), (1000, a_ii (fun x y => x + y) 1001), (1001, a_iald 1002), (1002, a_callV 11 117 3 1005 0 0), (1005, a_aload 2 1006)]
theorem oL_law_26 : ∀ q ∈ kL_law_26, zSnd zty false RL cL_law 4 (some .boolean) false q := List.forall_mem_cons.mpr ⟨ok_callV dL_law_974 rfl rfl w842 w839 w840 w1 w841 (by decide +kernel) (by decide), List.forall_mem_cons.mpr ⟨ok_aload_n dL_law_977 rfl, List.forall_mem_cons.mpr ⟨ok_aload_n dL_law_978 rfl, List.forall_mem_cons.mpr ⟨ok_iload_n dL_law_979 rfl, List.forall_mem_cons.mpr ⟨ok_iconst dL_law_980 (by decide), List.forall_mem_cons.mpr ⟨ok_iadd dL_law_981, List.forall_mem_cons.mpr ⟨ok_iald dL_law_982, List.forall_mem_cons.mpr ⟨ok_callV dL_law_983 rfl rfl w1314 w1311 w1312 w13 w1313 (by decide +kernel) (by decide), List.forall_mem_cons.mpr ⟨ok_ic_eq dL_law_986 (by decide), List.forall_mem_cons.mpr ⟨ok_iconst dL_law_989 (by decide), List.forall_mem_cons.mpr ⟨ok_iret (bz := true) dL_law_990 rfl, List.forall_mem_cons.mpr ⟨ok_aload_n dL_law_991 rfl, List.forall_mem_cons.mpr ⟨ok_aload_n dL_law_992 rfl, List.forall_mem_cons.mpr ⟨ok_iload_n dL_law_993 rfl, List.forall_mem_cons.mpr ⟨ok_iconst dL_law_994 (by decide), List.forall_mem_cons.mpr ⟨ok_iadd dL_law_995, List.forall_mem_cons.mpr ⟨ok_iald dL_law_996, List.forall_mem_cons.mpr ⟨ok_aload_n dL_law_997 rfl, List.forall_mem_cons.mpr ⟨ok_iload_n dL_law_998 rfl, List.forall_mem_cons.mpr ⟨ok_iconst dL_law_999 (by decide), List.forall_mem_cons.mpr ⟨ok_iadd dL_law_1000, List.forall_mem_cons.mpr ⟨ok_iald dL_law_1001, List.forall_mem_cons.mpr ⟨ok_callV dL_law_1002 rfl rfl w847 w844 w845 w1 w846 (by decide +kernel) (by decide), List.forall_mem_cons.mpr ⟨ok_aload_n dL_law_1005 rfl, fun _ h => absurd h List.not_mem_nil⟩⟩⟩⟩⟩⟩⟩⟩⟩⟩⟩⟩⟩⟩⟩⟩⟩⟩⟩⟩⟩⟩⟩⟩
def kL_law_27 : List (Nat × zT) := [(1006, a_aload 0 1007), (1007, a_iload 3 1008), (1008, a_i 1 1009), (1009, a_ii (fun x y => x + y) 1010), (1010, a_iald 1011), (1011, a_aload 0 1012), (1012, a_iload 3 1013), (1013, a_i 2 1014), (1014, a_ii (fun x y => x + y) 1015), (1015, a_iald 1016), (1016, a_callV 12 200 3 1019 0 0), (1019, a_ic_eq 1224 1022), (1022, a_i 0 1023), (1023, a_iret true), (1024, a_aload 1 1025), (1025, a_aload 0 1026), (1026, a_iload 3 1027), (1027, a_i 1 1028), (1028, a_ii (fun x y => x + y) 1029), (1029, a_iald 1030), (1030, a_callV 11 118 2 1033 0 0), (1033, a_aload 2 1034), (1034, a_aload 0 1035), (1035, a_iload 3 1036)]
theorem oL_law_27 : ∀ q ∈ kL_law_27, zSnd zty false RL cL_law 4 (some .boolean) false q := List.forall_mem_cons.mpr ⟨ok_aload_n dL_law_1006 rfl, List.forall_mem_cons.mpr ⟨ok_iload_n dL_law_1007 rfl, List.forall_mem_cons.mpr ⟨ok_iconst dL_law_1008 (by decide), List.forall_mem_cons.mpr ⟨ok_iadd dL_law_1009, List.forall_mem_cons.mpr ⟨ok_iald dL_law_1010, List.forall_mem_cons.mpr ⟨ok_aload_n dL_law_1011 rfl, List.forall_mem_cons.mpr ⟨ok_iload_n dL_law_1012 rfl, List.forall_mem_cons.mpr ⟨ok_iconst dL_law_1013 (by decide), List.forall_mem_cons.mpr ⟨ok_iadd dL_law_1014, List.forall_mem_cons.mpr ⟨ok_iald dL_law_1015, List.forall_mem_cons.mpr ⟨ok_callV dL_law_1016 rfl rfl w1319 w1316 w1317 w13 w1318 (by decide +kernel) (by decide), List.forall_mem_cons.mpr ⟨ok_ic_eq dL_law_1019 (by decide), List.forall_mem_cons.mpr ⟨ok_iconst dL_law_1022 (by decide), List.forall_mem_cons.mpr ⟨ok_iret (bz := true) dL_law_1023 rfl, List.forall_mem_cons.mpr ⟨ok_aload_n dL_law_1024 rfl, List.forall_mem_cons.mpr ⟨ok_aload_n dL_law_1025 rfl, List.forall_mem_cons.mpr ⟨ok_iload_n dL_law_1026 rfl, List.forall_mem_cons.mpr ⟨ok_iconst dL_law_1027 (by decide), List.forall_mem_cons.mpr ⟨ok_iadd dL_law_1028, List.forall_mem_cons.mpr ⟨ok_iald dL_law_1029, List.forall_mem_cons.mpr ⟨ok_callV dL_law_1030 rfl rfl w862 w859 w860 w1 w861 (by decide +kernel) (by decide), List.forall_mem_cons.mpr ⟨ok_aload_n dL_law_1033 rfl, List.forall_mem_cons.mpr ⟨ok_aload_n dL_law_1034 rfl, List.forall_mem_cons.mpr ⟨ok_iload_n dL_law_1035 rfl, fun _ h => absurd h List.not_mem_nil⟩⟩⟩⟩⟩⟩⟩⟩⟩⟩⟩⟩⟩⟩⟩⟩⟩⟩⟩⟩⟩⟩⟩⟩
def kL_law_28 : List (Nat × zT) := [(1036, a_i 1 1037), (1037, a_ii (fun x y => x + y) 1038), (1038, a_iald 1039), (1039, a_callV 12 201 2 1042 0 0), (1042, a_ic_eq 1224 1045), (1045, a_i 0 1046), (1046, a_iret true), (1047, a_aload 1 1048), (1048, a_aload 0 1049), (1049, a_iload 3 1050), (1050, a_i 1 1051), (1051, a_ii (fun x y => x + y) 1052), (1052, a_iald 1053), (1053, a_callV 11 119 2 1056 0 0), (1056, a_aload 2 1057), (1057, a_aload 0 1058), (1058, a_iload 3 1059), (1059, a_i 1 1060), (1060, a_ii (fun x y => x + y) 1061), (1061, a_iald 1062), (1062, a_callV 12 202 2 1065 0 0), (1065, a_ic_eq 1224 1068), (1068, a_i 0 1069), (1069, a_iret true)]
theorem oL_law_28 : ∀ q ∈ kL_law_28, zSnd zty false RL cL_law 4 (some .boolean) false q := List.forall_mem_cons.mpr ⟨ok_iconst dL_law_1036 (by decide), List.forall_mem_cons.mpr ⟨ok_iadd dL_law_1037, List.forall_mem_cons.mpr ⟨ok_iald dL_law_1038, List.forall_mem_cons.mpr ⟨ok_callV dL_law_1039 rfl rfl w1331 w1328 w1329 w13 w1330 (by decide +kernel) (by decide), List.forall_mem_cons.mpr ⟨ok_ic_eq dL_law_1042 (by decide), List.forall_mem_cons.mpr ⟨ok_iconst dL_law_1045 (by decide), List.forall_mem_cons.mpr ⟨ok_iret (bz := true) dL_law_1046 rfl, List.forall_mem_cons.mpr ⟨ok_aload_n dL_law_1047 rfl, List.forall_mem_cons.mpr ⟨ok_aload_n dL_law_1048 rfl, List.forall_mem_cons.mpr ⟨ok_iload_n dL_law_1049 rfl, List.forall_mem_cons.mpr ⟨ok_iconst dL_law_1050 (by decide), List.forall_mem_cons.mpr ⟨ok_iadd dL_law_1051, List.forall_mem_cons.mpr ⟨ok_iald dL_law_1052, List.forall_mem_cons.mpr ⟨ok_callV dL_law_1053 rfl rfl w874 w871 w872 w1 w873 (by decide +kernel) (by decide), List.forall_mem_cons.mpr ⟨ok_aload_n dL_law_1056 rfl, List.forall_mem_cons.mpr ⟨ok_aload_n dL_law_1057 rfl, List.forall_mem_cons.mpr ⟨ok_iload_n dL_law_1058 rfl, List.forall_mem_cons.mpr ⟨ok_iconst dL_law_1059 (by decide), List.forall_mem_cons.mpr ⟨ok_iadd dL_law_1060, List.forall_mem_cons.mpr ⟨ok_iald dL_law_1061, List.forall_mem_cons.mpr ⟨ok_callV dL_law_1062 rfl rfl w1335 w1332 w1333 w13 w1334 (by decide +kernel) (by decide), List.forall_mem_cons.mpr ⟨ok_ic_eq dL_law_1065 (by decide), List.forall_mem_cons.mpr ⟨ok_iconst dL_law_1068 (by decide), List.forall_mem_cons.mpr ⟨ok_iret (bz := true) dL_law_1069 rfl, fun _ h => absurd h List.not_mem_nil⟩⟩⟩⟩⟩⟩⟩⟩⟩⟩⟩⟩⟩⟩⟩⟩⟩⟩⟩⟩⟩⟩⟩⟩
def kL_law_29 : List (Nat × zT) := [(1070, a_aload 1 1071), (1071, a_callV 11 120 1 1074 0 0), (1074, a_aload 2 1075), (1075, a_callV 12 203 1 1078 0 0), (1078, a_ic_eq 1224 1081), (1081, a_i 0 1082), (1082, a_iret true), (1083, a_aload 1 1084), (1084, a_aload 0 1085), (1085, a_iload 3 1086), (1086, a_i 1 1087), (1087, a_ii (fun x y => x + y) 1088), (1088, a_iald 1089), (1089, a_callV 11 121 2 1092 0 0), (1092, a_aload 2 1093), (1093, a_aload 0 1094), (1094, a_iload 3 1095), (1095, a_i 1 1096), (1096, a_ii (fun x y => x + y) 1097), (1097, a_iald 1098), (1098, a_callV 12 205 2 1101 0 0), (1101, a_ic_eq 1224 1104), (1104, a_i 0 1105), (1105, a_iret true)]
theorem oL_law_29 : ∀ q ∈ kL_law_29, zSnd zty false RL cL_law 4 (some .boolean) false q := List.forall_mem_cons.mpr ⟨ok_aload_n dL_law_1070 rfl, List.forall_mem_cons.mpr ⟨ok_callV dL_law_1071 rfl rfl w882 w879 w880 w1 w881 (by decide +kernel) (by decide), List.forall_mem_cons.mpr ⟨ok_aload_n dL_law_1074 rfl, List.forall_mem_cons.mpr ⟨ok_callV dL_law_1075 rfl rfl w1339 w1336 w1337 w13 w1338 (by decide +kernel) (by decide), List.forall_mem_cons.mpr ⟨ok_ic_eq dL_law_1078 (by decide), List.forall_mem_cons.mpr ⟨ok_iconst dL_law_1081 (by decide), List.forall_mem_cons.mpr ⟨ok_iret (bz := true) dL_law_1082 rfl, List.forall_mem_cons.mpr ⟨ok_aload_n dL_law_1083 rfl, List.forall_mem_cons.mpr ⟨ok_aload_n dL_law_1084 rfl, List.forall_mem_cons.mpr ⟨ok_iload_n dL_law_1085 rfl, List.forall_mem_cons.mpr ⟨ok_iconst dL_law_1086 (by decide), List.forall_mem_cons.mpr ⟨ok_iadd dL_law_1087, List.forall_mem_cons.mpr ⟨ok_iald dL_law_1088, List.forall_mem_cons.mpr ⟨ok_callV dL_law_1089 rfl rfl w886 w883 w884 w1 w885 (by decide +kernel) (by decide), List.forall_mem_cons.mpr ⟨ok_aload_n dL_law_1092 rfl, List.forall_mem_cons.mpr ⟨ok_aload_n dL_law_1093 rfl, List.forall_mem_cons.mpr ⟨ok_iload_n dL_law_1094 rfl, List.forall_mem_cons.mpr ⟨ok_iconst dL_law_1095 (by decide), List.forall_mem_cons.mpr ⟨ok_iadd dL_law_1096, List.forall_mem_cons.mpr ⟨ok_iald dL_law_1097, List.forall_mem_cons.mpr ⟨ok_callV dL_law_1098 rfl rfl w1343 w1340 w1341 w13 w1342 (by decide +kernel) (by decide), List.forall_mem_cons.mpr ⟨ok_ic_eq dL_law_1101 (by decide), List.forall_mem_cons.mpr ⟨ok_iconst dL_law_1104 (by decide), List.forall_mem_cons.mpr ⟨ok_iret (bz := true) dL_law_1105 rfl, fun _ h => absurd h List.not_mem_nil⟩⟩⟩⟩⟩⟩⟩⟩⟩⟩⟩⟩⟩⟩⟩⟩⟩⟩⟩⟩⟩⟩⟩⟩
def kL_law_30 : List (Nat × zT) := [(1106, a_aload 1 1107), (1107, a_aload 0 1108), (1108, a_iload 3 1109), (1109, a_i 1 1110), (1110, a_ii (fun x y => x + y) 1111), (1111, a_iald 1112), (1112, a_aload 0 1113), (1113, a_iload 3 1114), (1114, a_i 2 1115), (1115, a_ii (fun x y => x + y) 1116), (1116, a_iald 1117), (1117, a_callV 11 122 3 1120 0 0), (1120, a_aload 2 1121), (1121, a_aload 0 1122), (1122, a_iload 3 1123), (1123, a_i 1 1124), (1124, a_ii (fun x y => x + y) 1125), (1125, a_iald 1126), (1126, a_aload 0 1127), (1127, a_iload 3 1128), (1128, a_i 2 1129), (1129, a_ii (fun x y => x + y) 1130), (1130, a_iald 1131), (1131, a_callV 12 206 3 1134 0 0)]
theorem oL_law_30 : ∀ q ∈ kL_law_30, zSnd zty false RL cL_law 4 (some .boolean) false q := List.forall_mem_cons.mpr ⟨ok_aload_n dL_law_1106 rfl, List.forall_mem_cons.mpr ⟨ok_aload_n dL_law_1107 rfl, List.forall_mem_cons.mpr ⟨ok_iload_n dL_law_1108 rfl, List.forall_mem_cons.mpr ⟨ok_iconst dL_law_1109 (by decide), List.forall_mem_cons.mpr ⟨ok_iadd dL_law_1110, List.forall_mem_cons.mpr ⟨ok_iald dL_law_1111, List.forall_mem_cons.mpr ⟨ok_aload_n dL_law_1112 rfl, List.forall_mem_cons.mpr ⟨ok_iload_n dL_law_1113 rfl, List.forall_mem_cons.mpr ⟨ok_iconst dL_law_1114 (by decide), List.forall_mem_cons.mpr ⟨ok_iadd dL_law_1115, List.forall_mem_cons.mpr ⟨ok_iald dL_law_1116, List.forall_mem_cons.mpr ⟨ok_callV dL_law_1117 rfl rfl w909 w906 w907 w1 w908 (by decide +kernel) (by decide), List.forall_mem_cons.mpr ⟨ok_aload_n dL_law_1120 rfl, List.forall_mem_cons.mpr ⟨ok_aload_n dL_law_1121 rfl, List.forall_mem_cons.mpr ⟨ok_iload_n dL_law_1122 rfl, List.forall_mem_cons.mpr ⟨ok_iconst dL_law_1123 (by decide), List.forall_mem_cons.mpr ⟨ok_iadd dL_law_1124, List.forall_mem_cons.mpr ⟨ok_iald dL_law_1125, List.forall_mem_cons.mpr ⟨ok_aload_n dL_law_1126 rfl, List.forall_mem_cons.mpr ⟨ok_iload_n dL_law_1127 rfl, List.forall_mem_cons.mpr ⟨ok_iconst dL_law_1128 (by decide), List.forall_mem_cons.mpr ⟨ok_iadd dL_law_1129, List.forall_mem_cons.mpr ⟨ok_iald dL_law_1130, List.forall_mem_cons.mpr ⟨ok_callV dL_law_1131 rfl rfl w1351 w1348 w1349 w13 w1350 (by decide +kernel) (by decide), fun _ h => absurd h List.not_mem_nil⟩⟩⟩⟩⟩⟩⟩⟩⟩⟩⟩⟩⟩⟩⟩⟩⟩⟩⟩⟩⟩⟩⟩⟩
def kL_law_31 : List (Nat × zT) := [(1134, a_ic_eq 1224 1137), (1137, a_i 0 1138), (1138, a_iret true), (1139, a_aload 1 1140), (1140, a_aload 0 1141), (1141, a_iload 3 1142), (1142, a_i 1 1143), (1143, a_ii (fun x y => x + y) 1144), (1144, a_iald 1145), (1145, a_callV 11 123 2 1148 0 0), (1148, a_aload 2 1149), (1149, a_aload 0 1150), (1150, a_iload 3 1151), (1151, a_i 1 1152), (1152, a_ii (fun x y => x + y) 1153), (1153, a_iald 1154), (1154, a_callV 12 209 2 1157 0 0), (1157, a_ic_eq 1224 1160), (1160, a_i 0 1161), (1161, a_iret true), (1162, a_aload 1 1163), (1163, a_callV 11 124 1 1166 0 0), (1166, a_aload 2 1167), (1167, a_callV 12 210 1 1170 0 0)]
theorem oL_law_31 : ∀ q ∈ kL_law_31, zSnd zty false RL cL_law 4 (some .boolean) false q := List.forall_mem_cons.mpr ⟨ok_ic_eq dL_law_1134 (by decide), List.forall_mem_cons.mpr ⟨ok_iconst dL_law_1137 (by decide), List.forall_mem_cons.mpr ⟨ok_iret (bz := true) dL_law_1138 rfl, List.forall_mem_cons.mpr ⟨ok_aload_n dL_law_1139 rfl, List.forall_mem_cons.mpr ⟨ok_aload_n dL_law_1140 rfl, List.forall_mem_cons.mpr ⟨ok_iload_n dL_law_1141 rfl, List.forall_mem_cons.mpr ⟨ok_iconst dL_law_1142 (by decide), List.forall_mem_cons.mpr ⟨ok_iadd dL_law_1143, List.forall_mem_cons.mpr ⟨ok_iald dL_law_1144, List.forall_mem_cons.mpr ⟨ok_callV dL_law_1145 rfl rfl w913 w910 w911 w1 w912 (by decide +kernel) (by decide), List.forall_mem_cons.mpr ⟨ok_aload_n dL_law_1148 rfl, List.forall_mem_cons.mpr ⟨ok_aload_n dL_law_1149 rfl, List.forall_mem_cons.mpr ⟨ok_iload_n dL_law_1150 rfl, List.forall_mem_cons.mpr ⟨ok_iconst dL_law_1151 (by decide), List.forall_mem_cons.mpr ⟨ok_iadd dL_law_1152, List.forall_mem_cons.mpr ⟨ok_iald dL_law_1153, List.forall_mem_cons.mpr ⟨ok_callV dL_law_1154 rfl rfl w1355 w1352 w1353 w13 w1354 (by decide +kernel) (by decide), List.forall_mem_cons.mpr ⟨ok_ic_eq dL_law_1157 (by decide), List.forall_mem_cons.mpr ⟨ok_iconst dL_law_1160 (by decide), List.forall_mem_cons.mpr ⟨ok_iret (bz := true) dL_law_1161 rfl, List.forall_mem_cons.mpr ⟨ok_aload_n dL_law_1162 rfl, List.forall_mem_cons.mpr ⟨ok_callV dL_law_1163 rfl rfl w925 w922 w923 w1 w924 (by decide +kernel) (by decide), List.forall_mem_cons.mpr ⟨ok_aload_n dL_law_1166 rfl, List.forall_mem_cons.mpr ⟨ok_callV dL_law_1167 rfl rfl w1367 w1364 w1365 w13 w1366 (by decide +kernel) (by decide), fun _ h => absurd h List.not_mem_nil⟩⟩⟩⟩⟩⟩⟩⟩⟩⟩⟩⟩⟩⟩⟩⟩⟩⟩⟩⟩⟩⟩⟩⟩
def kL_law_32 : List (Nat × zT) := [(1170, a_ic_eq 1224 1173), (1173, a_i 0 1174), (1174, a_iret true), (1175, a_aload 1 1176), (1176, a_callV 11 125 1 1179 0 0), (1179, a_aload 2 1180), (1180, a_callV 12 212 1 1183 0 0), (1183, a_ic_eq 1224 1186), (1186, a_i 0 1187), (1187, a_iret true), (1188, a_aload 1 1189), (1189, a_callV 11 126 1 1192 0 0), (1192, a_aload 2 1193), (1193, a_callV 12 213 1 1196 0 0), (1196, a_ic_eq 1224 1199), (1199, a_i 0 1200), (1200, a_iret true), (1201, a_aload 1 1202), (1202, a_aload 0 1203), (1203, a_iload 3 1204), (1204, a_i 1 1205), (1205, a_ii (fun x y => x + y) 1206), (1206, a_iald 1207), (1207, a_callV 11 127 2 1210 0 0)]
theorem oL_law_32 : ∀ q ∈ kL_law_32, zSnd zty false RL cL_law 4 (some .boolean) false q := List.forall_mem_cons.mpr ⟨ok_ic_eq dL_law_1170 (by decide), List.forall_mem_cons.mpr ⟨ok_iconst dL_law_1173 (by decide), List.forall_mem_cons.mpr ⟨ok_iret (bz := true) dL_law_1174 rfl, List.forall_mem_cons.mpr ⟨ok_aload_n dL_law_1175 rfl, List.forall_mem_cons.mpr ⟨ok_callV dL_law_1176 rfl rfl w941 w938 w939 w1 w940 (by decide +kernel) (by decide), List.forall_mem_cons.mpr ⟨ok_aload_n dL_law_1179 rfl, List.forall_mem_cons.mpr ⟨ok_callV dL_law_1180 rfl rfl w1371 w1368 w1369 w13 w1370 (by decide +kernel) (by decide), List.forall_mem_cons.mpr ⟨ok_ic_eq dL_law_1183 (by decide), List.forall_mem_cons.mpr ⟨ok_iconst dL_law_1186 (by decide), List.forall_mem_cons.mpr ⟨ok_iret (bz := true) dL_law_1187 rfl, List.forall_mem_cons.mpr ⟨ok_aload_n dL_law_1188 rfl, List.forall_mem_cons.mpr ⟨ok_callV dL_law_1189 rfl rfl w945 w942 w943 w1 w944 (by decide +kernel) (by decide), List.forall_mem_cons.mpr ⟨ok_aload_n dL_law_1192 rfl, List.forall_mem_cons.mpr ⟨ok_callV dL_law_1193 rfl rfl w1379 w1376 w1377 w13 w1378 (by decide +kernel) (by decide), List.forall_mem_cons.mpr ⟨ok_ic_eq dL_law_1196 (by decide), List.forall_mem_cons.mpr ⟨ok_iconst dL_law_1199 (by decide), List.forall_mem_cons.mpr ⟨ok_iret (bz := true) dL_law_1200 rfl, List.forall_mem_cons.mpr ⟨ok_aload_n dL_law_1201 rfl, List.forall_mem_cons.mpr ⟨ok_aload_n dL_law_1202 rfl, List.forall_mem_cons.mpr ⟨ok_iload_n dL_law_1203 rfl, List.forall_mem_cons.mpr ⟨ok_iconst dL_law_1204 (by decide), List.forall_mem_cons.mpr ⟨ok_iadd dL_law_1205, List.forall_mem_cons.mpr ⟨ok_iald dL_law_1206, List.forall_mem_cons.mpr ⟨ok_callV dL_law_1207 rfl rfl w949 w946 w947 w1 w948 (by decide +kernel) (by decide), fun _ h => absurd h List.not_mem_nil⟩⟩⟩⟩⟩⟩⟩⟩⟩⟩⟩⟩⟩⟩⟩⟩⟩⟩⟩⟩⟩⟩⟩⟩
def kL_law_33 : List (Nat × zT) := [(1210, a_aload 2 1211), (1211, a_aload 0 1212), (1212, a_iload 3 1213), (1213, a_i 1 1214), (1214, a_ii (fun x y => x + y) 1215), (1215, a_iald 1216), (1216, a_callV 12 214 2 1219 0 0), (1219, a_ic_eq 1224 1222), (1222, a_i 0 1223), (1223, a_iret true), (1224, a_iinc 3 5 1227), (1227, a_goto 18), (1230, a_i 1 1231), (1231, a_iret true)]
theorem oL_law_33 : ∀ q ∈ kL_law_33, zSnd zty false RL cL_law 4 (some .boolean) false q := List.forall_mem_cons.mpr ⟨ok_aload_n dL_law_1210 rfl, List.forall_mem_cons.mpr ⟨ok_aload_n dL_law_1211 rfl, List.forall_mem_cons.mpr ⟨ok_iload_n dL_law_1212 rfl, List.forall_mem_cons.mpr ⟨ok_iconst dL_law_1213 (by decide), List.forall_mem_cons.mpr ⟨ok_iadd dL_law_1214, List.forall_mem_cons.mpr ⟨ok_iald dL_law_1215, List.forall_mem_cons.mpr ⟨ok_callV dL_law_1216 rfl rfl w1383 w1380 w1381 w13 w1382 (by decide +kernel) (by decide), List.forall_mem_cons.mpr ⟨ok_ic_eq dL_law_1219 (by decide), List.forall_mem_cons.mpr ⟨ok_iconst dL_law_1222 (by decide), List.forall_mem_cons.mpr ⟨ok_iret (bz := true) dL_law_1223 rfl, List.forall_mem_cons.mpr ⟨ok_iinc dL_law_1224 (by decide) (by decide), List.forall_mem_cons.mpr ⟨ok_goto dL_law_1227 (by decide), List.forall_mem_cons.mpr ⟨ok_iconst dL_law_1230 (by decide), List.forall_mem_cons.mpr ⟨ok_iret (bz := true) dL_law_1231 rfl, fun _ h => absurd h List.not_mem_nil⟩⟩⟩⟩⟩⟩⟩⟩⟩⟩⟩⟩⟩⟩
def kL_law : List (Nat × zT) := kL_law_0 ++ (kL_law_1 ++ (kL_law_2 ++ (kL_law_3 ++ (kL_law_4 ++ (kL_law_5 ++ (kL_law_6 ++ (kL_law_7 ++ (kL_law_8 ++ (kL_law_9 ++ (kL_law_10 ++ (kL_law_11 ++ (kL_law_12 ++ (kL_law_13 ++ (kL_law_14 ++ (kL_law_15 ++ (kL_law_16 ++ (kL_law_17 ++ (kL_law_18 ++ (kL_law_19 ++ (kL_law_20 ++ (kL_law_21 ++ (kL_law_22 ++ (kL_law_23 ++ (kL_law_24 ++ (kL_law_25 ++ (kL_law_26 ++ (kL_law_27 ++ (kL_law_28 ++ (kL_law_29 ++ (kL_law_30 ++ (kL_law_31 ++ (kL_law_32 ++ (kL_law_33)))))))))))))))))))))))))))))))))
theorem qL_law_0 : ∀ q ∈ kL_law_0, q ∈ kL_law := fun _ h => (List.mem_append_left _ h)
theorem tL_law_18 : (18, a_iload 3 19) ∈ kL_law := qL_law_0 _ (List.mem_of_getElem? (i := 0) rfl)
theorem tL_law_19 : (19, a_aload 0 20) ∈ kL_law := qL_law_0 _ (List.mem_of_getElem? (i := 1) rfl)
theorem tL_law_20 : (20, a_alen 21) ∈ kL_law := qL_law_0 _ (List.mem_of_getElem? (i := 2) rfl)
theorem tL_law_21 : (21, a_i 5 22) ∈ kL_law := qL_law_0 _ (List.mem_of_getElem? (i := 3) rfl)
theorem tL_law_22 : (22, a_ii (fun x y => x - y) 23) ∈ kL_law := qL_law_0 _ (List.mem_of_getElem? (i := 4) rfl)
theorem tL_law_23 : (23, a_ic_gt 1230 26) ∈ kL_law := qL_law_0 _ (List.mem_of_getElem? (i := 5) rfl)
theorem tL_law_26 : (26, a_aload 0 27) ∈ kL_law := qL_law_0 _ (List.mem_of_getElem? (i := 6) rfl)
theorem tL_law_27 : (27, a_iload 3 28) ∈ kL_law := qL_law_0 _ (List.mem_of_getElem? (i := 7) rfl)
theorem tL_law_28 : (28, a_iald 29) ∈ kL_law := qL_law_0 _ (List.mem_of_getElem? (i := 8) rfl)
theorem tL_law_29 : (29, a_i 63 31) ∈ kL_law := qL_law_0 _ (List.mem_of_getElem? (i := 9) rfl)
theorem tL_law_31 : (31, a_ii (fun x y => x &&& y) 32) ∈ kL_law := qL_law_0 _ (List.mem_of_getElem? (i := 10) rfl)
theorem tL_law_32 : (32, a_sw [(0, 200), (1, 273), (2, 296), (3, 319), (4, 352), (5, 375), (6, 418), (7, 441), (8, 474), (9, 497), (10, 540), (11, 573), (12, 596), (13, 609), (14, 632), (15, 645), (16, 688), (17, 721), (18, 754), (19, 797), (20, 840), (21, 853), (22, 876), (23, 909), (24, 932), (25, 955), (26, 968), (27, 991), (28, 1024), (29, 1047), (30, 1070), (31, 1083), (32, 1106), (33, 1139), (34, 1162), (35, 1175), (36, 1188), (37, 1201)] 1224) ∈ kL_law := qL_law_0 _ (List.mem_of_getElem? (i := 11) rfl)
theorem tL_law_200 : (200, a_aload 1 201) ∈ kL_law := qL_law_0 _ (List.mem_of_getElem? (i := 12) rfl)
theorem tL_law_201 : (201, a_aload 0 202) ∈ kL_law := qL_law_0 _ (List.mem_of_getElem? (i := 13) rfl)
theorem tL_law_202 : (202, a_iload 3 203) ∈ kL_law := qL_law_0 _ (List.mem_of_getElem? (i := 14) rfl)
theorem tL_law_203 : (203, a_i 1 204) ∈ kL_law := qL_law_0 _ (List.mem_of_getElem? (i := 15) rfl)
theorem tL_law_204 : (204, a_ii (fun x y => x + y) 205) ∈ kL_law := qL_law_0 _ (List.mem_of_getElem? (i := 16) rfl)
theorem tL_law_205 : (205, a_iald 206) ∈ kL_law := qL_law_0 _ (List.mem_of_getElem? (i := 17) rfl)
theorem tL_law_206 : (206, a_aload 0 207) ∈ kL_law := qL_law_0 _ (List.mem_of_getElem? (i := 18) rfl)
theorem tL_law_207 : (207, a_iload 3 208) ∈ kL_law := qL_law_0 _ (List.mem_of_getElem? (i := 19) rfl)
theorem tL_law_208 : (208, a_i 2 209) ∈ kL_law := qL_law_0 _ (List.mem_of_getElem? (i := 20) rfl)
theorem tL_law_209 : (209, a_ii (fun x y => x + y) 210) ∈ kL_law := qL_law_0 _ (List.mem_of_getElem? (i := 21) rfl)
theorem tL_law_210 : (210, a_iald 211) ∈ kL_law := qL_law_0 _ (List.mem_of_getElem? (i := 22) rfl)
theorem tL_law_211 : (211, a_aload 0 212) ∈ kL_law := qL_law_0 _ (List.mem_of_getElem? (i := 23) rfl)
theorem qL_law_1 : ∀ q ∈ kL_law_1, q ∈ kL_law := fun _ h => (List.mem_append_right _ (List.mem_append_left _ h))
theorem tL_law_212 : (212, a_iload 3 213) ∈ kL_law := qL_law_1 _ (List.mem_of_getElem? (i := 0) rfl)
theorem tL_law_213 : (213, a_i 3 214) ∈ kL_law := qL_law_1 _ (List.mem_of_getElem? (i := 1) rfl)
theorem tL_law_214 : (214, a_ii (fun x y => x + y) 215) ∈ kL_law := qL_law_1 _ (List.mem_of_getElem? (i := 2) rfl)
theorem tL_law_215 : (215, a_iald 216) ∈ kL_law := qL_law_1 _ (List.mem_of_getElem? (i := 3) rfl)
theorem tL_law_216 : (216, a_i2l 217) ∈ kL_law := qL_law_1 _ (List.mem_of_getElem? (i := 4) rfl)
theorem tL_law_217 : (217, a_i 32 219) ∈ kL_law := qL_law_1 _ (List.mem_of_getElem? (i := 5) rfl)
theorem tL_law_219 : (219, a_li (fun x y => x <<< (y.toInt64 &&& 63)) 220) ∈ kL_law := qL_law_1 _ (List.mem_of_getElem? (i := 6) rfl)
theorem tL_law_220 : (220, a_aload 0 221) ∈ kL_law := qL_law_1 _ (List.mem_of_getElem? (i := 7) rfl)
theorem tL_law_221 : (221, a_iload 3 222) ∈ kL_law := qL_law_1 _ (List.mem_of_getElem? (i := 8) rfl)
theorem tL_law_222 : (222, a_i 4 223) ∈ kL_law := qL_law_1 _ (List.mem_of_getElem? (i := 9) rfl)
theorem tL_law_223 : (223, a_ii (fun x y => x + y) 224) ∈ kL_law := qL_law_1 _ (List.mem_of_getElem? (i := 10) rfl)
theorem tL_law_224 : (224, a_iald 225) ∈ kL_law := qL_law_1 _ (List.mem_of_getElem? (i := 11) rfl)
theorem tL_law_225 : (225, a_i2l 226) ∈ kL_law := qL_law_1 _ (List.mem_of_getElem? (i := 12) rfl)
theorem tL_law_226 : (226, a_l 4294967295 229) ∈ kL_law := qL_law_1 _ (List.mem_of_getElem? (i := 13) rfl)
theorem tL_law_229 : (229, a_ll (fun x y => x &&& y) 230) ∈ kL_law := qL_law_1 _ (List.mem_of_getElem? (i := 14) rfl)
theorem tL_law_230 : (230, a_ll (fun x y => x ||| y) 231) ∈ kL_law := qL_law_1 _ (List.mem_of_getElem? (i := 15) rfl)
theorem tL_law_231 : (231, a_callV 11 90 4 234 0 0) ∈ kL_law := qL_law_1 _ (List.mem_of_getElem? (i := 16) rfl)
theorem tL_law_234 : (234, a_aload 2 235) ∈ kL_law := qL_law_1 _ (List.mem_of_getElem? (i := 17) rfl)
theorem tL_law_235 : (235, a_aload 0 236) ∈ kL_law := qL_law_1 _ (List.mem_of_getElem? (i := 18) rfl)
theorem tL_law_236 : (236, a_iload 3 237) ∈ kL_law := qL_law_1 _ (List.mem_of_getElem? (i := 19) rfl)
theorem tL_law_237 : (237, a_i 1 238) ∈ kL_law := qL_law_1 _ (List.mem_of_getElem? (i := 20) rfl)
theorem tL_law_238 : (238, a_ii (fun x y => x + y) 239) ∈ kL_law := qL_law_1 _ (List.mem_of_getElem? (i := 21) rfl)
theorem tL_law_239 : (239, a_iald 240) ∈ kL_law := qL_law_1 _ (List.mem_of_getElem? (i := 22) rfl)
theorem tL_law_240 : (240, a_aload 0 241) ∈ kL_law := qL_law_1 _ (List.mem_of_getElem? (i := 23) rfl)
theorem qL_law_2 : ∀ q ∈ kL_law_2, q ∈ kL_law := fun _ h => (List.mem_append_right _ (List.mem_append_right _ (List.mem_append_left _ h)))
theorem tL_law_241 : (241, a_iload 3 242) ∈ kL_law := qL_law_2 _ (List.mem_of_getElem? (i := 0) rfl)
theorem tL_law_242 : (242, a_i 2 243) ∈ kL_law := qL_law_2 _ (List.mem_of_getElem? (i := 1) rfl)
theorem tL_law_243 : (243, a_ii (fun x y => x + y) 244) ∈ kL_law := qL_law_2 _ (List.mem_of_getElem? (i := 2) rfl)
theorem tL_law_244 : (244, a_iald 245) ∈ kL_law := qL_law_2 _ (List.mem_of_getElem? (i := 3) rfl)
theorem tL_law_245 : (245, a_aload 0 246) ∈ kL_law := qL_law_2 _ (List.mem_of_getElem? (i := 4) rfl)
theorem tL_law_246 : (246, a_iload 3 247) ∈ kL_law := qL_law_2 _ (List.mem_of_getElem? (i := 5) rfl)
theorem tL_law_247 : (247, a_i 3 248) ∈ kL_law := qL_law_2 _ (List.mem_of_getElem? (i := 6) rfl)
theorem tL_law_248 : (248, a_ii (fun x y => x + y) 249) ∈ kL_law := qL_law_2 _ (List.mem_of_getElem? (i := 7) rfl)
theorem tL_law_249 : (249, a_iald 250) ∈ kL_law := qL_law_2 _ (List.mem_of_getElem? (i := 8) rfl)
theorem tL_law_250 : (250, a_i2l 251) ∈ kL_law := qL_law_2 _ (List.mem_of_getElem? (i := 9) rfl)
theorem tL_law_251 : (251, a_i 32 253) ∈ kL_law := qL_law_2 _ (List.mem_of_getElem? (i := 10) rfl)
theorem tL_law_253 : (253, a_li (fun x y => x <<< (y.toInt64 &&& 63)) 254) ∈ kL_law := qL_law_2 _ (List.mem_of_getElem? (i := 11) rfl)
theorem tL_law_254 : (254, a_aload 0 255) ∈ kL_law := qL_law_2 _ (List.mem_of_getElem? (i := 12) rfl)
theorem tL_law_255 : (255, a_iload 3 256) ∈ kL_law := qL_law_2 _ (List.mem_of_getElem? (i := 13) rfl)
theorem tL_law_256 : (256, a_i 4 257) ∈ kL_law := qL_law_2 _ (List.mem_of_getElem? (i := 14) rfl)
theorem tL_law_257 : (257, a_ii (fun x y => x + y) 258) ∈ kL_law := qL_law_2 _ (List.mem_of_getElem? (i := 15) rfl)
theorem tL_law_258 : (258, a_iald 259) ∈ kL_law := qL_law_2 _ (List.mem_of_getElem? (i := 16) rfl)
theorem tL_law_259 : (259, a_i2l 260) ∈ kL_law := qL_law_2 _ (List.mem_of_getElem? (i := 17) rfl)
theorem tL_law_260 : (260, a_l 4294967295 263) ∈ kL_law := qL_law_2 _ (List.mem_of_getElem? (i := 18) rfl)
theorem tL_law_263 : (263, a_ll (fun x y => x &&& y) 264) ∈ kL_law := qL_law_2 _ (List.mem_of_getElem? (i := 19) rfl)
theorem tL_law_264 : (264, a_ll (fun x y => x ||| y) 265) ∈ kL_law := qL_law_2 _ (List.mem_of_getElem? (i := 20) rfl)
theorem tL_law_265 : (265, a_callV 12 139 4 268 0 0) ∈ kL_law := qL_law_2 _ (List.mem_of_getElem? (i := 21) rfl)
theorem tL_law_268 : (268, a_ic_eq 1224 271) ∈ kL_law := qL_law_2 _ (List.mem_of_getElem? (i := 22) rfl)
theorem tL_law_271 : (271, a_i 0 272) ∈ kL_law := qL_law_2 _ (List.mem_of_getElem? (i := 23) rfl)
theorem qL_law_3 : ∀ q ∈ kL_law_3, q ∈ kL_law := fun _ h => (List.mem_append_right _ (List.mem_append_right _ (List.mem_append_right _ (List.mem_append_left _ h))))
theorem tL_law_272 : (272, a_iret true) ∈ kL_law := qL_law_3 _ (List.mem_of_getElem? (i := 0) rfl)
theorem tL_law_273 : (273, a_aload 1 274) ∈ kL_law := qL_law_3 _ (List.mem_of_getElem? (i := 1) rfl)
theorem tL_law_274 : (274, a_aload 0 275) ∈ kL_law := qL_law_3 _ (List.mem_of_getElem? (i := 2) rfl)
theorem tL_law_275 : (275, a_iload 3 276) ∈ kL_law := qL_law_3 _ (List.mem_of_getElem? (i := 3) rfl)
theorem tL_law_276 : (276, a_i 1 277) ∈ kL_law := qL_law_3 _ (List.mem_of_getElem? (i := 4) rfl)
theorem tL_law_277 : (277, a_ii (fun x y => x + y) 278) ∈ kL_law := qL_law_3 _ (List.mem_of_getElem? (i := 5) rfl)
theorem tL_law_278 : (278, a_iald 279) ∈ kL_law := qL_law_3 _ (List.mem_of_getElem? (i := 6) rfl)
theorem tL_law_279 : (279, a_callV 11 91 2 282 0 0) ∈ kL_law := qL_law_3 _ (List.mem_of_getElem? (i := 7) rfl)
theorem tL_law_282 : (282, a_aload 2 283) ∈ kL_law := qL_law_3 _ (List.mem_of_getElem? (i := 8) rfl)
theorem tL_law_283 : (283, a_aload 0 284) ∈ kL_law := qL_law_3 _ (List.mem_of_getElem? (i := 9) rfl)
theorem tL_law_284 : (284, a_iload 3 285) ∈ kL_law := qL_law_3 _ (List.mem_of_getElem? (i := 10) rfl)
theorem tL_law_285 : (285, a_i 1 286) ∈ kL_law := qL_law_3 _ (List.mem_of_getElem? (i := 11) rfl)
theorem tL_law_286 : (286, a_ii (fun x y => x + y) 287) ∈ kL_law := qL_law_3 _ (List.mem_of_getElem? (i := 12) rfl)
theorem tL_law_287 : (287, a_iald 288) ∈ kL_law := qL_law_3 _ (List.mem_of_getElem? (i := 13) rfl)
theorem tL_law_288 : (288, a_callV 12 140 2 291 0 0) ∈ kL_law := qL_law_3 _ (List.mem_of_getElem? (i := 14) rfl)
theorem tL_law_291 : (291, a_ic_eq 1224 294) ∈ kL_law := qL_law_3 _ (List.mem_of_getElem? (i := 15) rfl)
theorem tL_law_294 : (294, a_i 0 295) ∈ kL_law := qL_law_3 _ (List.mem_of_getElem? (i := 16) rfl)
theorem tL_law_295 : (295, a_iret true) ∈ kL_law := qL_law_3 _ (List.mem_of_getElem? (i := 17) rfl)
theorem tL_law_296 : (296, a_aload 1 297) ∈ kL_law := qL_law_3 _ (List.mem_of_getElem? (i := 18) rfl)
theorem tL_law_297 : (297, a_aload 0 298) ∈ kL_law := qL_law_3 _ (List.mem_of_getElem? (i := 19) rfl)
theorem tL_law_298 : (298, a_iload 3 299) ∈ kL_law := qL_law_3 _ (List.mem_of_getElem? (i := 20) rfl)
theorem tL_law_299 : (299, a_i 1 300) ∈ kL_law := qL_law_3 _ (List.mem_of_getElem? (i := 21) rfl)
theorem tL_law_300 : (300, a_ii (fun x y => x + y) 301) ∈ kL_law := qL_law_3 _ (List.mem_of_getElem? (i := 22) rfl)
theorem tL_law_301 : (301, a_iald 302) ∈ kL_law := qL_law_3 _ (List.mem_of_getElem? (i := 23) rfl)
theorem qL_law_4 : ∀ q ∈ kL_law_4, q ∈ kL_law := fun _ h => (List.mem_append_right _ (List.mem_append_right _ (List.mem_append_right _ (List.mem_append_right _ (List.mem_append_left _ h)))))
theorem tL_law_302 : (302, a_callV 11 92 2 305 0 0) ∈ kL_law := qL_law_4 _ (List.mem_of_getElem? (i := 0) rfl)
theorem tL_law_305 : (305, a_aload 2 306) ∈ kL_law := qL_law_4 _ (List.mem_of_getElem? (i := 1) rfl)
theorem tL_law_306 : (306, a_aload 0 307) ∈ kL_law := qL_law_4 _ (List.mem_of_getElem? (i := 2) rfl)
theorem tL_law_307 : (307, a_iload 3 308) ∈ kL_law := qL_law_4 _ (List.mem_of_getElem? (i := 3) rfl)
theorem tL_law_308 : (308, a_i 1 309) ∈ kL_law := qL_law_4 _ (List.mem_of_getElem? (i := 4) rfl)
theorem tL_law_309 : (309, a_ii (fun x y => x + y) 310) ∈ kL_law := qL_law_4 _ (List.mem_of_getElem? (i := 5) rfl)
theorem tL_law_310 : (310, a_iald 311) ∈ kL_law := qL_law_4 _ (List.mem_of_getElem? (i := 6) rfl)
theorem tL_law_311 : (311, a_callV 12 147 2 314 0 0) ∈ kL_law := qL_law_4 _ (List.mem_of_getElem? (i := 7) rfl)
theorem tL_law_314 : (314, a_ic_eq 1224 317) ∈ kL_law := qL_law_4 _ (List.mem_of_getElem? (i := 8) rfl)
theorem tL_law_317 : (317, a_i 0 318) ∈ kL_law := qL_law_4 _ (List.mem_of_getElem? (i := 9) rfl)
theorem tL_law_318 : (318, a_iret true) ∈ kL_law := qL_law_4 _ (List.mem_of_getElem? (i := 10) rfl)
theorem tL_law_319 : (319, a_aload 1 320) ∈ kL_law := qL_law_4 _ (List.mem_of_getElem? (i := 11) rfl)
theorem tL_law_320 : (320, a_aload 0 321) ∈ kL_law := qL_law_4 _ (List.mem_of_getElem? (i := 12) rfl)
theorem tL_law_321 : (321, a_iload 3 322) ∈ kL_law := qL_law_4 _ (List.mem_of_getElem? (i := 13) rfl)
theorem tL_law_322 : (322, a_i 1 323) ∈ kL_law := qL_law_4 _ (List.mem_of_getElem? (i := 14) rfl)
theorem tL_law_323 : (323, a_ii (fun x y => x + y) 324) ∈ kL_law := qL_law_4 _ (List.mem_of_getElem? (i := 15) rfl)
theorem tL_law_324 : (324, a_iald 325) ∈ kL_law := qL_law_4 _ (List.mem_of_getElem? (i := 16) rfl)
theorem tL_law_325 : (325, a_aload 0 326) ∈ kL_law := qL_law_4 _ (List.mem_of_getElem? (i := 17) rfl)
theorem tL_law_326 : (326, a_iload 3 327) ∈ kL_law := qL_law_4 _ (List.mem_of_getElem? (i := 18) rfl)
theorem tL_law_327 : (327, a_i 2 328) ∈ kL_law := qL_law_4 _ (List.mem_of_getElem? (i := 19) rfl)
theorem tL_law_328 : (328, a_ii (fun x y => x + y) 329) ∈ kL_law := qL_law_4 _ (List.mem_of_getElem? (i := 20) rfl)
theorem tL_law_329 : (329, a_iald 330) ∈ kL_law := qL_law_4 _ (List.mem_of_getElem? (i := 21) rfl)
theorem tL_law_330 : (330, a_callV 11 93 3 333 0 0) ∈ kL_law := qL_law_4 _ (List.mem_of_getElem? (i := 22) rfl)
theorem tL_law_333 : (333, a_aload 2 334) ∈ kL_law := qL_law_4 _ (List.mem_of_getElem? (i := 23) rfl)
theorem qL_law_5 : ∀ q ∈ kL_law_5, q ∈ kL_law := fun _ h => (List.mem_append_right _ (List.mem_append_right _ (List.mem_append_right _ (List.mem_append_right _ (List.mem_append_right _ (List.mem_append_left _ h))))))
theorem tL_law_334 : (334, a_aload 0 335) ∈ kL_law := qL_law_5 _ (List.mem_of_getElem? (i := 0) rfl)
theorem tL_law_335 : (335, a_iload 3 336) ∈ kL_law := qL_law_5 _ (List.mem_of_getElem? (i := 1) rfl)
theorem tL_law_336 : (336, a_i 1 337) ∈ kL_law := qL_law_5 _ (List.mem_of_getElem? (i := 2) rfl)
theorem tL_law_337 : (337, a_ii (fun x y => x + y) 338) ∈ kL_law := qL_law_5 _ (List.mem_of_getElem? (i := 3) rfl)
theorem tL_law_338 : (338, a_iald 339) ∈ kL_law := qL_law_5 _ (List.mem_of_getElem? (i := 4) rfl)
theorem tL_law_339 : (339, a_aload 0 340) ∈ kL_law := qL_law_5 _ (List.mem_of_getElem? (i := 5) rfl)
theorem tL_law_340 : (340, a_iload 3 341) ∈ kL_law := qL_law_5 _ (List.mem_of_getElem? (i := 6) rfl)
theorem tL_law_341 : (341, a_i 2 342) ∈ kL_law := qL_law_5 _ (List.mem_of_getElem? (i := 7) rfl)
theorem tL_law_342 : (342, a_ii (fun x y => x + y) 343) ∈ kL_law := qL_law_5 _ (List.mem_of_getElem? (i := 8) rfl)
theorem tL_law_343 : (343, a_iald 344) ∈ kL_law := qL_law_5 _ (List.mem_of_getElem? (i := 9) rfl)
theorem tL_law_344 : (344, a_callV 12 148 3 347 0 0) ∈ kL_law := qL_law_5 _ (List.mem_of_getElem? (i := 10) rfl)
theorem tL_law_347 : (347, a_ic_eq 1224 350) ∈ kL_law := qL_law_5 _ (List.mem_of_getElem? (i := 11) rfl)
theorem tL_law_350 : (350, a_i 0 351) ∈ kL_law := qL_law_5 _ (List.mem_of_getElem? (i := 12) rfl)
theorem tL_law_351 : (351, a_iret true) ∈ kL_law := qL_law_5 _ (List.mem_of_getElem? (i := 13) rfl)
theorem tL_law_352 : (352, a_aload 1 353) ∈ kL_law := qL_law_5 _ (List.mem_of_getElem? (i := 14) rfl)
theorem tL_law_353 : (353, a_aload 0 354) ∈ kL_law := qL_law_5 _ (List.mem_of_getElem? (i := 15) rfl)
theorem tL_law_354 : (354, a_iload 3 355) ∈ kL_law := qL_law_5 _ (List.mem_of_getElem? (i := 16) rfl)
theorem tL_law_355 : (355, a_i 1 356) ∈ kL_law := qL_law_5 _ (List.mem_of_getElem? (i := 17) rfl)
theorem tL_law_356 : (356, a_ii (fun x y => x + y) 357) ∈ kL_law := qL_law_5 _ (List.mem_of_getElem? (i := 18) rfl)
theorem tL_law_357 : (357, a_iald 358) ∈ kL_law := qL_law_5 _ (List.mem_of_getElem? (i := 19) rfl)
theorem tL_law_358 : (358, a_callV 11 94 2 361 0 0) ∈ kL_law := qL_law_5 _ (List.mem_of_getElem? (i := 20) rfl)
theorem tL_law_361 : (361, a_aload 2 362) ∈ kL_law := qL_law_5 _ (List.mem_of_getElem? (i := 21) rfl)
theorem tL_law_362 : (362, a_aload 0 363) ∈ kL_law := qL_law_5 _ (List.mem_of_getElem? (i := 22) rfl)
theorem tL_law_363 : (363, a_iload 3 364) ∈ kL_law := qL_law_5 _ (List.mem_of_getElem? (i := 23) rfl)
theorem qL_law_6 : ∀ q ∈ kL_law_6, q ∈ kL_law := fun _ h => (List.mem_append_right _ (List.mem_append_right _ (List.mem_append_right _ (List.mem_append_right _ (List.mem_append_right _ (List.mem_append_right _ (List.mem_append_left _ h)))))))
theorem tL_law_364 : (364, a_i 1 365) ∈ kL_law := qL_law_6 _ (List.mem_of_getElem? (i := 0) rfl)
theorem tL_law_365 : (365, a_ii (fun x y => x + y) 366) ∈ kL_law := qL_law_6 _ (List.mem_of_getElem? (i := 1) rfl)
theorem tL_law_366 : (366, a_iald 367) ∈ kL_law := qL_law_6 _ (List.mem_of_getElem? (i := 2) rfl)
theorem tL_law_367 : (367, a_callV 12 152 2 370 0 0) ∈ kL_law := qL_law_6 _ (List.mem_of_getElem? (i := 3) rfl)
theorem tL_law_370 : (370, a_ic_eq 1224 373) ∈ kL_law := qL_law_6 _ (List.mem_of_getElem? (i := 4) rfl)
theorem tL_law_373 : (373, a_i 0 374) ∈ kL_law := qL_law_6 _ (List.mem_of_getElem? (i := 5) rfl)
theorem tL_law_374 : (374, a_iret true) ∈ kL_law := qL_law_6 _ (List.mem_of_getElem? (i := 6) rfl)
theorem tL_law_375 : (375, a_aload 1 376) ∈ kL_law := qL_law_6 _ (List.mem_of_getElem? (i := 7) rfl)
theorem tL_law_376 : (376, a_aload 0 377) ∈ kL_law := qL_law_6 _ (List.mem_of_getElem? (i := 8) rfl)
theorem tL_law_377 : (377, a_iload 3 378) ∈ kL_law := qL_law_6 _ (List.mem_of_getElem? (i := 9) rfl)
theorem tL_law_378 : (378, a_i 1 379) ∈ kL_law := qL_law_6 _ (List.mem_of_getElem? (i := 10) rfl)
theorem tL_law_379 : (379, a_ii (fun x y => x + y) 380) ∈ kL_law := qL_law_6 _ (List.mem_of_getElem? (i := 11) rfl)
theorem tL_law_380 : (380, a_iald 381) ∈ kL_law := qL_law_6 _ (List.mem_of_getElem? (i := 12) rfl)
theorem tL_law_381 : (381, a_aload 0 382) ∈ kL_law := qL_law_6 _ (List.mem_of_getElem? (i := 13) rfl)
theorem tL_law_382 : (382, a_iload 3 383) ∈ kL_law := qL_law_6 _ (List.mem_of_getElem? (i := 14) rfl)
theorem tL_law_383 : (383, a_i 2 384) ∈ kL_law := qL_law_6 _ (List.mem_of_getElem? (i := 15) rfl)
theorem tL_law_384 : (384, a_ii (fun x y => x + y) 385) ∈ kL_law := qL_law_6 _ (List.mem_of_getElem? (i := 16) rfl)
theorem tL_law_385 : (385, a_iald 386) ∈ kL_law := qL_law_6 _ (List.mem_of_getElem? (i := 17) rfl)
theorem tL_law_386 : (386, a_aload 0 387) ∈ kL_law := qL_law_6 _ (List.mem_of_getElem? (i := 18) rfl)
theorem tL_law_387 : (387, a_iload 3 388) ∈ kL_law := qL_law_6 _ (List.mem_of_getElem? (i := 19) rfl)
theorem tL_law_388 : (388, a_i 3 389) ∈ kL_law := qL_law_6 _ (List.mem_of_getElem? (i := 20) rfl)
theorem tL_law_389 : (389, a_ii (fun x y => x + y) 390) ∈ kL_law := qL_law_6 _ (List.mem_of_getElem? (i := 21) rfl)
theorem tL_law_390 : (390, a_iald 391) ∈ kL_law := qL_law_6 _ (List.mem_of_getElem? (i := 22) rfl)
theorem tL_law_391 : (391, a_callV 11 95 4 394 0 0) ∈ kL_law := qL_law_6 _ (List.mem_of_getElem? (i := 23) rfl)
theorem qL_law_7 : ∀ q ∈ kL_law_7, q ∈ kL_law := fun _ h => (List.mem_append_right _ (List.mem_append_right _ (List.mem_append_right _ (List.mem_append_right _ (List.mem_append_right _ (List.mem_append_right _ (List.mem_append_right _ (List.mem_append_left _ h))))))))
theorem tL_law_394 : (394, a_aload 2 395) ∈ kL_law := qL_law_7 _ (List.mem_of_getElem? (i := 0) rfl)
theorem tL_law_395 : (395, a_aload 0 396) ∈ kL_law := qL_law_7 _ (List.mem_of_getElem? (i := 1) rfl)
theorem tL_law_396 : (396, a_iload 3 397) ∈ kL_law := qL_law_7 _ (List.mem_of_getElem? (i := 2) rfl)
theorem tL_law_397 : (397, a_i 1 398) ∈ kL_law := qL_law_7 _ (List.mem_of_getElem? (i := 3) rfl)
theorem tL_law_398 : (398, a_ii (fun x y => x + y) 399) ∈ kL_law := qL_law_7 _ (List.mem_of_getElem? (i := 4) rfl)
theorem tL_law_399 : (399, a_iald 400) ∈ kL_law := qL_law_7 _ (List.mem_of_getElem? (i := 5) rfl)
theorem tL_law_400 : (400, a_aload 0 401) ∈ kL_law := qL_law_7 _ (List.mem_of_getElem? (i := 6) rfl)
theorem tL_law_401 : (401, a_iload 3 402) ∈ kL_law := qL_law_7 _ (List.mem_of_getElem? (i := 7) rfl)
theorem tL_law_402 : (402, a_i 2 403) ∈ kL_law := qL_law_7 _ (List.mem_of_getElem? (i := 8) rfl)
theorem tL_law_403 : (403, a_ii (fun x y => x + y) 404) ∈ kL_law := qL_law_7 _ (List.mem_of_getElem? (i := 9) rfl)
theorem tL_law_404 : (404, a_iald 405) ∈ kL_law := qL_law_7 _ (List.mem_of_getElem? (i := 10) rfl)
theorem tL_law_405 : (405, a_aload 0 406) ∈ kL_law := qL_law_7 _ (List.mem_of_getElem? (i := 11) rfl)
theorem tL_law_406 : (406, a_iload 3 407) ∈ kL_law := qL_law_7 _ (List.mem_of_getElem? (i := 12) rfl)
theorem tL_law_407 : (407, a_i 3 408) ∈ kL_law := qL_law_7 _ (List.mem_of_getElem? (i := 13) rfl)
theorem tL_law_408 : (408, a_ii (fun x y => x + y) 409) ∈ kL_law := qL_law_7 _ (List.mem_of_getElem? (i := 14) rfl)
theorem tL_law_409 : (409, a_iald 410) ∈ kL_law := qL_law_7 _ (List.mem_of_getElem? (i := 15) rfl)
theorem tL_law_410 : (410, a_callV 12 155 4 413 0 0) ∈ kL_law := qL_law_7 _ (List.mem_of_getElem? (i := 16) rfl)
theorem tL_law_413 : (413, a_ic_eq 1224 416) ∈ kL_law := qL_law_7 _ (List.mem_of_getElem? (i := 17) rfl)
theorem tL_law_416 : (416, a_i 0 417) ∈ kL_law := qL_law_7 _ (List.mem_of_getElem? (i := 18) rfl)
theorem tL_law_417 : (417, a_iret true) ∈ kL_law := qL_law_7 _ (List.mem_of_getElem? (i := 19) rfl)
theorem tL_law_418 : (418, a_aload 1 419) ∈ kL_law := qL_law_7 _ (List.mem_of_getElem? (i := 20) rfl)
theorem tL_law_419 : (419, a_aload 0 420) ∈ kL_law := qL_law_7 _ (List.mem_of_getElem? (i := 21) rfl)
theorem tL_law_420 : (420, a_iload 3 421) ∈ kL_law := qL_law_7 _ (List.mem_of_getElem? (i := 22) rfl)
theorem tL_law_421 : (421, a_i 1 422) ∈ kL_law := qL_law_7 _ (List.mem_of_getElem? (i := 23) rfl)
theorem qL_law_8 : ∀ q ∈ kL_law_8, q ∈ kL_law := fun _ h => (List.mem_append_right _ (List.mem_append_right _ (List.mem_append_right _ (List.mem_append_right _ (List.mem_append_right _ (List.mem_append_right _ (List.mem_append_right _ (List.mem_append_right _ (List.mem_append_left _ h)))))))))
theorem tL_law_422 : (422, a_ii (fun x y => x + y) 423) ∈ kL_law := qL_law_8 _ (List.mem_of_getElem? (i := 0) rfl)
theorem tL_law_423 : (423, a_iald 424) ∈ kL_law := qL_law_8 _ (List.mem_of_getElem? (i := 1) rfl)
theorem tL_law_424 : (424, a_callV 11 96 2 427 0 0) ∈ kL_law := qL_law_8 _ (List.mem_of_getElem? (i := 2) rfl)
theorem tL_law_427 : (427, a_aload 2 428) ∈ kL_law := qL_law_8 _ (List.mem_of_getElem? (i := 3) rfl)
theorem tL_law_428 : (428, a_aload 0 429) ∈ kL_law := qL_law_8 _ (List.mem_of_getElem? (i := 4) rfl)
theorem tL_law_429 : (429, a_iload 3 430) ∈ kL_law := qL_law_8 _ (List.mem_of_getElem? (i := 5) rfl)
theorem tL_law_430 : (430, a_i 1 431) ∈ kL_law := qL_law_8 _ (List.mem_of_getElem? (i := 6) rfl)
theorem tL_law_431 : (431, a_ii (fun x y => x + y) 432) ∈ kL_law := qL_law_8 _ (List.mem_of_getElem? (i := 7) rfl)
theorem tL_law_432 : (432, a_iald 433) ∈ kL_law := qL_law_8 _ (List.mem_of_getElem? (i := 8) rfl)
theorem tL_law_433 : (433, a_callV 12 164 2 436 0 0) ∈ kL_law := qL_law_8 _ (List.mem_of_getElem? (i := 9) rfl)
theorem tL_law_436 : (436, a_ic_eq 1224 439) ∈ kL_law := qL_law_8 _ (List.mem_of_getElem? (i := 10) rfl)
theorem tL_law_439 : (439, a_i 0 440) ∈ kL_law := qL_law_8 _ (List.mem_of_getElem? (i := 11) rfl)
theorem tL_law_440 : (440, a_iret true) ∈ kL_law := qL_law_8 _ (List.mem_of_getElem? (i := 12) rfl)
theorem tL_law_441 : (441, a_aload 1 442) ∈ kL_law := qL_law_8 _ (List.mem_of_getElem? (i := 13) rfl)
theorem tL_law_442 : (442, a_aload 0 443) ∈ kL_law := qL_law_8 _ (List.mem_of_getElem? (i := 14) rfl)
theorem tL_law_443 : (443, a_iload 3 444) ∈ kL_law := qL_law_8 _ (List.mem_of_getElem? (i := 15) rfl)
theorem tL_law_444 : (444, a_i 1 445) ∈ kL_law := qL_law_8 _ (List.mem_of_getElem? (i := 16) rfl)
theorem tL_law_445 : (445, a_ii (fun x y => x + y) 446) ∈ kL_law := qL_law_8 _ (List.mem_of_getElem? (i := 17) rfl)
theorem tL_law_446 : (446, a_iald 447) ∈ kL_law := qL_law_8 _ (List.mem_of_getElem? (i := 18) rfl)
theorem tL_law_447 : (447, a_aload 0 448) ∈ kL_law := qL_law_8 _ (List.mem_of_getElem? (i := 19) rfl)
theorem tL_law_448 : (448, a_iload 3 449) ∈ kL_law := qL_law_8 _ (List.mem_of_getElem? (i := 20) rfl)
theorem tL_law_449 : (449, a_i 2 450) ∈ kL_law := qL_law_8 _ (List.mem_of_getElem? (i := 21) rfl)
theorem tL_law_450 : (450, a_ii (fun x y => x + y) 451) ∈ kL_law := qL_law_8 _ (List.mem_of_getElem? (i := 22) rfl)
theorem tL_law_451 : (451, a_iald 452) ∈ kL_law := qL_law_8 _ (List.mem_of_getElem? (i := 23) rfl)
theorem qL_law_9 : ∀ q ∈ kL_law_9, q ∈ kL_law := fun _ h => (List.mem_append_right _ (List.mem_append_right _ (List.mem_append_right _ (List.mem_append_right _ (List.mem_append_right _ (List.mem_append_right _ (List.mem_append_right _ (List.mem_append_right _ (List.mem_append_right _ (List.mem_append_left _ h))))))))))
theorem tL_law_452 : (452, a_callV 11 97 3 455 0 0) ∈ kL_law := qL_law_9 _ (List.mem_of_getElem? (i := 0) rfl)
theorem tL_law_455 : (455, a_aload 2 456) ∈ kL_law := qL_law_9 _ (List.mem_of_getElem? (i := 1) rfl)
theorem tL_law_456 : (456, a_aload 0 457) ∈ kL_law := qL_law_9 _ (List.mem_of_getElem? (i := 2) rfl)
theorem tL_law_457 : (457, a_iload 3 458) ∈ kL_law := qL_law_9 _ (List.mem_of_getElem? (i := 3) rfl)
theorem tL_law_458 : (458, a_i 1 459) ∈ kL_law := qL_law_9 _ (List.mem_of_getElem? (i := 4) rfl)
theorem tL_law_459 : (459, a_ii (fun x y => x + y) 460) ∈ kL_law := qL_law_9 _ (List.mem_of_getElem? (i := 5) rfl)
theorem tL_law_460 : (460, a_iald 461) ∈ kL_law := qL_law_9 _ (List.mem_of_getElem? (i := 6) rfl)
theorem tL_law_461 : (461, a_aload 0 462) ∈ kL_law := qL_law_9 _ (List.mem_of_getElem? (i := 7) rfl)
theorem tL_law_462 : (462, a_iload 3 463) ∈ kL_law := qL_law_9 _ (List.mem_of_getElem? (i := 8) rfl)
theorem tL_law_463 : (463, a_i 2 464) ∈ kL_law := qL_law_9 _ (List.mem_of_getElem? (i := 9) rfl)
theorem tL_law_464 : (464, a_ii (fun x y => x + y) 465) ∈ kL_law := qL_law_9 _ (List.mem_of_getElem? (i := 10) rfl)
theorem tL_law_465 : (465, a_iald 466) ∈ kL_law := qL_law_9 _ (List.mem_of_getElem? (i := 11) rfl)
theorem tL_law_466 : (466, a_callV 12 165 3 469 0 0) ∈ kL_law := qL_law_9 _ (List.mem_of_getElem? (i := 12) rfl)
theorem tL_law_469 : (469, a_ic_eq 1224 472) ∈ kL_law := qL_law_9 _ (List.mem_of_getElem? (i := 13) rfl)
theorem tL_law_472 : (472, a_i 0 473) ∈ kL_law := qL_law_9 _ (List.mem_of_getElem? (i := 14) rfl)
theorem tL_law_473 : (473, a_iret true) ∈ kL_law := qL_law_9 _ (List.mem_of_getElem? (i := 15) rfl)
theorem tL_law_474 : (474, a_aload 1 475) ∈ kL_law := qL_law_9 _ (List.mem_of_getElem? (i := 16) rfl)
theorem tL_law_475 : (475, a_aload 0 476) ∈ kL_law := qL_law_9 _ (List.mem_of_getElem? (i := 17) rfl)
theorem tL_law_476 : (476, a_iload 3 477) ∈ kL_law := qL_law_9 _ (List.mem_of_getElem? (i := 18) rfl)
theorem tL_law_477 : (477, a_i 1 478) ∈ kL_law := qL_law_9 _ (List.mem_of_getElem? (i := 19) rfl)
theorem tL_law_478 : (478, a_ii (fun x y => x + y) 479) ∈ kL_law := qL_law_9 _ (List.mem_of_getElem? (i := 20) rfl)
theorem tL_law_479 : (479, a_iald 480) ∈ kL_law := qL_law_9 _ (List.mem_of_getElem? (i := 21) rfl)
theorem tL_law_480 : (480, a_callV 11 98 2 483 0 0) ∈ kL_law := qL_law_9 _ (List.mem_of_getElem? (i := 22) rfl)
theorem tL_law_483 : (483, a_aload 2 484) ∈ kL_law := qL_law_9 _ (List.mem_of_getElem? (i := 23) rfl)
theorem qL_law_10 : ∀ q ∈ kL_law_10, q ∈ kL_law := fun _ h => (List.mem_append_right _ (List.mem_append_right _ (List.mem_append_right _ (List.mem_append_right _ (List.mem_append_right _ (List.mem_append_right _ (List.mem_append_right _ (List.mem_append_right _ (List.mem_append_right _ (List.mem_append_right _ (List.mem_append_left _ h)))))))))))
theorem tL_law_484 : (484, a_aload 0 485) ∈ kL_law := qL_law_10 _ (List.mem_of_getElem? (i := 0) rfl)
theorem tL_law_485 : (485, a_iload 3 486) ∈ kL_law := qL_law_10 _ (List.mem_of_getElem? (i := 1) rfl)
theorem tL_law_486 : (486, a_i 1 487) ∈ kL_law := qL_law_10 _ (List.mem_of_getElem? (i := 2) rfl)
theorem tL_law_487 : (487, a_ii (fun x y => x + y) 488) ∈ kL_law := qL_law_10 _ (List.mem_of_getElem? (i := 3) rfl)
theorem tL_law_488 : (488, a_iald 489) ∈ kL_law := qL_law_10 _ (List.mem_of_getElem? (i := 4) rfl)
theorem tL_law_489 : (489, a_callV 12 166 2 492 0 0) ∈ kL_law := qL_law_10 _ (List.mem_of_getElem? (i := 5) rfl)
theorem tL_law_492 : (492, a_ic_eq 1224 495) ∈ kL_law := qL_law_10 _ (List.mem_of_getElem? (i := 6) rfl)
theorem tL_law_495 : (495, a_i 0 496) ∈ kL_law := qL_law_10 _ (List.mem_of_getElem? (i := 7) rfl)
theorem tL_law_496 : (496, a_iret true) ∈ kL_law := qL_law_10 _ (List.mem_of_getElem? (i := 8) rfl)
theorem tL_law_497 : (497, a_aload 1 498) ∈ kL_law := qL_law_10 _ (List.mem_of_getElem? (i := 9) rfl)
theorem tL_law_498 : (498, a_aload 0 499) ∈ kL_law := qL_law_10 _ (List.mem_of_getElem? (i := 10) rfl)
theorem tL_law_499 : (499, a_iload 3 500) ∈ kL_law := qL_law_10 _ (List.mem_of_getElem? (i := 11) rfl)
theorem tL_law_500 : (500, a_i 1 501) ∈ kL_law := qL_law_10 _ (List.mem_of_getElem? (i := 12) rfl)
theorem tL_law_501 : (501, a_ii (fun x y => x + y) 502) ∈ kL_law := qL_law_10 _ (List.mem_of_getElem? (i := 13) rfl)
theorem tL_law_502 : (502, a_iald 503) ∈ kL_law := qL_law_10 _ (List.mem_of_getElem? (i := 14) rfl)
theorem tL_law_503 : (503, a_aload 0 504) ∈ kL_law := qL_law_10 _ (List.mem_of_getElem? (i := 15) rfl)
theorem tL_law_504 : (504, a_iload 3 505) ∈ kL_law := qL_law_10 _ (List.mem_of_getElem? (i := 16) rfl)
theorem tL_law_505 : (505, a_i 2 506) ∈ kL_law := qL_law_10 _ (List.mem_of_getElem? (i := 17) rfl)
theorem tL_law_506 : (506, a_ii (fun x y => x + y) 507) ∈ kL_law := qL_law_10 _ (List.mem_of_getElem? (i := 18) rfl)
theorem tL_law_507 : (507, a_iald 508) ∈ kL_law := qL_law_10 _ (List.mem_of_getElem? (i := 19) rfl)
theorem tL_law_508 : (508, a_aload 0 509) ∈ kL_law := qL_law_10 _ (List.mem_of_getElem? (i := 20) rfl)
theorem tL_law_509 : (509, a_iload 3 510) ∈ kL_law := qL_law_10 _ (List.mem_of_getElem? (i := 21) rfl)
theorem tL_law_510 : (510, a_i 3 511) ∈ kL_law := qL_law_10 _ (List.mem_of_getElem? (i := 22) rfl)
theorem tL_law_511 : (511, a_ii (fun x y => x + y) 512) ∈ kL_law := qL_law_10 _ (List.mem_of_getElem? (i := 23) rfl)
theorem qL_law_11 : ∀ q ∈ kL_law_11, q ∈ kL_law := fun _ h => (List.mem_append_right _ (List.mem_append_right _ (List.mem_append_right _ (List.mem_append_right _ (List.mem_append_right _ (List.mem_append_right _ (List.mem_append_right _ (List.mem_append_right _ (List.mem_append_right _ (List.mem_append_right _ (List.mem_append_right _ (List.mem_append_left _ h))))))))))))
theorem tL_law_512 : (512, a_iald 513) ∈ kL_law := qL_law_11 _ (List.mem_of_getElem? (i := 0) rfl)
theorem tL_law_513 : (513, a_callV 11 99 4 516 0 0) ∈ kL_law := qL_law_11 _ (List.mem_of_getElem? (i := 1) rfl)
theorem tL_law_516 : (516, a_aload 2 517) ∈ kL_law := qL_law_11 _ (List.mem_of_getElem? (i := 2) rfl)
theorem tL_law_517 : (517, a_aload 0 518) ∈ kL_law := qL_law_11 _ (List.mem_of_getElem? (i := 3) rfl)
theorem tL_law_518 : (518, a_iload 3 519) ∈ kL_law := qL_law_11 _ (List.mem_of_getElem? (i := 4) rfl)
theorem tL_law_519 : (519, a_i 1 520) ∈ kL_law := qL_law_11 _ (List.mem_of_getElem? (i := 5) rfl)
theorem tL_law_520 : (520, a_ii (fun x y => x + y) 521) ∈ kL_law := qL_law_11 _ (List.mem_of_getElem? (i := 6) rfl)
theorem tL_law_521 : (521, a_iald 522) ∈ kL_law := qL_law_11 _ (List.mem_of_getElem? (i := 7) rfl)
theorem tL_law_522 : (522, a_aload 0 523) ∈ kL_law := qL_law_11 _ (List.mem_of_getElem? (i := 8) rfl)
theorem tL_law_523 : (523, a_iload 3 524) ∈ kL_law := qL_law_11 _ (List.mem_of_getElem? (i := 9) rfl)
theorem tL_law_524 : (524, a_i 2 525) ∈ kL_law := qL_law_11 _ (List.mem_of_getElem? (i := 10) rfl)
theorem tL_law_525 : (525, a_ii (fun x y => x + y) 526) ∈ kL_law := qL_law_11 _ (List.mem_of_getElem? (i := 11) rfl)
theorem tL_law_526 : (526, a_iald 527) ∈ kL_law := qL_law_11 _ (List.mem_of_getElem? (i := 12) rfl)
theorem tL_law_527 : (527, a_aload 0 528) ∈ kL_law := qL_law_11 _ (List.mem_of_getElem? (i := 13) rfl)
theorem tL_law_528 : (528, a_iload 3 529) ∈ kL_law := qL_law_11 _ (List.mem_of_getElem? (i := 14) rfl)
theorem tL_law_529 : (529, a_i 3 530) ∈ kL_law := qL_law_11 _ (List.mem_of_getElem? (i := 15) rfl)
theorem tL_law_530 : (530, a_ii (fun x y => x + y) 531) ∈ kL_law := qL_law_11 _ (List.mem_of_getElem? (i := 16) rfl)
theorem tL_law_531 : (531, a_iald 532) ∈ kL_law := qL_law_11 _ (List.mem_of_getElem? (i := 17) rfl)
theorem tL_law_532 : (532, a_callV 12 167 4 535 0 0) ∈ kL_law := qL_law_11 _ (List.mem_of_getElem? (i := 18) rfl)
theorem tL_law_535 : (535, a_ic_eq 1224 538) ∈ kL_law := qL_law_11 _ (List.mem_of_getElem? (i := 19) rfl)
theorem tL_law_538 : (538, a_i 0 539) ∈ kL_law := qL_law_11 _ (List.mem_of_getElem? (i := 20) rfl)
theorem tL_law_539 : (539, a_iret true) ∈ kL_law := qL_law_11 _ (List.mem_of_getElem? (i := 21) rfl)
theorem tL_law_540 : (540, a_aload 1 541) ∈ kL_law := qL_law_11 _ (List.mem_of_getElem? (i := 22) rfl)
theorem tL_law_541 : (541, a_aload 0 542) ∈ kL_law := qL_law_11 _ (List.mem_of_getElem? (i := 23) rfl)
theorem qL_law_12 : ∀ q ∈ kL_law_12, q ∈ kL_law := fun _ h => (List.mem_append_right _ (List.mem_append_right _ (List.mem_append_right _ (List.mem_append_right _ (List.mem_append_right _ (List.mem_append_right _ (List.mem_append_right _ (List.mem_append_right _ (List.mem_append_right _ (List.mem_append_right _ (List.mem_append_right _ (List.mem_append_right _ (List.mem_append_left _ h)))))))))))))
theorem tL_law_542 : (542, a_iload 3 543) ∈ kL_law := qL_law_12 _ (List.mem_of_getElem? (i := 0) rfl)
theorem tL_law_543 : (543, a_i 1 544) ∈ kL_law := qL_law_12 _ (List.mem_of_getElem? (i := 1) rfl)
theorem tL_law_544 : (544, a_ii (fun x y => x + y) 545) ∈ kL_law := qL_law_12 _ (List.mem_of_getElem? (i := 2) rfl)
theorem tL_law_545 : (545, a_iald 546) ∈ kL_law := qL_law_12 _ (List.mem_of_getElem? (i := 3) rfl)
theorem tL_law_546 : (546, a_aload 0 547) ∈ kL_law := qL_law_12 _ (List.mem_of_getElem? (i := 4) rfl)
theorem tL_law_547 : (547, a_iload 3 548) ∈ kL_law := qL_law_12 _ (List.mem_of_getElem? (i := 5) rfl)
theorem tL_law_548 : (548, a_i 2 549) ∈ kL_law := qL_law_12 _ (List.mem_of_getElem? (i := 6) rfl)
theorem tL_law_549 : (549, a_ii (fun x y => x + y) 550) ∈ kL_law := qL_law_12 _ (List.mem_of_getElem? (i := 7) rfl)
theorem tL_law_550 : (550, a_iald 551) ∈ kL_law := qL_law_12 _ (List.mem_of_getElem? (i := 8) rfl)
theorem tL_law_551 : (551, a_callV 11 100 3 554 0 0) ∈ kL_law := qL_law_12 _ (List.mem_of_getElem? (i := 9) rfl)
theorem tL_law_554 : (554, a_aload 2 555) ∈ kL_law := qL_law_12 _ (List.mem_of_getElem? (i := 10) rfl)
theorem tL_law_555 : (555, a_aload 0 556) ∈ kL_law := qL_law_12 _ (List.mem_of_getElem? (i := 11) rfl)
theorem tL_law_556 : (556, a_iload 3 557) ∈ kL_law := qL_law_12 _ (List.mem_of_getElem? (i := 12) rfl)
theorem tL_law_557 : (557, a_i 1 558) ∈ kL_law := qL_law_12 _ (List.mem_of_getElem? (i := 13) rfl)
theorem tL_law_558 : (558, a_ii (fun x y => x + y) 559) ∈ kL_law := qL_law_12 _ (List.mem_of_getElem? (i := 14) rfl)
theorem tL_law_559 : (559, a_iald 560) ∈ kL_law := qL_law_12 _ (List.mem_of_getElem? (i := 15) rfl)
theorem tL_law_560 : (560, a_aload 0 561) ∈ kL_law := qL_law_12 _ (List.mem_of_getElem? (i := 16) rfl)
theorem tL_law_561 : (561, a_iload 3 562) ∈ kL_law := qL_law_12 _ (List.mem_of_getElem? (i := 17) rfl)
theorem tL_law_562 : (562, a_i 2 563) ∈ kL_law := qL_law_12 _ (List.mem_of_getElem? (i := 18) rfl)
theorem tL_law_563 : (563, a_ii (fun x y => x + y) 564) ∈ kL_law := qL_law_12 _ (List.mem_of_getElem? (i := 19) rfl)
theorem tL_law_564 : (564, a_iald 565) ∈ kL_law := qL_law_12 _ (List.mem_of_getElem? (i := 20) rfl)
theorem tL_law_565 : (565, a_callV 12 168 3 568 0 0) ∈ kL_law := qL_law_12 _ (List.mem_of_getElem? (i := 21) rfl)
theorem tL_law_568 : (568, a_ic_eq 1224 571) ∈ kL_law := qL_law_12 _ (List.mem_of_getElem? (i := 22) rfl)
theorem tL_law_571 : (571, a_i 0 572) ∈ kL_law := qL_law_12 _ (List.mem_of_getElem? (i := 23) rfl)
theorem qL_law_13 : ∀ q ∈ kL_law_13, q ∈ kL_law := fun _ h => (List.mem_append_right _ (List.mem_append_right _ (List.mem_append_right _ (List.mem_append_right _ (List.mem_append_right _ (List.mem_append_right _ (List.mem_append_right _ (List.mem_append_right _ (List.mem_append_right _ (List.mem_append_right _ (List.mem_append_right _ (List.mem_append_right _ (List.mem_append_right _ (List.mem_append_left _ h))))))))))))))
theorem tL_law_572 : (572, a_iret true) ∈ kL_law := qL_law_13 _ (List.mem_of_getElem? (i := 0) rfl)
theorem tL_law_573 : (573, a_aload 1 574) ∈ kL_law := qL_law_13 _ (List.mem_of_getElem? (i := 1) rfl)
theorem tL_law_574 : (574, a_aload 0 575) ∈ kL_law := qL_law_13 _ (List.mem_of_getElem? (i := 2) rfl)
theorem tL_law_575 : (575, a_iload 3 576) ∈ kL_law := qL_law_13 _ (List.mem_of_getElem? (i := 3) rfl)
theorem tL_law_576 : (576, a_i 1 577) ∈ kL_law := qL_law_13 _ (List.mem_of_getElem? (i := 4) rfl)
theorem tL_law_577 : (577, a_ii (fun x y => x + y) 578) ∈ kL_law := qL_law_13 _ (List.mem_of_getElem? (i := 5) rfl)
theorem tL_law_578 : (578, a_iald 579) ∈ kL_law := qL_law_13 _ (List.mem_of_getElem? (i := 6) rfl)
theorem tL_law_579 : (579, a_callV 11 101 2 582 0 0) ∈ kL_law := qL_law_13 _ (List.mem_of_getElem? (i := 7) rfl)
theorem tL_law_582 : (582, a_aload 2 583) ∈ kL_law := qL_law_13 _ (List.mem_of_getElem? (i := 8) rfl)
theorem tL_law_583 : (583, a_aload 0 584) ∈ kL_law := qL_law_13 _ (List.mem_of_getElem? (i := 9) rfl)
theorem tL_law_584 : (584, a_iload 3 585) ∈ kL_law := qL_law_13 _ (List.mem_of_getElem? (i := 10) rfl)
theorem tL_law_585 : (585, a_i 1 586) ∈ kL_law := qL_law_13 _ (List.mem_of_getElem? (i := 11) rfl)
theorem tL_law_586 : (586, a_ii (fun x y => x + y) 587) ∈ kL_law := qL_law_13 _ (List.mem_of_getElem? (i := 12) rfl)
theorem tL_law_587 : (587, a_iald 588) ∈ kL_law := qL_law_13 _ (List.mem_of_getElem? (i := 13) rfl)
theorem tL_law_588 : (588, a_callV 12 169 2 591 0 0) ∈ kL_law := qL_law_13 _ (List.mem_of_getElem? (i := 14) rfl)
theorem tL_law_591 : (591, a_ic_eq 1224 594) ∈ kL_law := qL_law_13 _ (List.mem_of_getElem? (i := 15) rfl)
theorem tL_law_594 : (594, a_i 0 595) ∈ kL_law := qL_law_13 _ (List.mem_of_getElem? (i := 16) rfl)
theorem tL_law_595 : (595, a_iret true) ∈ kL_law := qL_law_13 _ (List.mem_of_getElem? (i := 17) rfl)
theorem tL_law_596 : (596, a_aload 1 597) ∈ kL_law := qL_law_13 _ (List.mem_of_getElem? (i := 18) rfl)
theorem tL_law_597 : (597, a_callV 11 102 1 600 0 0) ∈ kL_law := qL_law_13 _ (List.mem_of_getElem? (i := 19) rfl)
theorem tL_law_600 : (600, a_aload 2 601) ∈ kL_law := qL_law_13 _ (List.mem_of_getElem? (i := 20) rfl)
theorem tL_law_601 : (601, a_callV 12 170 1 604 0 0) ∈ kL_law := qL_law_13 _ (List.mem_of_getElem? (i := 21) rfl)
theorem tL_law_604 : (604, a_ic_eq 1224 607) ∈ kL_law := qL_law_13 _ (List.mem_of_getElem? (i := 22) rfl)
theorem tL_law_607 : (607, a_i 0 608) ∈ kL_law := qL_law_13 _ (List.mem_of_getElem? (i := 23) rfl)
theorem qL_law_14 : ∀ q ∈ kL_law_14, q ∈ kL_law := fun _ h => (List.mem_append_right _ (List.mem_append_right _ (List.mem_append_right _ (List.mem_append_right _ (List.mem_append_right _ (List.mem_append_right _ (List.mem_append_right _ (List.mem_append_right _ (List.mem_append_right _ (List.mem_append_right _ (List.mem_append_right _ (List.mem_append_right _ (List.mem_append_right _ (List.mem_append_right _ (List.mem_append_left _ h)))))))))))))))
theorem tL_law_608 : (608, a_iret true) ∈ kL_law := qL_law_14 _ (List.mem_of_getElem? (i := 0) rfl)
theorem tL_law_609 : (609, a_aload 1 610) ∈ kL_law := qL_law_14 _ (List.mem_of_getElem? (i := 1) rfl)
theorem tL_law_610 : (610, a_aload 0 611) ∈ kL_law := qL_law_14 _ (List.mem_of_getElem? (i := 2) rfl)
theorem tL_law_611 : (611, a_iload 3 612) ∈ kL_law := qL_law_14 _ (List.mem_of_getElem? (i := 3) rfl)
theorem tL_law_612 : (612, a_i 1 613) ∈ kL_law := qL_law_14 _ (List.mem_of_getElem? (i := 4) rfl)
theorem tL_law_613 : (613, a_ii (fun x y => x + y) 614) ∈ kL_law := qL_law_14 _ (List.mem_of_getElem? (i := 5) rfl)
theorem tL_law_614 : (614, a_iald 615) ∈ kL_law := qL_law_14 _ (List.mem_of_getElem? (i := 6) rfl)
theorem tL_law_615 : (615, a_callV 11 103 2 618 0 0) ∈ kL_law := qL_law_14 _ (List.mem_of_getElem? (i := 7) rfl)
theorem tL_law_618 : (618, a_aload 2 619) ∈ kL_law := qL_law_14 _ (List.mem_of_getElem? (i := 8) rfl)
theorem tL_law_619 : (619, a_aload 0 620) ∈ kL_law := qL_law_14 _ (List.mem_of_getElem? (i := 9) rfl)
theorem tL_law_620 : (620, a_iload 3 621) ∈ kL_law := qL_law_14 _ (List.mem_of_getElem? (i := 10) rfl)
theorem tL_law_621 : (621, a_i 1 622) ∈ kL_law := qL_law_14 _ (List.mem_of_getElem? (i := 11) rfl)
theorem tL_law_622 : (622, a_ii (fun x y => x + y) 623) ∈ kL_law := qL_law_14 _ (List.mem_of_getElem? (i := 12) rfl)
theorem tL_law_623 : (623, a_iald 624) ∈ kL_law := qL_law_14 _ (List.mem_of_getElem? (i := 13) rfl)
theorem tL_law_624 : (624, a_callV 12 171 2 627 0 0) ∈ kL_law := qL_law_14 _ (List.mem_of_getElem? (i := 14) rfl)
theorem tL_law_627 : (627, a_ic_eq 1224 630) ∈ kL_law := qL_law_14 _ (List.mem_of_getElem? (i := 15) rfl)
theorem tL_law_630 : (630, a_i 0 631) ∈ kL_law := qL_law_14 _ (List.mem_of_getElem? (i := 16) rfl)
theorem tL_law_631 : (631, a_iret true) ∈ kL_law := qL_law_14 _ (List.mem_of_getElem? (i := 17) rfl)
theorem tL_law_632 : (632, a_aload 1 633) ∈ kL_law := qL_law_14 _ (List.mem_of_getElem? (i := 18) rfl)
theorem tL_law_633 : (633, a_callV 11 104 1 636 0 0) ∈ kL_law := qL_law_14 _ (List.mem_of_getElem? (i := 19) rfl)
theorem tL_law_636 : (636, a_aload 2 637) ∈ kL_law := qL_law_14 _ (List.mem_of_getElem? (i := 20) rfl)
theorem tL_law_637 : (637, a_callV 12 172 1 640 0 0) ∈ kL_law := qL_law_14 _ (List.mem_of_getElem? (i := 21) rfl)
theorem tL_law_640 : (640, a_ic_eq 1224 643) ∈ kL_law := qL_law_14 _ (List.mem_of_getElem? (i := 22) rfl)
theorem tL_law_643 : (643, a_i 0 644) ∈ kL_law := qL_law_14 _ (List.mem_of_getElem? (i := 23) rfl)
theorem qL_law_15 : ∀ q ∈ kL_law_15, q ∈ kL_law := fun _ h => (List.mem_append_right _ (List.mem_append_right _ (List.mem_append_right _ (List.mem_append_right _ (List.mem_append_right _ (List.mem_append_right _ (List.mem_append_right _ (List.mem_append_right _ (List.mem_append_right _ (List.mem_append_right _ (List.mem_append_right _ (List.mem_append_right _ (List.mem_append_right _ (List.mem_append_right _ (List.mem_append_right _ (List.mem_append_left _ h))))))))))))))))
theorem tL_law_644 : (644, a_iret true) ∈ kL_law := qL_law_15 _ (List.mem_of_getElem? (i := 0) rfl)
theorem tL_law_645 : (645, a_aload 1 646) ∈ kL_law := qL_law_15 _ (List.mem_of_getElem? (i := 1) rfl)
theorem tL_law_646 : (646, a_aload 0 647) ∈ kL_law := qL_law_15 _ (List.mem_of_getElem? (i := 2) rfl)
theorem tL_law_647 : (647, a_iload 3 648) ∈ kL_law := qL_law_15 _ (List.mem_of_getElem? (i := 3) rfl)
theorem tL_law_648 : (648, a_i 1 649) ∈ kL_law := qL_law_15 _ (List.mem_of_getElem? (i := 4) rfl)
theorem tL_law_649 : (649, a_ii (fun x y => x + y) 650) ∈ kL_law := qL_law_15 _ (List.mem_of_getElem? (i := 5) rfl)
theorem tL_law_650 : (650, a_iald 651) ∈ kL_law := qL_law_15 _ (List.mem_of_getElem? (i := 6) rfl)
theorem tL_law_651 : (651, a_aload 0 652) ∈ kL_law := qL_law_15 _ (List.mem_of_getElem? (i := 7) rfl)
theorem tL_law_652 : (652, a_iload 3 653) ∈ kL_law := qL_law_15 _ (List.mem_of_getElem? (i := 8) rfl)
theorem tL_law_653 : (653, a_i 2 654) ∈ kL_law := qL_law_15 _ (List.mem_of_getElem? (i := 9) rfl)
theorem tL_law_654 : (654, a_ii (fun x y => x + y) 655) ∈ kL_law := qL_law_15 _ (List.mem_of_getElem? (i := 10) rfl)
theorem tL_law_655 : (655, a_iald 656) ∈ kL_law := qL_law_15 _ (List.mem_of_getElem? (i := 11) rfl)
theorem tL_law_656 : (656, a_aload 0 657) ∈ kL_law := qL_law_15 _ (List.mem_of_getElem? (i := 12) rfl)
theorem tL_law_657 : (657, a_iload 3 658) ∈ kL_law := qL_law_15 _ (List.mem_of_getElem? (i := 13) rfl)
theorem tL_law_658 : (658, a_i 3 659) ∈ kL_law := qL_law_15 _ (List.mem_of_getElem? (i := 14) rfl)
theorem tL_law_659 : (659, a_ii (fun x y => x + y) 660) ∈ kL_law := qL_law_15 _ (List.mem_of_getElem? (i := 15) rfl)
theorem tL_law_660 : (660, a_iald 661) ∈ kL_law := qL_law_15 _ (List.mem_of_getElem? (i := 16) rfl)
theorem tL_law_661 : (661, a_callV 11 105 4 664 0 0) ∈ kL_law := qL_law_15 _ (List.mem_of_getElem? (i := 17) rfl)
theorem tL_law_664 : (664, a_aload 2 665) ∈ kL_law := qL_law_15 _ (List.mem_of_getElem? (i := 18) rfl)
theorem tL_law_665 : (665, a_aload 0 666) ∈ kL_law := qL_law_15 _ (List.mem_of_getElem? (i := 19) rfl)
theorem tL_law_666 : (666, a_iload 3 667) ∈ kL_law := qL_law_15 _ (List.mem_of_getElem? (i := 20) rfl)
theorem tL_law_667 : (667, a_i 1 668) ∈ kL_law := qL_law_15 _ (List.mem_of_getElem? (i := 21) rfl)
theorem tL_law_668 : (668, a_ii (fun x y => x + y) 669) ∈ kL_law := qL_law_15 _ (List.mem_of_getElem? (i := 22) rfl)
theorem tL_law_669 : (669, a_iald 670) ∈ kL_law := qL_law_15 _ (List.mem_of_getElem? (i := 23) rfl)
theorem qL_law_16 : ∀ q ∈ kL_law_16, q ∈ kL_law := fun _ h => (List.mem_append_right _ (List.mem_append_right _ (List.mem_append_right _ (List.mem_append_right _ (List.mem_append_right _ (List.mem_append_right _ (List.mem_append_right _ (List.mem_append_right _ (List.mem_append_right _ (List.mem_append_right _ (List.mem_append_right _ (List.mem_append_right _ (List.mem_append_right _ (List.mem_append_right _ (List.mem_append_right _ (List.mem_append_right _ (List.mem_append_left _ h)))))))))))))))))
theorem tL_law_670 : (670, a_aload 0 671) ∈ kL_law := qL_law_16 _ (List.mem_of_getElem? (i := 0) rfl)
theorem tL_law_671 : (671, a_iload 3 672) ∈ kL_law := qL_law_16 _ (List.mem_of_getElem? (i := 1) rfl)
theorem tL_law_672 : (672, a_i 2 673) ∈ kL_law := qL_law_16 _ (List.mem_of_getElem? (i := 2) rfl)
theorem tL_law_673 : (673, a_ii (fun x y => x + y) 674) ∈ kL_law := qL_law_16 _ (List.mem_of_getElem? (i := 3) rfl)
theorem tL_law_674 : (674, a_iald 675) ∈ kL_law := qL_law_16 _ (List.mem_of_getElem? (i := 4) rfl)
theorem tL_law_675 : (675, a_aload 0 676) ∈ kL_law := qL_law_16 _ (List.mem_of_getElem? (i := 5) rfl)
theorem tL_law_676 : (676, a_iload 3 677) ∈ kL_law := qL_law_16 _ (List.mem_of_getElem? (i := 6) rfl)
theorem tL_law_677 : (677, a_i 3 678) ∈ kL_law := qL_law_16 _ (List.mem_of_getElem? (i := 7) rfl)
theorem tL_law_678 : (678, a_ii (fun x y => x + y) 679) ∈ kL_law := qL_law_16 _ (List.mem_of_getElem? (i := 8) rfl)
theorem tL_law_679 : (679, a_iald 680) ∈ kL_law := qL_law_16 _ (List.mem_of_getElem? (i := 9) rfl)
theorem tL_law_680 : (680, a_callV 12 173 4 683 0 0) ∈ kL_law := qL_law_16 _ (List.mem_of_getElem? (i := 10) rfl)
theorem tL_law_683 : (683, a_ic_eq 1224 686) ∈ kL_law := qL_law_16 _ (List.mem_of_getElem? (i := 11) rfl)
theorem tL_law_686 : (686, a_i 0 687) ∈ kL_law := qL_law_16 _ (List.mem_of_getElem? (i := 12) rfl)
theorem tL_law_687 : (687, a_iret true) ∈ kL_law := qL_law_16 _ (List.mem_of_getElem? (i := 13) rfl)
theorem tL_law_688 : (688, a_aload 1 689) ∈ kL_law := qL_law_16 _ (List.mem_of_getElem? (i := 14) rfl)
theorem tL_law_689 : (689, a_aload 0 690) ∈ kL_law := qL_law_16 _ (List.mem_of_getElem? (i := 15) rfl)
theorem tL_law_690 : (690, a_iload 3 691) ∈ kL_law := qL_law_16 _ (List.mem_of_getElem? (i := 16) rfl)
theorem tL_law_691 : (691, a_i 1 692) ∈ kL_law := qL_law_16 _ (List.mem_of_getElem? (i := 17) rfl)
theorem tL_law_692 : (692, a_ii (fun x y => x + y) 693) ∈ kL_law := qL_law_16 _ (List.mem_of_getElem? (i := 18) rfl)
theorem tL_law_693 : (693, a_iald 694) ∈ kL_law := qL_law_16 _ (List.mem_of_getElem? (i := 19) rfl)
theorem tL_law_694 : (694, a_aload 0 695) ∈ kL_law := qL_law_16 _ (List.mem_of_getElem? (i := 20) rfl)
theorem tL_law_695 : (695, a_iload 3 696) ∈ kL_law := qL_law_16 _ (List.mem_of_getElem? (i := 21) rfl)
theorem tL_law_696 : (696, a_i 2 697) ∈ kL_law := qL_law_16 _ (List.mem_of_getElem? (i := 22) rfl)
theorem tL_law_697 : (697, a_ii (fun x y => x + y) 698) ∈ kL_law := qL_law_16 _ (List.mem_of_getElem? (i := 23) rfl)
theorem qL_law_17 : ∀ q ∈ kL_law_17, q ∈ kL_law := fun _ h => (List.mem_append_right _ (List.mem_append_right _ (List.mem_append_right _ (List.mem_append_right _ (List.mem_append_right _ (List.mem_append_right _ (List.mem_append_right _ (List.mem_append_right _ (List.mem_append_right _ (List.mem_append_right _ (List.mem_append_right _ (List.mem_append_right _ (List.mem_append_right _ (List.mem_append_right _ (List.mem_append_right _ (List.mem_append_right _ (List.mem_append_right _ (List.mem_append_left _ h))))))))))))))))))
theorem tL_law_698 : (698, a_iald 699) ∈ kL_law := qL_law_17 _ (List.mem_of_getElem? (i := 0) rfl)
theorem tL_law_699 : (699, a_callV 11 106 3 702 0 0) ∈ kL_law := qL_law_17 _ (List.mem_of_getElem? (i := 1) rfl)
theorem tL_law_702 : (702, a_aload 2 703) ∈ kL_law := qL_law_17 _ (List.mem_of_getElem? (i := 2) rfl)
theorem tL_law_703 : (703, a_aload 0 704) ∈ kL_law := qL_law_17 _ (List.mem_of_getElem? (i := 3) rfl)
theorem tL_law_704 : (704, a_iload 3 705) ∈ kL_law := qL_law_17 _ (List.mem_of_getElem? (i := 4) rfl)
theorem tL_law_705 : (705, a_i 1 706) ∈ kL_law := qL_law_17 _ (List.mem_of_getElem? (i := 5) rfl)
theorem tL_law_706 : (706, a_ii (fun x y => x + y) 707) ∈ kL_law := qL_law_17 _ (List.mem_of_getElem? (i := 6) rfl)
theorem tL_law_707 : (707, a_iald 708) ∈ kL_law := qL_law_17 _ (List.mem_of_getElem? (i := 7) rfl)
theorem tL_law_708 : (708, a_aload 0 709) ∈ kL_law := qL_law_17 _ (List.mem_of_getElem? (i := 8) rfl)
theorem tL_law_709 : (709, a_iload 3 710) ∈ kL_law := qL_law_17 _ (List.mem_of_getElem? (i := 9) rfl)
theorem tL_law_710 : (710, a_i 2 711) ∈ kL_law := qL_law_17 _ (List.mem_of_getElem? (i := 10) rfl)
theorem tL_law_711 : (711, a_ii (fun x y => x + y) 712) ∈ kL_law := qL_law_17 _ (List.mem_of_getElem? (i := 11) rfl)
theorem tL_law_712 : (712, a_iald 713) ∈ kL_law := qL_law_17 _ (List.mem_of_getElem? (i := 12) rfl)
theorem tL_law_713 : (713, a_callV 12 174 3 716 0 0) ∈ kL_law := qL_law_17 _ (List.mem_of_getElem? (i := 13) rfl)
theorem tL_law_716 : (716, a_ic_eq 1224 719) ∈ kL_law := qL_law_17 _ (List.mem_of_getElem? (i := 14) rfl)
theorem tL_law_719 : (719, a_i 0 720) ∈ kL_law := qL_law_17 _ (List.mem_of_getElem? (i := 15) rfl)
theorem tL_law_720 : (720, a_iret true) ∈ kL_law := qL_law_17 _ (List.mem_of_getElem? (i := 16) rfl)
theorem tL_law_721 : (721, a_aload 1 722) ∈ kL_law := qL_law_17 _ (List.mem_of_getElem? (i := 17) rfl)
theorem tL_law_722 : (722, a_aload 0 723) ∈ kL_law := qL_law_17 _ (List.mem_of_getElem? (i := 18) rfl)
theorem tL_law_723 : (723, a_iload 3 724) ∈ kL_law := qL_law_17 _ (List.mem_of_getElem? (i := 19) rfl)
theorem tL_law_724 : (724, a_i 1 725) ∈ kL_law := qL_law_17 _ (List.mem_of_getElem? (i := 20) rfl)
theorem tL_law_725 : (725, a_ii (fun x y => x + y) 726) ∈ kL_law := qL_law_17 _ (List.mem_of_getElem? (i := 21) rfl)
theorem tL_law_726 : (726, a_iald 727) ∈ kL_law := qL_law_17 _ (List.mem_of_getElem? (i := 22) rfl)
theorem tL_law_727 : (727, a_aload 0 728) ∈ kL_law := qL_law_17 _ (List.mem_of_getElem? (i := 23) rfl)
theorem qL_law_18 : ∀ q ∈ kL_law_18, q ∈ kL_law := fun _ h => (List.mem_append_right _ (List.mem_append_right _ (List.mem_append_right _ (List.mem_append_right _ (List.mem_append_right _ (List.mem_append_right _ (List.mem_append_right _ (List.mem_append_right _ (List.mem_append_right _ (List.mem_append_right _ (List.mem_append_right _ (List.mem_append_right _ (List.mem_append_right _ (List.mem_append_right _ (List.mem_append_right _ (List.mem_append_right _ (List.mem_append_right _ (List.mem_append_right _ (List.mem_append_left _ h)))))))))))))))))))
theorem tL_law_728 : (728, a_iload 3 729) ∈ kL_law := qL_law_18 _ (List.mem_of_getElem? (i := 0) rfl)
theorem tL_law_729 : (729, a_i 2 730) ∈ kL_law := qL_law_18 _ (List.mem_of_getElem? (i := 1) rfl)
theorem tL_law_730 : (730, a_ii (fun x y => x + y) 731) ∈ kL_law := qL_law_18 _ (List.mem_of_getElem? (i := 2) rfl)
theorem tL_law_731 : (731, a_iald 732) ∈ kL_law := qL_law_18 _ (List.mem_of_getElem? (i := 3) rfl)
theorem tL_law_732 : (732, a_callV 11 107 3 735 0 0) ∈ kL_law := qL_law_18 _ (List.mem_of_getElem? (i := 4) rfl)
theorem tL_law_735 : (735, a_aload 2 736) ∈ kL_law := qL_law_18 _ (List.mem_of_getElem? (i := 5) rfl)
theorem tL_law_736 : (736, a_aload 0 737) ∈ kL_law := qL_law_18 _ (List.mem_of_getElem? (i := 6) rfl)
theorem tL_law_737 : (737, a_iload 3 738) ∈ kL_law := qL_law_18 _ (List.mem_of_getElem? (i := 7) rfl)
theorem tL_law_738 : (738, a_i 1 739) ∈ kL_law := qL_law_18 _ (List.mem_of_getElem? (i := 8) rfl)
theorem tL_law_739 : (739, a_ii (fun x y => x + y) 740) ∈ kL_law := qL_law_18 _ (List.mem_of_getElem? (i := 9) rfl)
theorem tL_law_740 : (740, a_iald 741) ∈ kL_law := qL_law_18 _ (List.mem_of_getElem? (i := 10) rfl)
theorem tL_law_741 : (741, a_aload 0 742) ∈ kL_law := qL_law_18 _ (List.mem_of_getElem? (i := 11) rfl)
theorem tL_law_742 : (742, a_iload 3 743) ∈ kL_law := qL_law_18 _ (List.mem_of_getElem? (i := 12) rfl)
theorem tL_law_743 : (743, a_i 2 744) ∈ kL_law := qL_law_18 _ (List.mem_of_getElem? (i := 13) rfl)
theorem tL_law_744 : (744, a_ii (fun x y => x + y) 745) ∈ kL_law := qL_law_18 _ (List.mem_of_getElem? (i := 14) rfl)
theorem tL_law_745 : (745, a_iald 746) ∈ kL_law := qL_law_18 _ (List.mem_of_getElem? (i := 15) rfl)
theorem tL_law_746 : (746, a_callV 12 178 3 749 0 0) ∈ kL_law := qL_law_18 _ (List.mem_of_getElem? (i := 16) rfl)
theorem tL_law_749 : (749, a_ic_eq 1224 752) ∈ kL_law := qL_law_18 _ (List.mem_of_getElem? (i := 17) rfl)
theorem tL_law_752 : (752, a_i 0 753) ∈ kL_law := qL_law_18 _ (List.mem_of_getElem? (i := 18) rfl)
theorem tL_law_753 : (753, a_iret true) ∈ kL_law := qL_law_18 _ (List.mem_of_getElem? (i := 19) rfl)
theorem tL_law_754 : (754, a_aload 1 755) ∈ kL_law := qL_law_18 _ (List.mem_of_getElem? (i := 20) rfl)
theorem tL_law_755 : (755, a_aload 0 756) ∈ kL_law := qL_law_18 _ (List.mem_of_getElem? (i := 21) rfl)
theorem tL_law_756 : (756, a_iload 3 757) ∈ kL_law := qL_law_18 _ (List.mem_of_getElem? (i := 22) rfl)
theorem tL_law_757 : (757, a_i 1 758) ∈ kL_law := qL_law_18 _ (List.mem_of_getElem? (i := 23) rfl)
theorem qL_law_19 : ∀ q ∈ kL_law_19, q ∈ kL_law := fun _ h => (List.mem_append_right _ (List.mem_append_right _ (List.mem_append_right _ (List.mem_append_right _ (List.mem_append_right _ (List.mem_append_right _ (List.mem_append_right _ (List.mem_append_right _ (List.mem_append_right _ (List.mem_append_right _ (List.mem_append_right _ (List.mem_append_right _ (List.mem_append_right _ (List.mem_append_right _ (List.mem_append_right _ (List.mem_append_right _ (List.mem_append_right _ (List.mem_append_right _ (List.mem_append_right _ (List.mem_append_left _ h))))))))))))))))))))
theorem tL_law_758 : (758, a_ii (fun x y => x + y) 759) ∈ kL_law := qL_law_19 _ (List.mem_of_getElem? (i := 0) rfl)
theorem tL_law_759 : (759, a_iald 760) ∈ kL_law := qL_law_19 _ (List.mem_of_getElem? (i := 1) rfl)
theorem tL_law_760 : (760, a_aload 0 761) ∈ kL_law := qL_law_19 _ (List.mem_of_getElem? (i := 2) rfl)
theorem tL_law_761 : (761, a_iload 3 762) ∈ kL_law := qL_law_19 _ (List.mem_of_getElem? (i := 3) rfl)
theorem tL_law_762 : (762, a_i 2 763) ∈ kL_law := qL_law_19 _ (List.mem_of_getElem? (i := 4) rfl)
theorem tL_law_763 : (763, a_ii (fun x y => x + y) 764) ∈ kL_law := qL_law_19 _ (List.mem_of_getElem? (i := 5) rfl)
theorem tL_law_764 : (764, a_iald 765) ∈ kL_law := qL_law_19 _ (List.mem_of_getElem? (i := 6) rfl)
theorem tL_law_765 : (765, a_aload 0 766) ∈ kL_law := qL_law_19 _ (List.mem_of_getElem? (i := 7) rfl)
theorem tL_law_766 : (766, a_iload 3 767) ∈ kL_law := qL_law_19 _ (List.mem_of_getElem? (i := 8) rfl)
theorem tL_law_767 : (767, a_i 3 768) ∈ kL_law := qL_law_19 _ (List.mem_of_getElem? (i := 9) rfl)
theorem tL_law_768 : (768, a_ii (fun x y => x + y) 769) ∈ kL_law := qL_law_19 _ (List.mem_of_getElem? (i := 10) rfl)
theorem tL_law_769 : (769, a_iald 770) ∈ kL_law := qL_law_19 _ (List.mem_of_getElem? (i := 11) rfl)
theorem tL_law_770 : (770, a_callV 11 108 4 773 0 0) ∈ kL_law := qL_law_19 _ (List.mem_of_getElem? (i := 12) rfl)
theorem tL_law_773 : (773, a_aload 2 774) ∈ kL_law := qL_law_19 _ (List.mem_of_getElem? (i := 13) rfl)
theorem tL_law_774 : (774, a_aload 0 775) ∈ kL_law := qL_law_19 _ (List.mem_of_getElem? (i := 14) rfl)
theorem tL_law_775 : (775, a_iload 3 776) ∈ kL_law := qL_law_19 _ (List.mem_of_getElem? (i := 15) rfl)
theorem tL_law_776 : (776, a_i 1 777) ∈ kL_law := qL_law_19 _ (List.mem_of_getElem? (i := 16) rfl)
theorem tL_law_777 : (777, a_ii (fun x y => x + y) 778) ∈ kL_law := qL_law_19 _ (List.mem_of_getElem? (i := 17) rfl)
theorem tL_law_778 : (778, a_iald 779) ∈ kL_law := qL_law_19 _ (List.mem_of_getElem? (i := 18) rfl)
theorem tL_law_779 : (779, a_aload 0 780) ∈ kL_law := qL_law_19 _ (List.mem_of_getElem? (i := 19) rfl)
theorem tL_law_780 : (780, a_iload 3 781) ∈ kL_law := qL_law_19 _ (List.mem_of_getElem? (i := 20) rfl)
theorem tL_law_781 : (781, a_i 2 782) ∈ kL_law := qL_law_19 _ (List.mem_of_getElem? (i := 21) rfl)
theorem tL_law_782 : (782, a_ii (fun x y => x + y) 783) ∈ kL_law := qL_law_19 _ (List.mem_of_getElem? (i := 22) rfl)
theorem tL_law_783 : (783, a_iald 784) ∈ kL_law := qL_law_19 _ (List.mem_of_getElem? (i := 23) rfl)
theorem qL_law_20 : ∀ q ∈ kL_law_20, q ∈ kL_law := fun _ h => (List.mem_append_right _ (List.mem_append_right _ (List.mem_append_right _ (List.mem_append_right _ (List.mem_append_right _ (List.mem_append_right _ (List.mem_append_right _ (List.mem_append_right _ (List.mem_append_right _ (List.mem_append_right _ (List.mem_append_right _ (List.mem_append_right _ (List.mem_append_right _ (List.mem_append_right _ (List.mem_append_right _ (List.mem_append_right _ (List.mem_append_right _ (List.mem_append_right _ (List.mem_append_right _ (List.mem_append_right _ (List.mem_append_left _ h)))))))))))))))))))))
theorem tL_law_784 : (784, a_aload 0 785) ∈ kL_law := qL_law_20 _ (List.mem_of_getElem? (i := 0) rfl)
theorem tL_law_785 : (785, a_iload 3 786) ∈ kL_law := qL_law_20 _ (List.mem_of_getElem? (i := 1) rfl)
theorem tL_law_786 : (786, a_i 3 787) ∈ kL_law := qL_law_20 _ (List.mem_of_getElem? (i := 2) rfl)
theorem tL_law_787 : (787, a_ii (fun x y => x + y) 788) ∈ kL_law := qL_law_20 _ (List.mem_of_getElem? (i := 3) rfl)
theorem tL_law_788 : (788, a_iald 789) ∈ kL_law := qL_law_20 _ (List.mem_of_getElem? (i := 4) rfl)
theorem tL_law_789 : (789, a_callV 12 182 4 792 0 0) ∈ kL_law := qL_law_20 _ (List.mem_of_getElem? (i := 5) rfl)
theorem tL_law_792 : (792, a_ic_eq 1224 795) ∈ kL_law := qL_law_20 _ (List.mem_of_getElem? (i := 6) rfl)
theorem tL_law_795 : (795, a_i 0 796) ∈ kL_law := qL_law_20 _ (List.mem_of_getElem? (i := 7) rfl)
theorem tL_law_796 : (796, a_iret true) ∈ kL_law := qL_law_20 _ (List.mem_of_getElem? (i := 8) rfl)
theorem tL_law_797 : (797, a_aload 1 798) ∈ kL_law := qL_law_20 _ (List.mem_of_getElem? (i := 9) rfl)
theorem tL_law_798 : (798, a_aload 0 799) ∈ kL_law := qL_law_20 _ (List.mem_of_getElem? (i := 10) rfl)
theorem tL_law_799 : (799, a_iload 3 800) ∈ kL_law := qL_law_20 _ (List.mem_of_getElem? (i := 11) rfl)
theorem tL_law_800 : (800, a_i 1 801) ∈ kL_law := qL_law_20 _ (List.mem_of_getElem? (i := 12) rfl)
theorem tL_law_801 : (801, a_ii (fun x y => x + y) 802) ∈ kL_law := qL_law_20 _ (List.mem_of_getElem? (i := 13) rfl)
theorem tL_law_802 : (802, a_iald 803) ∈ kL_law := qL_law_20 _ (List.mem_of_getElem? (i := 14) rfl)
theorem tL_law_803 : (803, a_aload 0 804) ∈ kL_law := qL_law_20 _ (List.mem_of_getElem? (i := 15) rfl)
theorem tL_law_804 : (804, a_iload 3 805) ∈ kL_law := qL_law_20 _ (List.mem_of_getElem? (i := 16) rfl)
theorem tL_law_805 : (805, a_i 2 806) ∈ kL_law := qL_law_20 _ (List.mem_of_getElem? (i := 17) rfl)
theorem tL_law_806 : (806, a_ii (fun x y => x + y) 807) ∈ kL_law := qL_law_20 _ (List.mem_of_getElem? (i := 18) rfl)
theorem tL_law_807 : (807, a_iald 808) ∈ kL_law := qL_law_20 _ (List.mem_of_getElem? (i := 19) rfl)
theorem tL_law_808 : (808, a_aload 0 809) ∈ kL_law := qL_law_20 _ (List.mem_of_getElem? (i := 20) rfl)
theorem tL_law_809 : (809, a_iload 3 810) ∈ kL_law := qL_law_20 _ (List.mem_of_getElem? (i := 21) rfl)
theorem tL_law_810 : (810, a_i 3 811) ∈ kL_law := qL_law_20 _ (List.mem_of_getElem? (i := 22) rfl)
theorem tL_law_811 : (811, a_ii (fun x y => x + y) 812) ∈ kL_law := qL_law_20 _ (List.mem_of_getElem? (i := 23) rfl)
theorem qL_law_21 : ∀ q ∈ kL_law_21, q ∈ kL_law := fun _ h => (List.mem_append_right _ (List.mem_append_right _ (List.mem_append_right _ (List.mem_append_right _ (List.mem_append_right _ (List.mem_append_right _ (List.mem_append_right _ (List.mem_append_right _ (List.mem_append_right _ (List.mem_append_right _ (List.mem_append_right _ (List.mem_append_right _ (List.mem_append_right _ (List.mem_append_right _ (List.mem_append_right _ (List.mem_append_right _ (List.mem_append_right _ (List.mem_append_right _ (List.mem_append_right _ (List.mem_append_right _ (List.mem_append_right _ (List.mem_append_left _ h))))))))))))))))))))))
theorem tL_law_812 : (812, a_iald 813) ∈ kL_law := qL_law_21 _ (List.mem_of_getElem? (i := 0) rfl)
theorem tL_law_813 : (813, a_callV 11 109 4 816 0 0) ∈ kL_law := qL_law_21 _ (List.mem_of_getElem? (i := 1) rfl)
theorem tL_law_816 : (816, a_aload 2 817) ∈ kL_law := qL_law_21 _ (List.mem_of_getElem? (i := 2) rfl)
theorem tL_law_817 : (817, a_aload 0 818) ∈ kL_law := qL_law_21 _ (List.mem_of_getElem? (i := 3) rfl)
theorem tL_law_818 : (818, a_iload 3 819) ∈ kL_law := qL_law_21 _ (List.mem_of_getElem? (i := 4) rfl)
theorem tL_law_819 : (819, a_i 1 820) ∈ kL_law := qL_law_21 _ (List.mem_of_getElem? (i := 5) rfl)
theorem tL_law_820 : (820, a_ii (fun x y => x + y) 821) ∈ kL_law := qL_law_21 _ (List.mem_of_getElem? (i := 6) rfl)
theorem tL_law_821 : (821, a_iald 822) ∈ kL_law := qL_law_21 _ (List.mem_of_getElem? (i := 7) rfl)
theorem tL_law_822 : (822, a_aload 0 823) ∈ kL_law := qL_law_21 _ (List.mem_of_getElem? (i := 8) rfl)
theorem tL_law_823 : (823, a_iload 3 824) ∈ kL_law := qL_law_21 _ (List.mem_of_getElem? (i := 9) rfl)
theorem tL_law_824 : (824, a_i 2 825) ∈ kL_law := qL_law_21 _ (List.mem_of_getElem? (i := 10) rfl)
theorem tL_law_825 : (825, a_ii (fun x y => x + y) 826) ∈ kL_law := qL_law_21 _ (List.mem_of_getElem? (i := 11) rfl)
theorem tL_law_826 : (826, a_iald 827) ∈ kL_law := qL_law_21 _ (List.mem_of_getElem? (i := 12) rfl)
theorem tL_law_827 : (827, a_aload 0 828) ∈ kL_law := qL_law_21 _ (List.mem_of_getElem? (i := 13) rfl)
theorem tL_law_828 : (828, a_iload 3 829) ∈ kL_law := qL_law_21 _ (List.mem_of_getElem? (i := 14) rfl)
theorem tL_law_829 : (829, a_i 3 830) ∈ kL_law := qL_law_21 _ (List.mem_of_getElem? (i := 15) rfl)
theorem tL_law_830 : (830, a_ii (fun x y => x + y) 831) ∈ kL_law := qL_law_21 _ (List.mem_of_getElem? (i := 16) rfl)
theorem tL_law_831 : (831, a_iald 832) ∈ kL_law := qL_law_21 _ (List.mem_of_getElem? (i := 17) rfl)
theorem tL_law_832 : (832, a_callV 12 183 4 835 0 0) ∈ kL_law := qL_law_21 _ (List.mem_of_getElem? (i := 18) rfl)
theorem tL_law_835 : (835, a_ic_eq 1224 838) ∈ kL_law := qL_law_21 _ (List.mem_of_getElem? (i := 19) rfl)
theorem tL_law_838 : (838, a_i 0 839) ∈ kL_law := qL_law_21 _ (List.mem_of_getElem? (i := 20) rfl)
theorem tL_law_839 : (839, a_iret true) ∈ kL_law := qL_law_21 _ (List.mem_of_getElem? (i := 21) rfl)
theorem tL_law_840 : (840, a_aload 1 841) ∈ kL_law := qL_law_21 _ (List.mem_of_getElem? (i := 22) rfl)
theorem tL_law_841 : (841, a_callV 11 110 1 844 0 0) ∈ kL_law := qL_law_21 _ (List.mem_of_getElem? (i := 23) rfl)
theorem qL_law_22 : ∀ q ∈ kL_law_22, q ∈ kL_law := fun _ h => (List.mem_append_right _ (List.mem_append_right _ (List.mem_append_right _ (List.mem_append_right _ (List.mem_append_right _ (List.mem_append_right _ (List.mem_append_right _ (List.mem_append_right _ (List.mem_append_right _ (List.mem_append_right _ (List.mem_append_right _ (List.mem_append_right _ (List.mem_append_right _ (List.mem_append_right _ (List.mem_append_right _ (List.mem_append_right _ (List.mem_append_right _ (List.mem_append_right _ (List.mem_append_right _ (List.mem_append_right _ (List.mem_append_right _ (List.mem_append_right _ (List.mem_append_left _ h)))))))))))))))))))))))
theorem tL_law_844 : (844, a_aload 2 845) ∈ kL_law := qL_law_22 _ (List.mem_of_getElem? (i := 0) rfl)
theorem tL_law_845 : (845, a_callV 12 185 1 848 0 0) ∈ kL_law := qL_law_22 _ (List.mem_of_getElem? (i := 1) rfl)
theorem tL_law_848 : (848, a_ic_eq 1224 851) ∈ kL_law := qL_law_22 _ (List.mem_of_getElem? (i := 2) rfl)
theorem tL_law_851 : (851, a_i 0 852) ∈ kL_law := qL_law_22 _ (List.mem_of_getElem? (i := 3) rfl)
theorem tL_law_852 : (852, a_iret true) ∈ kL_law := qL_law_22 _ (List.mem_of_getElem? (i := 4) rfl)
theorem tL_law_853 : (853, a_aload 1 854) ∈ kL_law := qL_law_22 _ (List.mem_of_getElem? (i := 5) rfl)
theorem tL_law_854 : (854, a_aload 0 855) ∈ kL_law := qL_law_22 _ (List.mem_of_getElem? (i := 6) rfl)
theorem tL_law_855 : (855, a_iload 3 856) ∈ kL_law := qL_law_22 _ (List.mem_of_getElem? (i := 7) rfl)
theorem tL_law_856 : (856, a_i 1 857) ∈ kL_law := qL_law_22 _ (List.mem_of_getElem? (i := 8) rfl)
theorem tL_law_857 : (857, a_ii (fun x y => x + y) 858) ∈ kL_law := qL_law_22 _ (List.mem_of_getElem? (i := 9) rfl)
theorem tL_law_858 : (858, a_iald 859) ∈ kL_law := qL_law_22 _ (List.mem_of_getElem? (i := 10) rfl)
theorem tL_law_859 : (859, a_callV 11 111 2 862 0 0) ∈ kL_law := qL_law_22 _ (List.mem_of_getElem? (i := 11) rfl)
theorem tL_law_862 : (862, a_aload 2 863) ∈ kL_law := qL_law_22 _ (List.mem_of_getElem? (i := 12) rfl)
theorem tL_law_863 : (863, a_aload 0 864) ∈ kL_law := qL_law_22 _ (List.mem_of_getElem? (i := 13) rfl)
theorem tL_law_864 : (864, a_iload 3 865) ∈ kL_law := qL_law_22 _ (List.mem_of_getElem? (i := 14) rfl)
theorem tL_law_865 : (865, a_i 1 866) ∈ kL_law := qL_law_22 _ (List.mem_of_getElem? (i := 15) rfl)
theorem tL_law_866 : (866, a_ii (fun x y => x + y) 867) ∈ kL_law := qL_law_22 _ (List.mem_of_getElem? (i := 16) rfl)
theorem tL_law_867 : (867, a_iald 868) ∈ kL_law := qL_law_22 _ (List.mem_of_getElem? (i := 17) rfl)
theorem tL_law_868 : (868, a_callV 12 186 2 871 0 0) ∈ kL_law := qL_law_22 _ (List.mem_of_getElem? (i := 18) rfl)
theorem tL_law_871 : (871, a_ic_eq 1224 874) ∈ kL_law := qL_law_22 _ (List.mem_of_getElem? (i := 19) rfl)
theorem tL_law_874 : (874, a_i 0 875) ∈ kL_law := qL_law_22 _ (List.mem_of_getElem? (i := 20) rfl)
theorem tL_law_875 : (875, a_iret true) ∈ kL_law := qL_law_22 _ (List.mem_of_getElem? (i := 21) rfl)
theorem tL_law_876 : (876, a_aload 1 877) ∈ kL_law := qL_law_22 _ (List.mem_of_getElem? (i := 22) rfl)
theorem tL_law_877 : (877, a_aload 0 878) ∈ kL_law := qL_law_22 _ (List.mem_of_getElem? (i := 23) rfl)
theorem qL_law_23 : ∀ q ∈ kL_law_23, q ∈ kL_law := fun _ h => (List.mem_append_right _ (List.mem_append_right _ (List.mem_append_right _ (List.mem_append_right _ (List.mem_append_right _ (List.mem_append_right _ (List.mem_append_right _ (List.mem_append_right _ (List.mem_append_right _ (List.mem_append_right _ (List.mem_append_right _ (List.mem_append_right _ (List.mem_append_right _ (List.mem_append_right _ (List.mem_append_right _ (List.mem_append_right _ (List.mem_append_right _ (List.mem_append_right _ (List.mem_append_right _ (List.mem_append_right _ (List.mem_append_right _ (List.mem_append_right _ (List.mem_append_right _ (List.mem_append_left _ h))))))))))))))))))))))))
theorem tL_law_878 : (878, a_iload 3 879) ∈ kL_law := qL_law_23 _ (List.mem_of_getElem? (i := 0) rfl)
theorem tL_law_879 : (879, a_i 1 880) ∈ kL_law := qL_law_23 _ (List.mem_of_getElem? (i := 1) rfl)
theorem tL_law_880 : (880, a_ii (fun x y => x + y) 881) ∈ kL_law := qL_law_23 _ (List.mem_of_getElem? (i := 2) rfl)
theorem tL_law_881 : (881, a_iald 882) ∈ kL_law := qL_law_23 _ (List.mem_of_getElem? (i := 3) rfl)
theorem tL_law_882 : (882, a_aload 0 883) ∈ kL_law := qL_law_23 _ (List.mem_of_getElem? (i := 4) rfl)
theorem tL_law_883 : (883, a_iload 3 884) ∈ kL_law := qL_law_23 _ (List.mem_of_getElem? (i := 5) rfl)
theorem tL_law_884 : (884, a_i 2 885) ∈ kL_law := qL_law_23 _ (List.mem_of_getElem? (i := 6) rfl)
theorem tL_law_885 : (885, a_ii (fun x y => x + y) 886) ∈ kL_law := qL_law_23 _ (List.mem_of_getElem? (i := 7) rfl)
theorem tL_law_886 : (886, a_iald 887) ∈ kL_law := qL_law_23 _ (List.mem_of_getElem? (i := 8) rfl)
theorem tL_law_887 : (887, a_callV 11 112 3 890 0 0) ∈ kL_law := qL_law_23 _ (List.mem_of_getElem? (i := 9) rfl)
theorem tL_law_890 : (890, a_aload 2 891) ∈ kL_law := qL_law_23 _ (List.mem_of_getElem? (i := 10) rfl)
theorem tL_law_891 : (891, a_aload 0 892) ∈ kL_law := qL_law_23 _ (List.mem_of_getElem? (i := 11) rfl)
theorem tL_law_892 : (892, a_iload 3 893) ∈ kL_law := qL_law_23 _ (List.mem_of_getElem? (i := 12) rfl)
theorem tL_law_893 : (893, a_i 1 894) ∈ kL_law := qL_law_23 _ (List.mem_of_getElem? (i := 13) rfl)
theorem tL_law_894 : (894, a_ii (fun x y => x + y) 895) ∈ kL_law := qL_law_23 _ (List.mem_of_getElem? (i := 14) rfl)
theorem tL_law_895 : (895, a_iald 896) ∈ kL_law := qL_law_23 _ (List.mem_of_getElem? (i := 15) rfl)
theorem tL_law_896 : (896, a_aload 0 897) ∈ kL_law := qL_law_23 _ (List.mem_of_getElem? (i := 16) rfl)
theorem tL_law_897 : (897, a_iload 3 898) ∈ kL_law := qL_law_23 _ (List.mem_of_getElem? (i := 17) rfl)
theorem tL_law_898 : (898, a_i 2 899) ∈ kL_law := qL_law_23 _ (List.mem_of_getElem? (i := 18) rfl)
theorem tL_law_899 : (899, a_ii (fun x y => x + y) 900) ∈ kL_law := qL_law_23 _ (List.mem_of_getElem? (i := 19) rfl)
theorem tL_law_900 : (900, a_iald 901) ∈ kL_law := qL_law_23 _ (List.mem_of_getElem? (i := 20) rfl)
theorem tL_law_901 : (901, a_callV 12 187 3 904 0 0) ∈ kL_law := qL_law_23 _ (List.mem_of_getElem? (i := 21) rfl)
theorem tL_law_904 : (904, a_ic_eq 1224 907) ∈ kL_law := qL_law_23 _ (List.mem_of_getElem? (i := 22) rfl)
theorem tL_law_907 : (907, a_i 0 908) ∈ kL_law := qL_law_23 _ (List.mem_of_getElem? (i := 23) rfl)
theorem qL_law_24 : ∀ q ∈ kL_law_24, q ∈ kL_law := fun _ h => (List.mem_append_right _ (List.mem_append_right _ (List.mem_append_right _ (List.mem_append_right _ (List.mem_append_right _ (List.mem_append_right _ (List.mem_append_right _ (List.mem_append_right _ (List.mem_append_right _ (List.mem_append_right _ (List.mem_append_right _ (List.mem_append_right _ (List.mem_append_right _ (List.mem_append_right _ (List.mem_append_right _ (List.mem_append_right _ (List.mem_append_right _ (List.mem_append_right _ (List.mem_append_right _ (List.mem_append_right _ (List.mem_append_right _ (List.mem_append_right _ (List.mem_append_right _ (List.mem_append_right _ (List.mem_append_left _ h)))))))))))))))))))))))))
theorem tL_law_908 : (908, a_iret true) ∈ kL_law := qL_law_24 _ (List.mem_of_getElem? (i := 0) rfl)
theorem tL_law_909 : (909, a_aload 1 910) ∈ kL_law := qL_law_24 _ (List.mem_of_getElem? (i := 1) rfl)
theorem tL_law_910 : (910, a_aload 0 911) ∈ kL_law := qL_law_24 _ (List.mem_of_getElem? (i := 2) rfl)
theorem tL_law_911 : (911, a_iload 3 912) ∈ kL_law := qL_law_24 _ (List.mem_of_getElem? (i := 3) rfl)
theorem tL_law_912 : (912, a_i 1 913) ∈ kL_law := qL_law_24 _ (List.mem_of_getElem? (i := 4) rfl)
theorem tL_law_913 : (913, a_ii (fun x y => x + y) 914) ∈ kL_law := qL_law_24 _ (List.mem_of_getElem? (i := 5) rfl)
theorem tL_law_914 : (914, a_iald 915) ∈ kL_law := qL_law_24 _ (List.mem_of_getElem? (i := 6) rfl)
theorem tL_law_915 : (915, a_callV 11 113 2 918 0 0) ∈ kL_law := qL_law_24 _ (List.mem_of_getElem? (i := 7) rfl)
theorem tL_law_918 : (918, a_aload 2 919) ∈ kL_law := qL_law_24 _ (List.mem_of_getElem? (i := 8) rfl)
theorem tL_law_919 : (919, a_aload 0 920) ∈ kL_law := qL_law_24 _ (List.mem_of_getElem? (i := 9) rfl)
theorem tL_law_920 : (920, a_iload 3 921) ∈ kL_law := qL_law_24 _ (List.mem_of_getElem? (i := 10) rfl)
theorem tL_law_921 : (921, a_i 1 922) ∈ kL_law := qL_law_24 _ (List.mem_of_getElem? (i := 11) rfl)
theorem tL_law_922 : (922, a_ii (fun x y => x + y) 923) ∈ kL_law := qL_law_24 _ (List.mem_of_getElem? (i := 12) rfl)
theorem tL_law_923 : (923, a_iald 924) ∈ kL_law := qL_law_24 _ (List.mem_of_getElem? (i := 13) rfl)
theorem tL_law_924 : (924, a_callV 12 191 2 927 0 0) ∈ kL_law := qL_law_24 _ (List.mem_of_getElem? (i := 14) rfl)
theorem tL_law_927 : (927, a_ic_eq 1224 930) ∈ kL_law := qL_law_24 _ (List.mem_of_getElem? (i := 15) rfl)
theorem tL_law_930 : (930, a_i 0 931) ∈ kL_law := qL_law_24 _ (List.mem_of_getElem? (i := 16) rfl)
theorem tL_law_931 : (931, a_iret true) ∈ kL_law := qL_law_24 _ (List.mem_of_getElem? (i := 17) rfl)
theorem tL_law_932 : (932, a_aload 1 933) ∈ kL_law := qL_law_24 _ (List.mem_of_getElem? (i := 18) rfl)
theorem tL_law_933 : (933, a_aload 0 934) ∈ kL_law := qL_law_24 _ (List.mem_of_getElem? (i := 19) rfl)
theorem tL_law_934 : (934, a_iload 3 935) ∈ kL_law := qL_law_24 _ (List.mem_of_getElem? (i := 20) rfl)
theorem tL_law_935 : (935, a_i 1 936) ∈ kL_law := qL_law_24 _ (List.mem_of_getElem? (i := 21) rfl)
theorem tL_law_936 : (936, a_ii (fun x y => x + y) 937) ∈ kL_law := qL_law_24 _ (List.mem_of_getElem? (i := 22) rfl)
theorem tL_law_937 : (937, a_iald 938) ∈ kL_law := qL_law_24 _ (List.mem_of_getElem? (i := 23) rfl)
theorem qL_law_25 : ∀ q ∈ kL_law_25, q ∈ kL_law := fun _ h => (List.mem_append_right _ (List.mem_append_right _ (List.mem_append_right _ (List.mem_append_right _ (List.mem_append_right _ (List.mem_append_right _ (List.mem_append_right _ (List.mem_append_right _ (List.mem_append_right _ (List.mem_append_right _ (List.mem_append_right _ (List.mem_append_right _ (List.mem_append_right _ (List.mem_append_right _ (List.mem_append_right _ (List.mem_append_right _ (List.mem_append_right _ (List.mem_append_right _ (List.mem_append_right _ (List.mem_append_right _ (List.mem_append_right _ (List.mem_append_right _ (List.mem_append_right _ (List.mem_append_right _ (List.mem_append_right _ (List.mem_append_left _ h))))))))))))))))))))))))))
theorem tL_law_938 : (938, a_callV 11 114 2 941 0 0) ∈ kL_law := qL_law_25 _ (List.mem_of_getElem? (i := 0) rfl)
theorem tL_law_941 : (941, a_aload 2 942) ∈ kL_law := qL_law_25 _ (List.mem_of_getElem? (i := 1) rfl)
theorem tL_law_942 : (942, a_aload 0 943) ∈ kL_law := qL_law_25 _ (List.mem_of_getElem? (i := 2) rfl)
theorem tL_law_943 : (943, a_iload 3 944) ∈ kL_law := qL_law_25 _ (List.mem_of_getElem? (i := 3) rfl)
theorem tL_law_944 : (944, a_i 1 945) ∈ kL_law := qL_law_25 _ (List.mem_of_getElem? (i := 4) rfl)
theorem tL_law_945 : (945, a_ii (fun x y => x + y) 946) ∈ kL_law := qL_law_25 _ (List.mem_of_getElem? (i := 5) rfl)
theorem tL_law_946 : (946, a_iald 947) ∈ kL_law := qL_law_25 _ (List.mem_of_getElem? (i := 6) rfl)
theorem tL_law_947 : (947, a_callV 12 194 2 950 0 0) ∈ kL_law := qL_law_25 _ (List.mem_of_getElem? (i := 7) rfl)
theorem tL_law_950 : (950, a_ic_eq 1224 953) ∈ kL_law := qL_law_25 _ (List.mem_of_getElem? (i := 8) rfl)
theorem tL_law_953 : (953, a_i 0 954) ∈ kL_law := qL_law_25 _ (List.mem_of_getElem? (i := 9) rfl)
theorem tL_law_954 : (954, a_iret true) ∈ kL_law := qL_law_25 _ (List.mem_of_getElem? (i := 10) rfl)
theorem tL_law_955 : (955, a_aload 1 956) ∈ kL_law := qL_law_25 _ (List.mem_of_getElem? (i := 11) rfl)
theorem tL_law_956 : (956, a_callV 11 115 1 959 0 0) ∈ kL_law := qL_law_25 _ (List.mem_of_getElem? (i := 12) rfl)
theorem tL_law_959 : (959, a_aload 2 960) ∈ kL_law := qL_law_25 _ (List.mem_of_getElem? (i := 13) rfl)
theorem tL_law_960 : (960, a_callV 12 196 1 963 0 0) ∈ kL_law := qL_law_25 _ (List.mem_of_getElem? (i := 14) rfl)
theorem tL_law_963 : (963, a_ic_eq 1224 966) ∈ kL_law := qL_law_25 _ (List.mem_of_getElem? (i := 15) rfl)
theorem tL_law_966 : (966, a_i 0 967) ∈ kL_law := qL_law_25 _ (List.mem_of_getElem? (i := 16) rfl)
theorem tL_law_967 : (967, a_iret true) ∈ kL_law := qL_law_25 _ (List.mem_of_getElem? (i := 17) rfl)
theorem tL_law_968 : (968, a_aload 1 969) ∈ kL_law := qL_law_25 _ (List.mem_of_getElem? (i := 18) rfl)
theorem tL_law_969 : (969, a_aload 0 970) ∈ kL_law := qL_law_25 _ (List.mem_of_getElem? (i := 19) rfl)
theorem tL_law_970 : (970, a_iload 3 971) ∈ kL_law := qL_law_25 _ (List.mem_of_getElem? (i := 20) rfl)
theorem tL_law_971 : (971, a_i 1 972) ∈ kL_law := qL_law_25 _ (List.mem_of_getElem? (i := 21) rfl)
theorem tL_law_972 : (972, a_ii (fun x y => x + y) 973) ∈ kL_law := qL_law_25 _ (List.mem_of_getElem? (i := 22) rfl)
theorem tL_law_973 : (973, a_iald 974) ∈ kL_law := qL_law_25 _ (List.mem_of_getElem? (i := 23) rfl)
theorem qL_law_26 : ∀ q ∈ kL_law_26, q ∈ kL_law := fun _ h => (List.mem_append_right _ (List.mem_append_right _ (List.mem_append_right _ (List.mem_append_right _ (List.mem_append_right _ (List.mem_append_right _ (List.mem_append_right _ (List.mem_append_right _ (List.mem_append_right _ (List.mem_append_right _ (List.mem_append_right _ (List.mem_append_right _ (List.mem_append_right _ (List.mem_append_right _ (List.mem_append_right _ (List.mem_append_right _ (List.mem_append_right _ (List.mem_append_right _ (List.mem_append_right _ (List.mem_append_right _ (List.mem_append_right _ (List.mem_append_right _ (List.mem_append_right _ (List.mem_append_right _ (List.mem_append_right _ (List.mem_append_right _ (List.mem_append_left _ h)))))))))))))))))))))))))))
theorem tL_law_974 : (974, a_callV 11 116 2 977 0 0) ∈ kL_law := qL_law_26 _ (List.mem_of_getElem? (i := 0) rfl)
theorem tL_law_977 : (977, a_aload 2 978) ∈ kL_law := qL_law_26 _ (List.mem_of_getElem? (i := 1) rfl)
theorem tL_law_978 : (978, a_aload 0 979) ∈ kL_law := qL_law_26 _ (List.mem_of_getElem? (i := 2) rfl)
theorem tL_law_979 : (979, a_iload 3 980) ∈ kL_law := qL_law_26 _ (List.mem_of_getElem? (i := 3) rfl)
theorem tL_law_980 : (980, a_i 1 981) ∈ kL_law := qL_law_26 _ (List.mem_of_getElem? (i := 4) rfl)
theorem tL_law_981 : (981, a_ii (fun x y => x + y) 982) ∈ kL_law := qL_law_26 _ (List.mem_of_getElem? (i := 5) rfl)
theorem tL_law_982 : (982, a_iald 983) ∈ kL_law := qL_law_26 _ (List.mem_of_getElem? (i := 6) rfl)
theorem tL_law_983 : (983, a_callV 12 197 2 986 0 0) ∈ kL_law := qL_law_26 _ (List.mem_of_getElem? (i := 7) rfl)
theorem tL_law_986 : (986, a_ic_eq 1224 989) ∈ kL_law := qL_law_26 _ (List.mem_of_getElem? (i := 8) rfl)
theorem tL_law_989 : (989, a_i 0 990) ∈ kL_law := qL_law_26 _ (List.mem_of_getElem? (i := 9) rfl)
theorem tL_law_990 : (990, a_iret true) ∈ kL_law := qL_law_26 _ (List.mem_of_getElem? (i := 10) rfl)
theorem tL_law_991 : (991, a_aload 1 992) ∈ kL_law := qL_law_26 _ (List.mem_of_getElem? (i := 11) rfl)
theorem tL_law_992 : (992, a_aload 0 993) ∈ kL_law := qL_law_26 _ (List.mem_of_getElem? (i := 12) rfl)
theorem tL_law_993 : (993, a_iload 3 994) ∈ kL_law := qL_law_26 _ (List.mem_of_getElem? (i := 13) rfl)
theorem tL_law_994 : (994, a_i 1 995) ∈ kL_law := qL_law_26 _ (List.mem_of_getElem? (i := 14) rfl)
theorem tL_law_995 : (995, a_ii (fun x y => x + y) 996) ∈ kL_law := qL_law_26 _ (List.mem_of_getElem? (i := 15) rfl)
theorem tL_law_996 : (996, a_iald 997) ∈ kL_law := qL_law_26 _ (List.mem_of_getElem? (i := 16) rfl)
theorem tL_law_997 : (997, a_aload 0 998) ∈ kL_law := qL_law_26 _ (List.mem_of_getElem? (i := 17) rfl)
theorem tL_law_998 : (998, a_iload 3 999) ∈ kL_law := qL_law_26 _ (List.mem_of_getElem? (i := 18) rfl)
theorem tL_law_999 : (999, a_i 2 1000) ∈ kL_law := qL_law_26 _ (List.mem_of_getElem? (i := 19) rfl)
theorem tL_law_1000 : (1000, a_ii (fun x y => x + y) 1001) ∈ kL_law := qL_law_26 _ (List.mem_of_getElem? (i := 20) rfl)
theorem tL_law_1001 : (1001, a_iald 1002) ∈ kL_law := qL_law_26 _ (List.mem_of_getElem? (i := 21) rfl)
theorem tL_law_1002 : (1002, a_callV 11 117 3 1005 0 0) ∈ kL_law := qL_law_26 _ (List.mem_of_getElem? (i := 22) rfl)
theorem tL_law_1005 : (1005, a_aload 2 1006) ∈ kL_law := qL_law_26 _ (List.mem_of_getElem? (i := 23) rfl)
theorem qL_law_27 : ∀ q ∈ kL_law_27, q ∈ kL_law := fun _ h => (List.mem_append_right _ (List.mem_append_right _ (List.mem_append_right _ (List.mem_append_right _ (List.mem_append_right _ (List.mem_append_right _ (List.mem_append_right _ (List.mem_append_right _ (List.mem_append_right _ (List.mem_append_right _ (List.mem_append_right _ (List.mem_append_right _ (List.mem_append_right _ (List.mem_append_right _ (List.mem_append_right _ (List.mem_append_right _ (List.mem_append_right _ (List.mem_append_right _ (List.mem_append_right _ (List.mem_append_right _ (List.mem_append_right _ (List.mem_append_right _ (List.mem_append_right _ (List.mem_append_right _ (List.mem_append_right _ (List.mem_append_right _ (List.mem_append_right _ (List.mem_append_left _ h))))))))))))))))))))))))))))
theorem tL_law_1006 : (1006, a_aload 0 1007) ∈ kL_law := qL_law_27 _ (List.mem_of_getElem? (i := 0) rfl)
theorem tL_law_1007 : (1007, a_iload 3 1008) ∈ kL_law := qL_law_27 _ (List.mem_of_getElem? (i := 1) rfl)
theorem tL_law_1008 : (1008, a_i 1 1009) ∈ kL_law := qL_law_27 _ (List.mem_of_getElem? (i := 2) rfl)
theorem tL_law_1009 : (1009, a_ii (fun x y => x + y) 1010) ∈ kL_law := qL_law_27 _ (List.mem_of_getElem? (i := 3) rfl)
theorem tL_law_1010 : (1010, a_iald 1011) ∈ kL_law := qL_law_27 _ (List.mem_of_getElem? (i := 4) rfl)
theorem tL_law_1011 : (1011, a_aload 0 1012) ∈ kL_law := qL_law_27 _ (List.mem_of_getElem? (i := 5) rfl)
theorem tL_law_1012 : (1012, a_iload 3 1013) ∈ kL_law := qL_law_27 _ (List.mem_of_getElem? (i := 6) rfl)
theorem tL_law_1013 : (1013, a_i 2 1014) ∈ kL_law := qL_law_27 _ (List.mem_of_getElem? (i := 7) rfl)
theorem tL_law_1014 : (1014, a_ii (fun x y => x + y) 1015) ∈ kL_law := qL_law_27 _ (List.mem_of_getElem? (i := 8) rfl)
theorem tL_law_1015 : (1015, a_iald 1016) ∈ kL_law := qL_law_27 _ (List.mem_of_getElem? (i := 9) rfl)
theorem tL_law_1016 : (1016, a_callV 12 200 3 1019 0 0) ∈ kL_law := qL_law_27 _ (List.mem_of_getElem? (i := 10) rfl)
theorem tL_law_1019 : (1019, a_ic_eq 1224 1022) ∈ kL_law := qL_law_27 _ (List.mem_of_getElem? (i := 11) rfl)
theorem tL_law_1022 : (1022, a_i 0 1023) ∈ kL_law := qL_law_27 _ (List.mem_of_getElem? (i := 12) rfl)
theorem tL_law_1023 : (1023, a_iret true) ∈ kL_law := qL_law_27 _ (List.mem_of_getElem? (i := 13) rfl)
theorem tL_law_1024 : (1024, a_aload 1 1025) ∈ kL_law := qL_law_27 _ (List.mem_of_getElem? (i := 14) rfl)
theorem tL_law_1025 : (1025, a_aload 0 1026) ∈ kL_law := qL_law_27 _ (List.mem_of_getElem? (i := 15) rfl)
theorem tL_law_1026 : (1026, a_iload 3 1027) ∈ kL_law := qL_law_27 _ (List.mem_of_getElem? (i := 16) rfl)
theorem tL_law_1027 : (1027, a_i 1 1028) ∈ kL_law := qL_law_27 _ (List.mem_of_getElem? (i := 17) rfl)
theorem tL_law_1028 : (1028, a_ii (fun x y => x + y) 1029) ∈ kL_law := qL_law_27 _ (List.mem_of_getElem? (i := 18) rfl)
theorem tL_law_1029 : (1029, a_iald 1030) ∈ kL_law := qL_law_27 _ (List.mem_of_getElem? (i := 19) rfl)
theorem tL_law_1030 : (1030, a_callV 11 118 2 1033 0 0) ∈ kL_law := qL_law_27 _ (List.mem_of_getElem? (i := 20) rfl)
theorem tL_law_1033 : (1033, a_aload 2 1034) ∈ kL_law := qL_law_27 _ (List.mem_of_getElem? (i := 21) rfl)
theorem tL_law_1034 : (1034, a_aload 0 1035) ∈ kL_law := qL_law_27 _ (List.mem_of_getElem? (i := 22) rfl)
theorem tL_law_1035 : (1035, a_iload 3 1036) ∈ kL_law := qL_law_27 _ (List.mem_of_getElem? (i := 23) rfl)
theorem qL_law_28 : ∀ q ∈ kL_law_28, q ∈ kL_law := fun _ h => (List.mem_append_right _ (List.mem_append_right _ (List.mem_append_right _ (List.mem_append_right _ (List.mem_append_right _ (List.mem_append_right _ (List.mem_append_right _ (List.mem_append_right _ (List.mem_append_right _ (List.mem_append_right _ (List.mem_append_right _ (List.mem_append_right _ (List.mem_append_right _ (List.mem_append_right _ (List.mem_append_right _ (List.mem_append_right _ (List.mem_append_right _ (List.mem_append_right _ (List.mem_append_right _ (List.mem_append_right _ (List.mem_append_right _ (List.mem_append_right _ (List.mem_append_right _ (List.mem_append_right _ (List.mem_append_right _ (List.mem_append_right _ (List.mem_append_right _ (List.mem_append_right _ (List.mem_append_left _ h)))))))))))))))))))))))))))))
theorem tL_law_1036 : (1036, a_i 1 1037) ∈ kL_law := qL_law_28 _ (List.mem_of_getElem? (i := 0) rfl)
theorem tL_law_1037 : (1037, a_ii (fun x y => x + y) 1038) ∈ kL_law := qL_law_28 _ (List.mem_of_getElem? (i := 1) rfl)
theorem tL_law_1038 : (1038, a_iald 1039) ∈ kL_law := qL_law_28 _ (List.mem_of_getElem? (i := 2) rfl)
theorem tL_law_1039 : (1039, a_callV 12 201 2 1042 0 0) ∈ kL_law := qL_law_28 _ (List.mem_of_getElem? (i := 3) rfl)
theorem tL_law_1042 : (1042, a_ic_eq 1224 1045) ∈ kL_law := qL_law_28 _ (List.mem_of_getElem? (i := 4) rfl)
theorem tL_law_1045 : (1045, a_i 0 1046) ∈ kL_law := qL_law_28 _ (List.mem_of_getElem? (i := 5) rfl)
theorem tL_law_1046 : (1046, a_iret true) ∈ kL_law := qL_law_28 _ (List.mem_of_getElem? (i := 6) rfl)
theorem tL_law_1047 : (1047, a_aload 1 1048) ∈ kL_law := qL_law_28 _ (List.mem_of_getElem? (i := 7) rfl)
theorem tL_law_1048 : (1048, a_aload 0 1049) ∈ kL_law := qL_law_28 _ (List.mem_of_getElem? (i := 8) rfl)
theorem tL_law_1049 : (1049, a_iload 3 1050) ∈ kL_law := qL_law_28 _ (List.mem_of_getElem? (i := 9) rfl)
theorem tL_law_1050 : (1050, a_i 1 1051) ∈ kL_law := qL_law_28 _ (List.mem_of_getElem? (i := 10) rfl)
theorem tL_law_1051 : (1051, a_ii (fun x y => x + y) 1052) ∈ kL_law := qL_law_28 _ (List.mem_of_getElem? (i := 11) rfl)
theorem tL_law_1052 : (1052, a_iald 1053) ∈ kL_law := qL_law_28 _ (List.mem_of_getElem? (i := 12) rfl)
theorem tL_law_1053 : (1053, a_callV 11 119 2 1056 0 0) ∈ kL_law := qL_law_28 _ (List.mem_of_getElem? (i := 13) rfl)
theorem tL_law_1056 : (1056, a_aload 2 1057) ∈ kL_law := qL_law_28 _ (List.mem_of_getElem? (i := 14) rfl)
theorem tL_law_1057 : (1057, a_aload 0 1058) ∈ kL_law := qL_law_28 _ (List.mem_of_getElem? (i := 15) rfl)
theorem tL_law_1058 : (1058, a_iload 3 1059) ∈ kL_law := qL_law_28 _ (List.mem_of_getElem? (i := 16) rfl)
theorem tL_law_1059 : (1059, a_i 1 1060) ∈ kL_law := qL_law_28 _ (List.mem_of_getElem? (i := 17) rfl)
theorem tL_law_1060 : (1060, a_ii (fun x y => x + y) 1061) ∈ kL_law := qL_law_28 _ (List.mem_of_getElem? (i := 18) rfl)
theorem tL_law_1061 : (1061, a_iald 1062) ∈ kL_law := qL_law_28 _ (List.mem_of_getElem? (i := 19) rfl)
theorem tL_law_1062 : (1062, a_callV 12 202 2 1065 0 0) ∈ kL_law := qL_law_28 _ (List.mem_of_getElem? (i := 20) rfl)
theorem tL_law_1065 : (1065, a_ic_eq 1224 1068) ∈ kL_law := qL_law_28 _ (List.mem_of_getElem? (i := 21) rfl)
theorem tL_law_1068 : (1068, a_i 0 1069) ∈ kL_law := qL_law_28 _ (List.mem_of_getElem? (i := 22) rfl)
theorem tL_law_1069 : (1069, a_iret true) ∈ kL_law := qL_law_28 _ (List.mem_of_getElem? (i := 23) rfl)
theorem qL_law_29 : ∀ q ∈ kL_law_29, q ∈ kL_law := fun _ h => (List.mem_append_right _ (List.mem_append_right _ (List.mem_append_right _ (List.mem_append_right _ (List.mem_append_right _ (List.mem_append_right _ (List.mem_append_right _ (List.mem_append_right _ (List.mem_append_right _ (List.mem_append_right _ (List.mem_append_right _ (List.mem_append_right _ (List.mem_append_right _ (List.mem_append_right _ (List.mem_append_right _ (List.mem_append_right _ (List.mem_append_right _ (List.mem_append_right _ (List.mem_append_right _ (List.mem_append_right _ (List.mem_append_right _ (List.mem_append_right _ (List.mem_append_right _ (List.mem_append_right _ (List.mem_append_right _ (List.mem_append_right _ (List.mem_append_right _ (List.mem_append_right _ (List.mem_append_right _ (List.mem_append_left _ h))))))))))))))))))))))))))))))
theorem tL_law_1070 : (1070, a_aload 1 1071) ∈ kL_law := qL_law_29 _ (List.mem_of_getElem? (i := 0) rfl)
theorem tL_law_1071 : (1071, a_callV 11 120 1 1074 0 0) ∈ kL_law := qL_law_29 _ (List.mem_of_getElem? (i := 1) rfl)
theorem tL_law_1074 : (1074, a_aload 2 1075) ∈ kL_law := qL_law_29 _ (List.mem_of_getElem? (i := 2) rfl)
theorem tL_law_1075 : (1075, a_callV 12 203 1 1078 0 0) ∈ kL_law := qL_law_29 _ (List.mem_of_getElem? (i := 3) rfl)
theorem tL_law_1078 : (1078, a_ic_eq 1224 1081) ∈ kL_law := qL_law_29 _ (List.mem_of_getElem? (i := 4) rfl)
theorem tL_law_1081 : (1081, a_i 0 1082) ∈ kL_law := qL_law_29 _ (List.mem_of_getElem? (i := 5) rfl)
theorem tL_law_1082 : (1082, a_iret true) ∈ kL_law := qL_law_29 _ (List.mem_of_getElem? (i := 6) rfl)
theorem tL_law_1083 : (1083, a_aload 1 1084) ∈ kL_law := qL_law_29 _ (List.mem_of_getElem? (i := 7) rfl)
theorem tL_law_1084 : (1084, a_aload 0 1085) ∈ kL_law := qL_law_29 _ (List.mem_of_getElem? (i := 8) rfl)
theorem tL_law_1085 : (1085, a_iload 3 1086) ∈ kL_law := qL_law_29 _ (List.mem_of_getElem? (i := 9) rfl)
theorem tL_law_1086 : (1086, a_i 1 1087) ∈ kL_law := qL_law_29 _ (List.mem_of_getElem? (i := 10) rfl)
theorem tL_law_1087 : (1087, a_ii (fun x y => x + y) 1088) ∈ kL_law := qL_law_29 _ (List.mem_of_getElem? (i := 11) rfl)
theorem tL_law_1088 : (1088, a_iald 1089) ∈ kL_law := qL_law_29 _ (List.mem_of_getElem? (i := 12) rfl)
theorem tL_law_1089 : (1089, a_callV 11 121 2 1092 0 0) ∈ kL_law := qL_law_29 _ (List.mem_of_getElem? (i := 13) rfl)
theorem tL_law_1092 : (1092, a_aload 2 1093) ∈ kL_law := qL_law_29 _ (List.mem_of_getElem? (i := 14) rfl)
theorem tL_law_1093 : (1093, a_aload 0 1094) ∈ kL_law := qL_law_29 _ (List.mem_of_getElem? (i := 15) rfl)
theorem tL_law_1094 : (1094, a_iload 3 1095) ∈ kL_law := qL_law_29 _ (List.mem_of_getElem? (i := 16) rfl)
theorem tL_law_1095 : (1095, a_i 1 1096) ∈ kL_law := qL_law_29 _ (List.mem_of_getElem? (i := 17) rfl)
theorem tL_law_1096 : (1096, a_ii (fun x y => x + y) 1097) ∈ kL_law := qL_law_29 _ (List.mem_of_getElem? (i := 18) rfl)
theorem tL_law_1097 : (1097, a_iald 1098) ∈ kL_law := qL_law_29 _ (List.mem_of_getElem? (i := 19) rfl)
theorem tL_law_1098 : (1098, a_callV 12 205 2 1101 0 0) ∈ kL_law := qL_law_29 _ (List.mem_of_getElem? (i := 20) rfl)
theorem tL_law_1101 : (1101, a_ic_eq 1224 1104) ∈ kL_law := qL_law_29 _ (List.mem_of_getElem? (i := 21) rfl)
theorem tL_law_1104 : (1104, a_i 0 1105) ∈ kL_law := qL_law_29 _ (List.mem_of_getElem? (i := 22) rfl)
theorem tL_law_1105 : (1105, a_iret true) ∈ kL_law := qL_law_29 _ (List.mem_of_getElem? (i := 23) rfl)
theorem qL_law_30 : ∀ q ∈ kL_law_30, q ∈ kL_law := fun _ h => (List.mem_append_right _ (List.mem_append_right _ (List.mem_append_right _ (List.mem_append_right _ (List.mem_append_right _ (List.mem_append_right _ (List.mem_append_right _ (List.mem_append_right _ (List.mem_append_right _ (List.mem_append_right _ (List.mem_append_right _ (List.mem_append_right _ (List.mem_append_right _ (List.mem_append_right _ (List.mem_append_right _ (List.mem_append_right _ (List.mem_append_right _ (List.mem_append_right _ (List.mem_append_right _ (List.mem_append_right _ (List.mem_append_right _ (List.mem_append_right _ (List.mem_append_right _ (List.mem_append_right _ (List.mem_append_right _ (List.mem_append_right _ (List.mem_append_right _ (List.mem_append_right _ (List.mem_append_right _ (List.mem_append_right _ (List.mem_append_left _ h)))))))))))))))))))))))))))))))
theorem tL_law_1106 : (1106, a_aload 1 1107) ∈ kL_law := qL_law_30 _ (List.mem_of_getElem? (i := 0) rfl)
theorem tL_law_1107 : (1107, a_aload 0 1108) ∈ kL_law := qL_law_30 _ (List.mem_of_getElem? (i := 1) rfl)
theorem tL_law_1108 : (1108, a_iload 3 1109) ∈ kL_law := qL_law_30 _ (List.mem_of_getElem? (i := 2) rfl)
theorem tL_law_1109 : (1109, a_i 1 1110) ∈ kL_law := qL_law_30 _ (List.mem_of_getElem? (i := 3) rfl)
theorem tL_law_1110 : (1110, a_ii (fun x y => x + y) 1111) ∈ kL_law := qL_law_30 _ (List.mem_of_getElem? (i := 4) rfl)
theorem tL_law_1111 : (1111, a_iald 1112) ∈ kL_law := qL_law_30 _ (List.mem_of_getElem? (i := 5) rfl)
theorem tL_law_1112 : (1112, a_aload 0 1113) ∈ kL_law := qL_law_30 _ (List.mem_of_getElem? (i := 6) rfl)
theorem tL_law_1113 : (1113, a_iload 3 1114) ∈ kL_law := qL_law_30 _ (List.mem_of_getElem? (i := 7) rfl)
theorem tL_law_1114 : (1114, a_i 2 1115) ∈ kL_law := qL_law_30 _ (List.mem_of_getElem? (i := 8) rfl)
theorem tL_law_1115 : (1115, a_ii (fun x y => x + y) 1116) ∈ kL_law := qL_law_30 _ (List.mem_of_getElem? (i := 9) rfl)
theorem tL_law_1116 : (1116, a_iald 1117) ∈ kL_law := qL_law_30 _ (List.mem_of_getElem? (i := 10) rfl)
theorem tL_law_1117 : (1117, a_callV 11 122 3 1120 0 0) ∈ kL_law := qL_law_30 _ (List.mem_of_getElem? (i := 11) rfl)
theorem tL_law_1120 : (1120, a_aload 2 1121) ∈ kL_law := qL_law_30 _ (List.mem_of_getElem? (i := 12) rfl)
theorem tL_law_1121 : (1121, a_aload 0 1122) ∈ kL_law := qL_law_30 _ (List.mem_of_getElem? (i := 13) rfl)
theorem tL_law_1122 : (1122, a_iload 3 1123) ∈ kL_law := qL_law_30 _ (List.mem_of_getElem? (i := 14) rfl)
theorem tL_law_1123 : (1123, a_i 1 1124) ∈ kL_law := qL_law_30 _ (List.mem_of_getElem? (i := 15) rfl)
theorem tL_law_1124 : (1124, a_ii (fun x y => x + y) 1125) ∈ kL_law := qL_law_30 _ (List.mem_of_getElem? (i := 16) rfl)
theorem tL_law_1125 : (1125, a_iald 1126) ∈ kL_law := qL_law_30 _ (List.mem_of_getElem? (i := 17) rfl)
theorem tL_law_1126 : (1126, a_aload 0 1127) ∈ kL_law := qL_law_30 _ (List.mem_of_getElem? (i := 18) rfl)
theorem tL_law_1127 : (1127, a_iload 3 1128) ∈ kL_law := qL_law_30 _ (List.mem_of_getElem? (i := 19) rfl)
theorem tL_law_1128 : (1128, a_i 2 1129) ∈ kL_law := qL_law_30 _ (List.mem_of_getElem? (i := 20) rfl)
theorem tL_law_1129 : (1129, a_ii (fun x y => x + y) 1130) ∈ kL_law := qL_law_30 _ (List.mem_of_getElem? (i := 21) rfl)
theorem tL_law_1130 : (1130, a_iald 1131) ∈ kL_law := qL_law_30 _ (List.mem_of_getElem? (i := 22) rfl)
theorem tL_law_1131 : (1131, a_callV 12 206 3 1134 0 0) ∈ kL_law := qL_law_30 _ (List.mem_of_getElem? (i := 23) rfl)
theorem qL_law_31 : ∀ q ∈ kL_law_31, q ∈ kL_law := fun _ h => (List.mem_append_right _ (List.mem_append_right _ (List.mem_append_right _ (List.mem_append_right _ (List.mem_append_right _ (List.mem_append_right _ (List.mem_append_right _ (List.mem_append_right _ (List.mem_append_right _ (List.mem_append_right _ (List.mem_append_right _ (List.mem_append_right _ (List.mem_append_right _ (List.mem_append_right _ (List.mem_append_right _ (List.mem_append_right _ (List.mem_append_right _ (List.mem_append_right _ (List.mem_append_right _ (List.mem_append_right _ (List.mem_append_right _ (List.mem_append_right _ (List.mem_append_right _ (List.mem_append_right _ (List.mem_append_right _ (List.mem_append_right _ (List.mem_append_right _ (List.mem_append_right _ (List.mem_append_right _ (List.mem_append_right _ (List.mem_append_right _ (List.mem_append_left _ h))))))))))))))))))))))))))))))))
theorem tL_law_1134 : (1134, a_ic_eq 1224 1137) ∈ kL_law := qL_law_31 _ (List.mem_of_getElem? (i := 0) rfl)
theorem tL_law_1137 : (1137, a_i 0 1138) ∈ kL_law := qL_law_31 _ (List.mem_of_getElem? (i := 1) rfl)
theorem tL_law_1138 : (1138, a_iret true) ∈ kL_law := qL_law_31 _ (List.mem_of_getElem? (i := 2) rfl)
theorem tL_law_1139 : (1139, a_aload 1 1140) ∈ kL_law := qL_law_31 _ (List.mem_of_getElem? (i := 3) rfl)
theorem tL_law_1140 : (1140, a_aload 0 1141) ∈ kL_law := qL_law_31 _ (List.mem_of_getElem? (i := 4) rfl)
theorem tL_law_1141 : (1141, a_iload 3 1142) ∈ kL_law := qL_law_31 _ (List.mem_of_getElem? (i := 5) rfl)
theorem tL_law_1142 : (1142, a_i 1 1143) ∈ kL_law := qL_law_31 _ (List.mem_of_getElem? (i := 6) rfl)
theorem tL_law_1143 : (1143, a_ii (fun x y => x + y) 1144) ∈ kL_law := qL_law_31 _ (List.mem_of_getElem? (i := 7) rfl)
theorem tL_law_1144 : (1144, a_iald 1145) ∈ kL_law := qL_law_31 _ (List.mem_of_getElem? (i := 8) rfl)
theorem tL_law_1145 : (1145, a_callV 11 123 2 1148 0 0) ∈ kL_law := qL_law_31 _ (List.mem_of_getElem? (i := 9) rfl)
theorem tL_law_1148 : (1148, a_aload 2 1149) ∈ kL_law := qL_law_31 _ (List.mem_of_getElem? (i := 10) rfl)
theorem tL_law_1149 : (1149, a_aload 0 1150) ∈ kL_law := qL_law_31 _ (List.mem_of_getElem? (i := 11) rfl)
theorem tL_law_1150 : (1150, a_iload 3 1151) ∈ kL_law := qL_law_31 _ (List.mem_of_getElem? (i := 12) rfl)
theorem tL_law_1151 : (1151, a_i 1 1152) ∈ kL_law := qL_law_31 _ (List.mem_of_getElem? (i := 13) rfl)
theorem tL_law_1152 : (1152, a_ii (fun x y => x + y) 1153) ∈ kL_law := qL_law_31 _ (List.mem_of_getElem? (i := 14) rfl)
theorem tL_law_1153 : (1153, a_iald 1154) ∈ kL_law := qL_law_31 _ (List.mem_of_getElem? (i := 15) rfl)
theorem tL_law_1154 : (1154, a_callV 12 209 2 1157 0 0) ∈ kL_law := qL_law_31 _ (List.mem_of_getElem? (i := 16) rfl)
theorem tL_law_1157 : (1157, a_ic_eq 1224 1160) ∈ kL_law := qL_law_31 _ (List.mem_of_getElem? (i := 17) rfl)
theorem tL_law_1160 : (1160, a_i 0 1161) ∈ kL_law := qL_law_31 _ (List.mem_of_getElem? (i := 18) rfl)
theorem tL_law_1161 : (1161, a_iret true) ∈ kL_law := qL_law_31 _ (List.mem_of_getElem? (i := 19) rfl)
theorem tL_law_1162 : (1162, a_aload 1 1163) ∈ kL_law := qL_law_31 _ (List.mem_of_getElem? (i := 20) rfl)
theorem tL_law_1163 : (1163, a_callV 11 124 1 1166 0 0) ∈ kL_law := qL_law_31 _ (List.mem_of_getElem? (i := 21) rfl)
theorem tL_law_1166 : (1166, a_aload 2 1167) ∈ kL_law := qL_law_31 _ (List.mem_of_getElem? (i := 22) rfl)
theorem tL_law_1167 : (1167, a_callV 12 210 1 1170 0 0) ∈ kL_law := qL_law_31 _ (List.mem_of_getElem? (i := 23) rfl)
theorem qL_law_32 : ∀ q ∈ kL_law_32, q ∈ kL_law := fun _ h => (List.mem_append_right _ (List.mem_append_right _ (List.mem_append_right _ (List.mem_append_right _ (List.mem_append_right _ (List.mem_append_right _ (List.mem_append_right _ (List.mem_append_right _ (List.mem_append_right _ (List.mem_append_right _ (List.mem_append_right _ (List.mem_append_right _ (List.mem_append_right _ (List.mem_append_right _ (List.mem_append_right _ (List.mem_append_right _ (List.mem_append_right _ (List.mem_append_right _ (List.mem_append_right _ (List.mem_append_right _ (List.mem_append_right _ (List.mem_append_right _ (List.mem_append_right _ (List.mem_append_right _ (List.mem_append_right _ (List.mem_append_right _ (List.mem_append_right _ (List.mem_append_right _ (List.mem_append_right _ (List.mem_append_right _ (List.mem_append_right _ (List.mem_append_right _ (List.mem_append_left _ h)))))))))))))))))))))))))))))))))
theorem tL_law_1170 : (1170, a_ic_eq 1224 1173) ∈ kL_law := qL_law_32 _ (List.mem_of_getElem? (i := 0) rfl)
theorem tL_law_1173 : (1173, a_i 0 1174) ∈ kL_law := qL_law_32 _ (List.mem_of_getElem? (i := 1) rfl)
theorem tL_law_1174 : (1174, a_iret true) ∈ kL_law := qL_law_32 _ (List.mem_of_getElem? (i := 2) rfl)
theorem tL_law_1175 : (1175, a_aload 1 1176) ∈ kL_law := qL_law_32 _ (List.mem_of_getElem? (i := 3) rfl)
theorem tL_law_1176 : (1176, a_callV 11 125 1 1179 0 0) ∈ kL_law := qL_law_32 _ (List.mem_of_getElem? (i := 4) rfl)
theorem tL_law_1179 : (1179, a_aload 2 1180) ∈ kL_law := qL_law_32 _ (List.mem_of_getElem? (i := 5) rfl)
theorem tL_law_1180 : (1180, a_callV 12 212 1 1183 0 0) ∈ kL_law := qL_law_32 _ (List.mem_of_getElem? (i := 6) rfl)
theorem tL_law_1183 : (1183, a_ic_eq 1224 1186) ∈ kL_law := qL_law_32 _ (List.mem_of_getElem? (i := 7) rfl)
theorem tL_law_1186 : (1186, a_i 0 1187) ∈ kL_law := qL_law_32 _ (List.mem_of_getElem? (i := 8) rfl)
theorem tL_law_1187 : (1187, a_iret true) ∈ kL_law := qL_law_32 _ (List.mem_of_getElem? (i := 9) rfl)
theorem tL_law_1188 : (1188, a_aload 1 1189) ∈ kL_law := qL_law_32 _ (List.mem_of_getElem? (i := 10) rfl)
theorem tL_law_1189 : (1189, a_callV 11 126 1 1192 0 0) ∈ kL_law := qL_law_32 _ (List.mem_of_getElem? (i := 11) rfl)
theorem tL_law_1192 : (1192, a_aload 2 1193) ∈ kL_law := qL_law_32 _ (List.mem_of_getElem? (i := 12) rfl)
theorem tL_law_1193 : (1193, a_callV 12 213 1 1196 0 0) ∈ kL_law := qL_law_32 _ (List.mem_of_getElem? (i := 13) rfl)
theorem tL_law_1196 : (1196, a_ic_eq 1224 1199) ∈ kL_law := qL_law_32 _ (List.mem_of_getElem? (i := 14) rfl)
theorem tL_law_1199 : (1199, a_i 0 1200) ∈ kL_law := qL_law_32 _ (List.mem_of_getElem? (i := 15) rfl)
theorem tL_law_1200 : (1200, a_iret true) ∈ kL_law := qL_law_32 _ (List.mem_of_getElem? (i := 16) rfl)
theorem tL_law_1201 : (1201, a_aload 1 1202) ∈ kL_law := qL_law_32 _ (List.mem_of_getElem? (i := 17) rfl)
theorem tL_law_1202 : (1202, a_aload 0 1203) ∈ kL_law := qL_law_32 _ (List.mem_of_getElem? (i := 18) rfl)
theorem tL_law_1203 : (1203, a_iload 3 1204) ∈ kL_law := qL_law_32 _ (List.mem_of_getElem? (i := 19) rfl)
theorem tL_law_1204 : (1204, a_i 1 1205) ∈ kL_law := qL_law_32 _ (List.mem_of_getElem? (i := 20) rfl)
theorem tL_law_1205 : (1205, a_ii (fun x y => x + y) 1206) ∈ kL_law := qL_law_32 _ (List.mem_of_getElem? (i := 21) rfl)
theorem tL_law_1206 : (1206, a_iald 1207) ∈ kL_law := qL_law_32 _ (List.mem_of_getElem? (i := 22) rfl)
theorem tL_law_1207 : (1207, a_callV 11 127 2 1210 0 0) ∈ kL_law := qL_law_32 _ (List.mem_of_getElem? (i := 23) rfl)
theorem qL_law_33 : ∀ q ∈ kL_law_33, q ∈ kL_law := fun _ h => (List.mem_append_right _ (List.mem_append_right _ (List.mem_append_right _ (List.mem_append_right _ (List.mem_append_right _ (List.mem_append_right _ (List.mem_append_right _ (List.mem_append_right _ (List.mem_append_right _ (List.mem_append_right _ (List.mem_append_right _ (List.mem_append_right _ (List.mem_append_right _ (List.mem_append_right _ (List.mem_append_right _ (List.mem_append_right _ (List.mem_append_right _ (List.mem_append_right _ (List.mem_append_right _ (List.mem_append_right _ (List.mem_append_right _ (List.mem_append_right _ (List.mem_append_right _ (List.mem_append_right _ (List.mem_append_right _ (List.mem_append_right _ (List.mem_append_right _ (List.mem_append_right _ (List.mem_append_right _ (List.mem_append_right _ (List.mem_append_right _ (List.mem_append_right _ (List.mem_append_right _ h)))))))))))))))))))))))))))))))))
theorem tL_law_1210 : (1210, a_aload 2 1211) ∈ kL_law := qL_law_33 _ (List.mem_of_getElem? (i := 0) rfl)
theorem tL_law_1211 : (1211, a_aload 0 1212) ∈ kL_law := qL_law_33 _ (List.mem_of_getElem? (i := 1) rfl)
theorem tL_law_1212 : (1212, a_iload 3 1213) ∈ kL_law := qL_law_33 _ (List.mem_of_getElem? (i := 2) rfl)
theorem tL_law_1213 : (1213, a_i 1 1214) ∈ kL_law := qL_law_33 _ (List.mem_of_getElem? (i := 3) rfl)
theorem tL_law_1214 : (1214, a_ii (fun x y => x + y) 1215) ∈ kL_law := qL_law_33 _ (List.mem_of_getElem? (i := 4) rfl)
theorem tL_law_1215 : (1215, a_iald 1216) ∈ kL_law := qL_law_33 _ (List.mem_of_getElem? (i := 5) rfl)
theorem tL_law_1216 : (1216, a_callV 12 214 2 1219 0 0) ∈ kL_law := qL_law_33 _ (List.mem_of_getElem? (i := 6) rfl)
theorem tL_law_1219 : (1219, a_ic_eq 1224 1222) ∈ kL_law := qL_law_33 _ (List.mem_of_getElem? (i := 7) rfl)
theorem tL_law_1222 : (1222, a_i 0 1223) ∈ kL_law := qL_law_33 _ (List.mem_of_getElem? (i := 8) rfl)
theorem tL_law_1223 : (1223, a_iret true) ∈ kL_law := qL_law_33 _ (List.mem_of_getElem? (i := 9) rfl)
theorem tL_law_1224 : (1224, a_iinc 3 5 1227) ∈ kL_law := qL_law_33 _ (List.mem_of_getElem? (i := 10) rfl)
theorem tL_law_1227 : (1227, a_goto 18) ∈ kL_law := qL_law_33 _ (List.mem_of_getElem? (i := 11) rfl)
theorem tL_law_1230 : (1230, a_i 1 1231) ∈ kL_law := qL_law_33 _ (List.mem_of_getElem? (i := 12) rfl)
theorem tL_law_1231 : (1231, a_iret true) ∈ kL_law := qL_law_33 _ (List.mem_of_getElem? (i := 13) rfl)
theorem oL_law : ∀ q ∈ kL_law, zSnd zty false RL cL_law 4 (some .boolean) false q := List.forall_mem_append.mpr ⟨oL_law_0, List.forall_mem_append.mpr ⟨oL_law_1, List.forall_mem_append.mpr ⟨oL_law_2, List.forall_mem_append.mpr ⟨oL_law_3, List.forall_mem_append.mpr ⟨oL_law_4, List.forall_mem_append.mpr ⟨oL_law_5, List.forall_mem_append.mpr ⟨oL_law_6, List.forall_mem_append.mpr ⟨oL_law_7, List.forall_mem_append.mpr ⟨oL_law_8, List.forall_mem_append.mpr ⟨oL_law_9, List.forall_mem_append.mpr ⟨oL_law_10, List.forall_mem_append.mpr ⟨oL_law_11, List.forall_mem_append.mpr ⟨oL_law_12, List.forall_mem_append.mpr ⟨oL_law_13, List.forall_mem_append.mpr ⟨oL_law_14, List.forall_mem_append.mpr ⟨oL_law_15, List.forall_mem_append.mpr ⟨oL_law_16, List.forall_mem_append.mpr ⟨oL_law_17, List.forall_mem_append.mpr ⟨oL_law_18, List.forall_mem_append.mpr ⟨oL_law_19, List.forall_mem_append.mpr ⟨oL_law_20, List.forall_mem_append.mpr ⟨oL_law_21, List.forall_mem_append.mpr ⟨oL_law_22, List.forall_mem_append.mpr ⟨oL_law_23, List.forall_mem_append.mpr ⟨oL_law_24, List.forall_mem_append.mpr ⟨oL_law_25, List.forall_mem_append.mpr ⟨oL_law_26, List.forall_mem_append.mpr ⟨oL_law_27, List.forall_mem_append.mpr ⟨oL_law_28, List.forall_mem_append.mpr ⟨oL_law_29, List.forall_mem_append.mpr ⟨oL_law_30, List.forall_mem_append.mpr ⟨oL_law_31, List.forall_mem_append.mpr ⟨oL_law_32, oL_law_33⟩⟩⟩⟩⟩⟩⟩⟩⟩⟩⟩⟩⟩⟩⟩⟩⟩⟩⟩⟩⟩⟩⟩⟩⟩⟩⟩⟩⟩⟩⟩⟩⟩
def zcd : List zD := [
  (true, true, kX0_init),
  (false, false, kX0_ofAll),
  (false, false, kX0_ofLine),
  (false, false, kX0_coverToken),
  (false, false, kX0_put),
  (true, true, kX1_init),
  (false, false, kX1_addBlock),
  (false, false, kX1_areBlocks),
  (false, false, kX1_addNet),
  (false, false, kX1_move),
  (false, false, kX1_placesOf),
  (false, false, kX1_wireOf),
  (false, false, kX1_wireOfAll),
  (false, false, kX1_span),
  (false, false, kX1_findLeast),
  (false, false, kX1_layFrom),
  (false, false, kX1_turnNetPlaces),
  (false, false, kX1_wireToCome),
  (false, false, kX1_swapWhileItHelps),
  (false, false, kX1_swapBest),
  (false, false, kX1_exchange),
  (true, true, kX2_init),
  (false, false, kX2_isRule),
  (false, false, kX2_changeRule),
  (false, false, kX2_load),
  (false, false, kX2_clock),
  (false, false, kX2_takes),
  (false, false, kX2_gateFor),
  (true, true, kX3_init),
  (true, true, kX4_init),
  (false, false, kX4_stickOne),
  (true, false, kX4_stickEachInItsLane),
  (false, false, kX4_runState),
  (false, false, kX4_runRow),
  (false, false, kX4_inAllLanes),
  (false, false, kX4_run),
  (false, false, kX4_stuck),
  (false, false, kX4_make),
  (false, false, kX4_gateOf),
  (false, false, kX4_unlike),
  (false, false, kX4_statesFrom),
  (false, false, kX4_statesShown),
  (true, true, kX5_init),
  (false, false, kX5_read),
  (false, false, kX5_readsSound),
  (false, false, kX5_takes),
  (false, false, kX5_takesLetter),
  (false, false, kX5_takesEnd),
  (false, false, kX5_takesToken),
  (false, false, kX5_valuesTaken),
  (false, false, kX5_kindOfSign),
  (true, true, kX6_init),
  (false, false, kX6_areRegisters),
  (false, false, kX6_restart),
  (false, false, kX6_take),
  (false, false, kX6_make),
  (false, false, kX6_gateOf),
  (false, false, kX6_turned),
  (false, false, kX6_both),
  (false, false, kX6_chosen),
  (true, true, kX7_init),
  (false, false, kX7_append),
  (true, true, kX8_init),
  (false, false, kX8_find),
  (false, false, kX8_findLine),
  (false, false, kX8_takeLatest),
  (false, false, kX8_latest),
  (false, false, kX8_nameOnWay),
  (true, true, kX9_init),
  (false, false, kX9_add),
  (false, false, kX9_make),
  (false, false, kX9_failsOf),
  (false, false, kX9_lanesFailing),
  (false, false, kX9_findAll),
  (false, false, kX9_leastSet),
  (false, false, kX9_foundBy),
  (false, false, kX9_thatCouldBe),
  (false, false, kX9_bestToPart),
  (false, false, kX9_greatestAlike),
  (false, false, kX9_bitNumber),
  (true, true, kX10_init),
  (false, false, kX10_hasLine),
  (false, false, kX10_forget),
  (false, false, kX10_become),
  (false, false, kX10_leanThroughWires),
  (false, false, kX10_leastInRing),
  (false, false, kX10_leastLacking),
  (false, false, kX10_putInOrder),
  (false, false, kX10_orderNext),
  (true, true, kX11_init),
  (false, false, kX11_write),
  (false, false, kX11_clear),
  (false, false, kX11_fault),
  (false, false, kX11_ring),
  (false, false, kX11_build),
  (false, false, kX11_line),
  (false, false, kX11_state),
  (false, false, kX11_step),
  (false, false, kX11_value),
  (false, false, kX11_truth),
  (false, false, kX11_ones),
  (false, false, kX11_start),
  (false, false, kX11_states),
  (false, false, kX11_differ),
  (false, false, kX11_touched),
  (false, false, kX11_gate),
  (false, false, kX11_rule),
  (false, false, kX11_cover),
  (false, false, kX11_arrival),
  (false, false, kX11_worst),
  (false, false, kX11_block),
  (false, false, kX11_net),
  (false, false, kX11_place),
  (false, false, kX11_wire),
  (false, false, kX11_least),
  (false, false, kX11_swap),
  (false, false, kX11_ends),
  (false, false, kX11_fails),
  (false, false, kX11_finds),
  (false, false, kX11_trial),
  (false, false, kX11_noTrials),
  (false, false, kX11_fewest),
  (false, false, kX11_see),
  (false, false, kX11_could),
  (false, false, kX11_parts),
  (false, false, kX11_keep),
  (false, false, kX11_back),
  (false, false, kX11_count),
  (false, false, kX11_isBelow),
  (false, false, kX11_isView),
  (false, false, kX11_mayHaveLine),
  (false, false, kX11_isWire),
  (false, false, kX11_hasBit),
  (false, false, kX11_leastRow),
  (false, false, kX11_tokenOf),
  (false, false, kX11_kindOf),
  (false, false, kX11_slotOf),
  (true, true, kX12_init),
  (false, false, kX12_in),
  (false, false, kX12_write),
  (false, false, kX12_clear),
  (false, false, kX12_takes),
  (false, false, kX12_read),
  (false, false, kX12_namesIn),
  (false, false, kX12_leans),
  (false, false, kX12_ringOf),
  (false, false, kX12_lackOf),
  (false, false, kX12_fault),
  (false, false, kX12_ring),
  (false, false, kX12_layOrder),
  (false, false, kX12_copyView),
  (false, false, kX12_reads),
  (false, false, kX12_build),
  (false, false, kX12_has),
  (false, false, kX12_uses),
  (false, false, kX12_line),
  (false, false, kX12_joined),
  (false, false, kX12_chosen),
  (false, false, kX12_used),
  (false, false, kX12_made),
  (false, false, kX12_layWires),
  (false, false, kX12_layRow),
  (false, false, kX12_told),
  (false, false, kX12_stateNow),
  (false, false, kX12_state),
  (false, false, kX12_step),
  (false, false, kX12_value),
  (false, false, kX12_truth),
  (false, false, kX12_ones),
  (false, false, kX12_start),
  (false, false, kX12_states),
  (false, false, kX12_differ),
  (false, false, kX12_touched),
  (false, false, kX12_gate),
  (false, false, kX12_rule),
  (false, false, kX12_less),
  (false, false, kX12_cost),
  (false, false, kX12_coverOf),
  (false, false, kX12_cover),
  (false, false, kX12_kindOf),
  (false, false, kX12_arrive),
  (false, false, kX12_layArrivals),
  (false, false, kX12_arrival),
  (false, false, kX12_worst),
  (false, false, kX12_blockAt),
  (false, false, kX12_block),
  (false, false, kX12_net),
  (false, false, kX12_place),
  (false, false, kX12_wireOf),
  (false, false, kX12_allWire),
  (false, false, kX12_tryNow),
  (false, false, kX12_wire),
  (false, false, kX12_isFree),
  (false, false, kX12_layLeast),
  (false, false, kX12_least),
  (false, false, kX12_change),
  (false, false, kX12_swap),
  (false, false, kX12_ends),
  (false, false, kX12_endsOf),
  (false, false, kX12_failsOf),
  (false, false, kX12_fails),
  (false, false, kX12_finds),
  (false, false, kX12_trial),
  (false, false, kX12_noTrials),
  (false, false, kX12_foundBy),
  (false, false, kX12_fewest),
  (false, false, kX12_see),
  (false, false, kX12_failsAt),
  (false, false, kX12_isSo),
  (false, false, kX12_could),
  (false, false, kX12_parts),
  (false, false, kX12_copyRest),
  (false, false, kX12_keep),
  (false, false, kX12_back),
  (false, false, kX12_count),
  (false, false, kJ6_numberOfLeadingZeros_0f7a4),
  (false, false, kJ6_numberOfTrailingZeros_0f7a4),
  (false, false, kJ6_bitCount_0f7a4),
  (false, false, kJ13_numberOfTrailingZeros_95d88),
  (false, false, kJ13_bitCount_95d88),
  (false, false, kJ7_fill_d0a16),
  (false, false, kJ7_fill_53178)]
def zpr_0 : List (zY × zD) := [((yX0_init, cX0_init, 1, none), (true, true, kX0_init)), ((yX0_ofAll, cX0_ofAll, 5, (some .int)), (false, false, kX0_ofAll)), ((yX0_ofLine, cX0_ofLine, 6, (some .int)), (false, false, kX0_ofLine)), ((yX0_coverToken, cX0_coverToken, 8, none), (false, false, kX0_coverToken)), ((yX0_put, cX0_put, 4, none), (false, false, kX0_put)), ((yX1_init, cX1_init, 1, none), (true, true, kX1_init)), ((yX1_addBlock, cX1_addBlock, 1, (some .int)), (false, false, kX1_addBlock)), ((yX1_areBlocks, cX1_areBlocks, 2, (some .boolean)), (false, false, kX1_areBlocks)), ((yX1_addNet, cX1_addNet, 2, (some .int)), (false, false, kX1_addNet)), ((yX1_move, cX1_move, 4, (some .int)), (false, false, kX1_move)), ((yX1_placesOf, cX1_placesOf, 4, (some .int)), (false, false, kX1_placesOf)), ((yX1_wireOf, cX1_wireOf, 2, (some .int)), (false, false, kX1_wireOf)), ((yX1_wireOfAll, cX1_wireOfAll, 3, (some .int)), (false, false, kX1_wireOfAll)), ((yX1_span, cX1_span, 6, (some .int)), (false, false, kX1_span)), ((yX1_findLeast, cX1_findLeast, 1, none), (false, false, kX1_findLeast)), ((yX1_layFrom, cX1_layFrom, 5, none), (false, false, kX1_layFrom)), ((yX1_turnNetPlaces, cX1_turnNetPlaces, 4, none), (false, false, kX1_turnNetPlaces)), ((yX1_wireToCome, cX1_wireToCome, 3, (some .int)), (false, false, kX1_wireToCome)), ((yX1_swapWhileItHelps, cX1_swapWhileItHelps, 2, (some .int)), (false, false, kX1_swapWhileItHelps)), ((yX1_swapBest, cX1_swapBest, 7, (some .boolean)), (false, false, kX1_swapBest)), ((yX1_exchange, cX1_exchange, 4, none), (false, false, kX1_exchange)), ((yX2_init, cX2_init, 1, none), (true, true, kX2_init)), ((yX2_isRule, cX2_isRule, 2, (some .boolean)), (false, false, kX2_isRule)), ((yX2_changeRule, cX2_changeRule, 4, (some .int)), (false, false, kX2_changeRule))]
theorem zpo_0 : ∀ q ∈ zpr_0, zOKm zty q.1 q.2 := List.forall_mem_cons.mpr ⟨⟨by decide +kernel, fun _ => rfl, oX0_init⟩, List.forall_mem_cons.mpr ⟨⟨by decide +kernel, (fun h => by cases h), oX0_ofAll⟩, List.forall_mem_cons.mpr ⟨⟨by decide +kernel, (fun h => by cases h), oX0_ofLine⟩, List.forall_mem_cons.mpr ⟨⟨by decide +kernel, (fun h => by cases h), oX0_coverToken⟩, List.forall_mem_cons.mpr ⟨⟨by decide +kernel, (fun h => by cases h), oX0_put⟩, List.forall_mem_cons.mpr ⟨⟨by decide +kernel, fun _ => rfl, oX1_init⟩, List.forall_mem_cons.mpr ⟨⟨by decide +kernel, (fun h => by cases h), oX1_addBlock⟩, List.forall_mem_cons.mpr ⟨⟨by decide +kernel, (fun h => by cases h), oX1_areBlocks⟩, List.forall_mem_cons.mpr ⟨⟨by decide +kernel, (fun h => by cases h), oX1_addNet⟩, List.forall_mem_cons.mpr ⟨⟨by decide +kernel, (fun h => by cases h), oX1_move⟩, List.forall_mem_cons.mpr ⟨⟨by decide +kernel, (fun h => by cases h), oX1_placesOf⟩, List.forall_mem_cons.mpr ⟨⟨by decide +kernel, (fun h => by cases h), oX1_wireOf⟩, List.forall_mem_cons.mpr ⟨⟨by decide +kernel, (fun h => by cases h), oX1_wireOfAll⟩, List.forall_mem_cons.mpr ⟨⟨by decide +kernel, (fun h => by cases h), oX1_span⟩, List.forall_mem_cons.mpr ⟨⟨by decide +kernel, (fun h => by cases h), oX1_findLeast⟩, List.forall_mem_cons.mpr ⟨⟨by decide +kernel, (fun h => by cases h), oX1_layFrom⟩, List.forall_mem_cons.mpr ⟨⟨by decide +kernel, (fun h => by cases h), oX1_turnNetPlaces⟩, List.forall_mem_cons.mpr ⟨⟨by decide +kernel, (fun h => by cases h), oX1_wireToCome⟩, List.forall_mem_cons.mpr ⟨⟨by decide +kernel, (fun h => by cases h), oX1_swapWhileItHelps⟩, List.forall_mem_cons.mpr ⟨⟨by decide +kernel, (fun h => by cases h), oX1_swapBest⟩, List.forall_mem_cons.mpr ⟨⟨by decide +kernel, (fun h => by cases h), oX1_exchange⟩, List.forall_mem_cons.mpr ⟨⟨by decide +kernel, fun _ => rfl, oX2_init⟩, List.forall_mem_cons.mpr ⟨⟨by decide +kernel, (fun h => by cases h), oX2_isRule⟩, List.forall_mem_cons.mpr ⟨⟨by decide +kernel, (fun h => by cases h), oX2_changeRule⟩, fun _ h => absurd h List.not_mem_nil⟩⟩⟩⟩⟩⟩⟩⟩⟩⟩⟩⟩⟩⟩⟩⟩⟩⟩⟩⟩⟩⟩⟩⟩
def zpr_1 : List (zY × zD) := [((yX2_load, cX2_load, 1, (some .int)), (false, false, kX2_load)), ((yX2_clock, cX2_clock, 1, (some .int)), (false, false, kX2_clock)), ((yX2_takes, cX2_takes, 3, (some .int)), (false, false, kX2_takes)), ((yX2_gateFor, cX2_gateFor, 1, (some .int)), (false, false, kX2_gateFor)), ((yX3_init, cX3_init, 1, none), (true, true, kX3_init)), ((yX4_init, cX4_init, 1, none), (true, true, kX4_init)), ((yX4_stickOne, cX4_stickOne, 3, none), (false, false, kX4_stickOne)), ((yX4_stickEachInItsLane, cX4_stickEachInItsLane, 2, none), (true, false, kX4_stickEachInItsLane)), ((yX4_runState, cX4_runState, 4, none), (false, false, kX4_runState)), ((yX4_runRow, cX4_runRow, 4, none), (false, false, kX4_runRow)), ((yX4_inAllLanes, cX4_inAllLanes, 1, (some .long)), (false, false, kX4_inAllLanes)), ((yX4_run, cX4_run, 6, none), (false, false, kX4_run)), ((yX4_stuck, cX4_stuck, 4, (some .long)), (false, false, kX4_stuck)), ((yX4_make, cX4_make, 6, (some .long)), (false, false, kX4_make)), ((yX4_gateOf, cX4_gateOf, 7, (some .long)), (false, false, kX4_gateOf)), ((yX4_unlike, cX4_unlike, 6, (some .long)), (false, false, kX4_unlike)), ((yX4_statesFrom, cX4_statesFrom, 8, (some .int)), (false, false, kX4_statesFrom)), ((yX4_statesShown, cX4_statesShown, 6, (some .int)), (false, false, kX4_statesShown)), ((yX5_init, cX5_init, 1, none), (true, true, kX5_init)), ((yX5_read, cX5_read, 3, (some .int)), (false, false, kX5_read)), ((yX5_readsSound, cX5_readsSound, 2, (some .boolean)), (false, false, kX5_readsSound)), ((yX5_takes, cX5_takes, 2, (some .boolean)), (false, false, kX5_takes)), ((yX5_takesLetter, cX5_takesLetter, 2, (some .boolean)), (false, false, kX5_takesLetter)), ((yX5_takesEnd, cX5_takesEnd, 1, (some .boolean)), (false, false, kX5_takesEnd))]
theorem zpo_1 : ∀ q ∈ zpr_1, zOKm zty q.1 q.2 := List.forall_mem_cons.mpr ⟨⟨by decide +kernel, (fun h => by cases h), oX2_load⟩, List.forall_mem_cons.mpr ⟨⟨by decide +kernel, (fun h => by cases h), oX2_clock⟩, List.forall_mem_cons.mpr ⟨⟨by decide +kernel, (fun h => by cases h), oX2_takes⟩, List.forall_mem_cons.mpr ⟨⟨by decide +kernel, (fun h => by cases h), oX2_gateFor⟩, List.forall_mem_cons.mpr ⟨⟨by decide +kernel, fun _ => rfl, oX3_init⟩, List.forall_mem_cons.mpr ⟨⟨by decide +kernel, fun _ => rfl, oX4_init⟩, List.forall_mem_cons.mpr ⟨⟨by decide +kernel, (fun h => by cases h), oX4_stickOne⟩, List.forall_mem_cons.mpr ⟨⟨by decide +kernel, (fun h => by cases h), oX4_stickEachInItsLane⟩, List.forall_mem_cons.mpr ⟨⟨by decide +kernel, (fun h => by cases h), oX4_runState⟩, List.forall_mem_cons.mpr ⟨⟨by decide +kernel, (fun h => by cases h), oX4_runRow⟩, List.forall_mem_cons.mpr ⟨⟨by decide +kernel, (fun h => by cases h), oX4_inAllLanes⟩, List.forall_mem_cons.mpr ⟨⟨by decide +kernel, (fun h => by cases h), oX4_run⟩, List.forall_mem_cons.mpr ⟨⟨by decide +kernel, (fun h => by cases h), oX4_stuck⟩, List.forall_mem_cons.mpr ⟨⟨by decide +kernel, (fun h => by cases h), oX4_make⟩, List.forall_mem_cons.mpr ⟨⟨by decide +kernel, (fun h => by cases h), oX4_gateOf⟩, List.forall_mem_cons.mpr ⟨⟨by decide +kernel, (fun h => by cases h), oX4_unlike⟩, List.forall_mem_cons.mpr ⟨⟨by decide +kernel, (fun h => by cases h), oX4_statesFrom⟩, List.forall_mem_cons.mpr ⟨⟨by decide +kernel, (fun h => by cases h), oX4_statesShown⟩, List.forall_mem_cons.mpr ⟨⟨by decide +kernel, fun _ => rfl, oX5_init⟩, List.forall_mem_cons.mpr ⟨⟨by decide +kernel, (fun h => by cases h), oX5_read⟩, List.forall_mem_cons.mpr ⟨⟨by decide +kernel, (fun h => by cases h), oX5_readsSound⟩, List.forall_mem_cons.mpr ⟨⟨by decide +kernel, (fun h => by cases h), oX5_takes⟩, List.forall_mem_cons.mpr ⟨⟨by decide +kernel, (fun h => by cases h), oX5_takesLetter⟩, List.forall_mem_cons.mpr ⟨⟨by decide +kernel, (fun h => by cases h), oX5_takesEnd⟩, fun _ h => absurd h List.not_mem_nil⟩⟩⟩⟩⟩⟩⟩⟩⟩⟩⟩⟩⟩⟩⟩⟩⟩⟩⟩⟩⟩⟩⟩⟩
def zpr_2 : List (zY × zD) := [((yX5_takesToken, cX5_takesToken, 3, (some .boolean)), (false, false, kX5_takesToken)), ((yX5_valuesTaken, cX5_valuesTaken, 1, (some .int)), (false, false, kX5_valuesTaken)), ((yX5_kindOfSign, cX5_kindOfSign, 1, (some .int)), (false, false, kX5_kindOfSign)), ((yX6_init, cX6_init, 1, none), (true, true, kX6_init)), ((yX6_areRegisters, cX6_areRegisters, 1, (some .boolean)), (false, false, kX6_areRegisters)), ((yX6_restart, cX6_restart, 1, none), (false, false, kX6_restart)), ((yX6_take, cX6_take, 8, (some .int)), (false, false, kX6_take)), ((yX6_make, cX6_make, 6, (some .int)), (false, false, kX6_make)), ((yX6_gateOf, cX6_gateOf, 4, (some .int)), (false, false, kX6_gateOf)), ((yX6_turned, cX6_turned, 1, (some .int)), (false, false, kX6_turned)), ((yX6_both, cX6_both, 2, (some .int)), (false, false, kX6_both)), ((yX6_chosen, cX6_chosen, 3, (some .int)), (false, false, kX6_chosen)), ((yX7_init, cX7_init, 1, none), (true, true, kX7_init)), ((yX7_append, cX7_append, 5, (some .int)), (false, false, kX7_append)), ((yX8_init, cX8_init, 1, none), (true, true, kX8_init)), ((yX8_find, cX8_find, 6, none), (false, false, kX8_find)), ((yX8_findLine, cX8_findLine, 8, none), (false, false, kX8_findLine)), ((yX8_takeLatest, cX8_takeLatest, 5, none), (false, false, kX8_takeLatest)), ((yX8_latest, cX8_latest, 4, (some .int)), (false, false, kX8_latest)), ((yX8_nameOnWay, cX8_nameOnWay, 6, (some .int)), (false, false, kX8_nameOnWay)), ((yX9_init, cX9_init, 1, none), (true, true, kX9_init)), ((yX9_add, cX9_add, 2, (some .int)), (false, false, kX9_add)), ((yX9_make, cX9_make, 8, none), (false, false, kX9_make)), ((yX9_failsOf, cX9_failsOf, 4, (some .int)), (false, false, kX9_failsOf))]
theorem zpo_2 : ∀ q ∈ zpr_2, zOKm zty q.1 q.2 := List.forall_mem_cons.mpr ⟨⟨by decide +kernel, (fun h => by cases h), oX5_takesToken⟩, List.forall_mem_cons.mpr ⟨⟨by decide +kernel, (fun h => by cases h), oX5_valuesTaken⟩, List.forall_mem_cons.mpr ⟨⟨by decide +kernel, (fun h => by cases h), oX5_kindOfSign⟩, List.forall_mem_cons.mpr ⟨⟨by decide +kernel, fun _ => rfl, oX6_init⟩, List.forall_mem_cons.mpr ⟨⟨by decide +kernel, (fun h => by cases h), oX6_areRegisters⟩, List.forall_mem_cons.mpr ⟨⟨by decide +kernel, (fun h => by cases h), oX6_restart⟩, List.forall_mem_cons.mpr ⟨⟨by decide +kernel, (fun h => by cases h), oX6_take⟩, List.forall_mem_cons.mpr ⟨⟨by decide +kernel, (fun h => by cases h), oX6_make⟩, List.forall_mem_cons.mpr ⟨⟨by decide +kernel, (fun h => by cases h), oX6_gateOf⟩, List.forall_mem_cons.mpr ⟨⟨by decide +kernel, (fun h => by cases h), oX6_turned⟩, List.forall_mem_cons.mpr ⟨⟨by decide +kernel, (fun h => by cases h), oX6_both⟩, List.forall_mem_cons.mpr ⟨⟨by decide +kernel, (fun h => by cases h), oX6_chosen⟩, List.forall_mem_cons.mpr ⟨⟨by decide +kernel, fun _ => rfl, oX7_init⟩, List.forall_mem_cons.mpr ⟨⟨by decide +kernel, (fun h => by cases h), oX7_append⟩, List.forall_mem_cons.mpr ⟨⟨by decide +kernel, fun _ => rfl, oX8_init⟩, List.forall_mem_cons.mpr ⟨⟨by decide +kernel, (fun h => by cases h), oX8_find⟩, List.forall_mem_cons.mpr ⟨⟨by decide +kernel, (fun h => by cases h), oX8_findLine⟩, List.forall_mem_cons.mpr ⟨⟨by decide +kernel, (fun h => by cases h), oX8_takeLatest⟩, List.forall_mem_cons.mpr ⟨⟨by decide +kernel, (fun h => by cases h), oX8_latest⟩, List.forall_mem_cons.mpr ⟨⟨by decide +kernel, (fun h => by cases h), oX8_nameOnWay⟩, List.forall_mem_cons.mpr ⟨⟨by decide +kernel, fun _ => rfl, oX9_init⟩, List.forall_mem_cons.mpr ⟨⟨by decide +kernel, (fun h => by cases h), oX9_add⟩, List.forall_mem_cons.mpr ⟨⟨by decide +kernel, (fun h => by cases h), oX9_make⟩, List.forall_mem_cons.mpr ⟨⟨by decide +kernel, (fun h => by cases h), oX9_failsOf⟩, fun _ h => absurd h List.not_mem_nil⟩⟩⟩⟩⟩⟩⟩⟩⟩⟩⟩⟩⟩⟩⟩⟩⟩⟩⟩⟩⟩⟩⟩⟩
def zpr_3 : List (zY × zD) := [((yX9_lanesFailing, cX9_lanesFailing, 5, (some .long)), (false, false, kX9_lanesFailing)), ((yX9_findAll, cX9_findAll, 6, (some .long)), (false, false, kX9_findAll)), ((yX9_leastSet, cX9_leastSet, 5, (some .int)), (false, false, kX9_leastSet)), ((yX9_foundBy, cX9_foundBy, 5, (some .long)), (false, false, kX9_foundBy)), ((yX9_thatCouldBe, cX9_thatCouldBe, 6, (some .long)), (false, false, kX9_thatCouldBe)), ((yX9_bestToPart, cX9_bestToPart, 9, (some .int)), (false, false, kX9_bestToPart)), ((yX9_greatestAlike, cX9_greatestAlike, 9, (some .int)), (false, false, kX9_greatestAlike)), ((yX9_bitNumber, cX9_bitNumber, 6, (some .int)), (false, false, kX9_bitNumber)), ((yX10_init, cX10_init, 1, none), (true, true, kX10_init)), ((yX10_hasLine, cX10_hasLine, 2, (some .boolean)), (false, false, kX10_hasLine)), ((yX10_forget, cX10_forget, 1, none), (false, false, kX10_forget)), ((yX10_become, cX10_become, 2, none), (false, false, kX10_become)), ((yX10_leanThroughWires, cX10_leanThroughWires, 3, none), (false, false, kX10_leanThroughWires)), ((yX10_leastInRing, cX10_leastInRing, 2, (some .int)), (false, false, kX10_leastInRing)), ((yX10_leastLacking, cX10_leastLacking, 2, (some .int)), (false, false, kX10_leastLacking)), ((yX10_putInOrder, cX10_putInOrder, 3, none), (false, false, kX10_putInOrder)), ((yX10_orderNext, cX10_orderNext, 2, none), (false, false, kX10_orderNext)), ((yX11_init, cX11_init, 1, none), (true, true, kX11_init)), ((yX11_write, cX11_write, 5, (some .int)), (false, false, kX11_write)), ((yX11_clear, cX11_clear, 3, (some .int)), (false, false, kX11_clear)), ((yX11_fault, cX11_fault, 2, (some .int)), (false, false, kX11_fault)), ((yX11_ring, cX11_ring, 3, (some .int)), (false, false, kX11_ring)), ((yX11_build, cX11_build, 2, (some .int)), (false, false, kX11_build)), ((yX11_line, cX11_line, 5, (some .int)), (false, false, kX11_line))]
theorem zpo_3 : ∀ q ∈ zpr_3, zOKm zty q.1 q.2 := List.forall_mem_cons.mpr ⟨⟨by decide +kernel, (fun h => by cases h), oX9_lanesFailing⟩, List.forall_mem_cons.mpr ⟨⟨by decide +kernel, (fun h => by cases h), oX9_findAll⟩, List.forall_mem_cons.mpr ⟨⟨by decide +kernel, (fun h => by cases h), oX9_leastSet⟩, List.forall_mem_cons.mpr ⟨⟨by decide +kernel, (fun h => by cases h), oX9_foundBy⟩, List.forall_mem_cons.mpr ⟨⟨by decide +kernel, (fun h => by cases h), oX9_thatCouldBe⟩, List.forall_mem_cons.mpr ⟨⟨by decide +kernel, (fun h => by cases h), oX9_bestToPart⟩, List.forall_mem_cons.mpr ⟨⟨by decide +kernel, (fun h => by cases h), oX9_greatestAlike⟩, List.forall_mem_cons.mpr ⟨⟨by decide +kernel, (fun h => by cases h), oX9_bitNumber⟩, List.forall_mem_cons.mpr ⟨⟨by decide +kernel, fun _ => rfl, oX10_init⟩, List.forall_mem_cons.mpr ⟨⟨by decide +kernel, (fun h => by cases h), oX10_hasLine⟩, List.forall_mem_cons.mpr ⟨⟨by decide +kernel, (fun h => by cases h), oX10_forget⟩, List.forall_mem_cons.mpr ⟨⟨by decide +kernel, (fun h => by cases h), oX10_become⟩, List.forall_mem_cons.mpr ⟨⟨by decide +kernel, (fun h => by cases h), oX10_leanThroughWires⟩, List.forall_mem_cons.mpr ⟨⟨by decide +kernel, (fun h => by cases h), oX10_leastInRing⟩, List.forall_mem_cons.mpr ⟨⟨by decide +kernel, (fun h => by cases h), oX10_leastLacking⟩, List.forall_mem_cons.mpr ⟨⟨by decide +kernel, (fun h => by cases h), oX10_putInOrder⟩, List.forall_mem_cons.mpr ⟨⟨by decide +kernel, (fun h => by cases h), oX10_orderNext⟩, List.forall_mem_cons.mpr ⟨⟨by decide +kernel, fun _ => rfl, oX11_init⟩, List.forall_mem_cons.mpr ⟨⟨by decide +kernel, (fun h => by cases h), oX11_write⟩, List.forall_mem_cons.mpr ⟨⟨by decide +kernel, (fun h => by cases h), oX11_clear⟩, List.forall_mem_cons.mpr ⟨⟨by decide +kernel, (fun h => by cases h), oX11_fault⟩, List.forall_mem_cons.mpr ⟨⟨by decide +kernel, (fun h => by cases h), oX11_ring⟩, List.forall_mem_cons.mpr ⟨⟨by decide +kernel, (fun h => by cases h), oX11_build⟩, List.forall_mem_cons.mpr ⟨⟨by decide +kernel, (fun h => by cases h), oX11_line⟩, fun _ h => absurd h List.not_mem_nil⟩⟩⟩⟩⟩⟩⟩⟩⟩⟩⟩⟩⟩⟩⟩⟩⟩⟩⟩⟩⟩⟩⟩⟩
def zpr_4 : List (zY × zD) := [((yX11_state, cX11_state, 3, (some .int)), (false, false, kX11_state)), ((yX11_step, cX11_step, 3, (some .int)), (false, false, kX11_step)), ((yX11_value, cX11_value, 2, (some .int)), (false, false, kX11_value)), ((yX11_truth, cX11_truth, 4, (some .int)), (false, false, kX11_truth)), ((yX11_ones, cX11_ones, 5, (some .int)), (false, false, kX11_ones)), ((yX11_start, cX11_start, 3, (some .int)), (false, false, kX11_start)), ((yX11_states, cX11_states, 1, (some .int)), (false, false, kX11_states)), ((yX11_differ, cX11_differ, 6, (some .int)), (false, false, kX11_differ)), ((yX11_touched, cX11_touched, 4, (some .int)), (false, false, kX11_touched)), ((yX11_gate, cX11_gate, 6, (some .int)), (false, false, kX11_gate)), ((yX11_rule, cX11_rule, 3, (some .int)), (false, false, kX11_rule)), ((yX11_cover, cX11_cover, 3, (some .int)), (false, false, kX11_cover)), ((yX11_arrival, cX11_arrival, 4, (some .int)), (false, false, kX11_arrival)), ((yX11_worst, cX11_worst, 5, (some .int)), (false, false, kX11_worst)), ((yX11_block, cX11_block, 1, (some .int)), (false, false, kX11_block)), ((yX11_net, cX11_net, 2, (some .int)), (false, false, kX11_net)), ((yX11_place, cX11_place, 3, (some .int)), (false, false, kX11_place)), ((yX11_wire, cX11_wire, 2, (some .int)), (false, false, kX11_wire)), ((yX11_least, cX11_least, 2, (some .int)), (false, false, kX11_least)), ((yX11_swap, cX11_swap, 1, (some .int)), (false, false, kX11_swap)), ((yX11_ends, cX11_ends, 3, (some .int)), (false, false, kX11_ends)), ((yX11_fails, cX11_fails, 3, (some .int)), (false, false, kX11_fails)), ((yX11_finds, cX11_finds, 6, (some .int)), (false, false, kX11_finds)), ((yX11_trial, cX11_trial, 2, (some .int)), (false, false, kX11_trial))]
theorem zpo_4 : ∀ q ∈ zpr_4, zOKm zty q.1 q.2 := List.forall_mem_cons.mpr ⟨⟨by decide +kernel, (fun h => by cases h), oX11_state⟩, List.forall_mem_cons.mpr ⟨⟨by decide +kernel, (fun h => by cases h), oX11_step⟩, List.forall_mem_cons.mpr ⟨⟨by decide +kernel, (fun h => by cases h), oX11_value⟩, List.forall_mem_cons.mpr ⟨⟨by decide +kernel, (fun h => by cases h), oX11_truth⟩, List.forall_mem_cons.mpr ⟨⟨by decide +kernel, (fun h => by cases h), oX11_ones⟩, List.forall_mem_cons.mpr ⟨⟨by decide +kernel, (fun h => by cases h), oX11_start⟩, List.forall_mem_cons.mpr ⟨⟨by decide +kernel, (fun h => by cases h), oX11_states⟩, List.forall_mem_cons.mpr ⟨⟨by decide +kernel, (fun h => by cases h), oX11_differ⟩, List.forall_mem_cons.mpr ⟨⟨by decide +kernel, (fun h => by cases h), oX11_touched⟩, List.forall_mem_cons.mpr ⟨⟨by decide +kernel, (fun h => by cases h), oX11_gate⟩, List.forall_mem_cons.mpr ⟨⟨by decide +kernel, (fun h => by cases h), oX11_rule⟩, List.forall_mem_cons.mpr ⟨⟨by decide +kernel, (fun h => by cases h), oX11_cover⟩, List.forall_mem_cons.mpr ⟨⟨by decide +kernel, (fun h => by cases h), oX11_arrival⟩, List.forall_mem_cons.mpr ⟨⟨by decide +kernel, (fun h => by cases h), oX11_worst⟩, List.forall_mem_cons.mpr ⟨⟨by decide +kernel, (fun h => by cases h), oX11_block⟩, List.forall_mem_cons.mpr ⟨⟨by decide +kernel, (fun h => by cases h), oX11_net⟩, List.forall_mem_cons.mpr ⟨⟨by decide +kernel, (fun h => by cases h), oX11_place⟩, List.forall_mem_cons.mpr ⟨⟨by decide +kernel, (fun h => by cases h), oX11_wire⟩, List.forall_mem_cons.mpr ⟨⟨by decide +kernel, (fun h => by cases h), oX11_least⟩, List.forall_mem_cons.mpr ⟨⟨by decide +kernel, (fun h => by cases h), oX11_swap⟩, List.forall_mem_cons.mpr ⟨⟨by decide +kernel, (fun h => by cases h), oX11_ends⟩, List.forall_mem_cons.mpr ⟨⟨by decide +kernel, (fun h => by cases h), oX11_fails⟩, List.forall_mem_cons.mpr ⟨⟨by decide +kernel, (fun h => by cases h), oX11_finds⟩, List.forall_mem_cons.mpr ⟨⟨by decide +kernel, (fun h => by cases h), oX11_trial⟩, fun _ h => absurd h List.not_mem_nil⟩⟩⟩⟩⟩⟩⟩⟩⟩⟩⟩⟩⟩⟩⟩⟩⟩⟩⟩⟩⟩⟩⟩⟩
def zpr_5 : List (zY × zD) := [((yX11_noTrials, cX11_noTrials, 2, (some .int)), (false, false, kX11_noTrials)), ((yX11_fewest, cX11_fewest, 4, (some .int)), (false, false, kX11_fewest)), ((yX11_see, cX11_see, 4, (some .int)), (false, false, kX11_see)), ((yX11_could, cX11_could, 4, (some .int)), (false, false, kX11_could)), ((yX11_parts, cX11_parts, 1, (some .int)), (false, false, kX11_parts)), ((yX11_keep, cX11_keep, 2, (some .int)), (false, false, kX11_keep)), ((yX11_back, cX11_back, 2, (some .int)), (false, false, kX11_back)), ((yX11_count, cX11_count, 2, (some .int)), (false, false, kX11_count)), ((yX11_isBelow, cX11_isBelow, 2, (some .boolean)), (false, false, kX11_isBelow)), ((yX11_isView, cX11_isView, 1, (some .boolean)), (false, false, kX11_isView)), ((yX11_mayHaveLine, cX11_mayHaveLine, 1, (some .boolean)), (false, false, kX11_mayHaveLine)), ((yX11_isWire, cX11_isWire, 1, (some .boolean)), (false, false, kX11_isWire)), ((yX11_hasBit, cX11_hasBit, 2, (some .boolean)), (false, false, kX11_hasBit)), ((yX11_leastRow, cX11_leastRow, 3, (some .int)), (false, false, kX11_leastRow)), ((yX11_tokenOf, cX11_tokenOf, 2, (some .int)), (false, false, kX11_tokenOf)), ((yX11_kindOf, cX11_kindOf, 1, (some .int)), (false, false, kX11_kindOf)), ((yX11_slotOf, cX11_slotOf, 1, (some .int)), (false, false, kX11_slotOf)), ((yX12_init, cX12_init, 2, none), (true, true, kX12_init)), ((yX12_in, cX12_in, 3, (some .boolean)), (false, false, kX12_in)), ((yX12_write, cX12_write, 6, (some .int)), (false, false, kX12_write)), ((yX12_clear, cX12_clear, 3, (some .int)), (false, false, kX12_clear)), ((yX12_takes, cX12_takes, 1, (some .int)), (false, false, kX12_takes)), ((yX12_read, cX12_read, 8, (some .int)), (false, false, kX12_read)), ((yX12_namesIn, cX12_namesIn, 6, (some .int)), (false, false, kX12_namesIn))]
theorem zpo_5 : ∀ q ∈ zpr_5, zOKm zty q.1 q.2 := List.forall_mem_cons.mpr ⟨⟨by decide +kernel, (fun h => by cases h), oX11_noTrials⟩, List.forall_mem_cons.mpr ⟨⟨by decide +kernel, (fun h => by cases h), oX11_fewest⟩, List.forall_mem_cons.mpr ⟨⟨by decide +kernel, (fun h => by cases h), oX11_see⟩, List.forall_mem_cons.mpr ⟨⟨by decide +kernel, (fun h => by cases h), oX11_could⟩, List.forall_mem_cons.mpr ⟨⟨by decide +kernel, (fun h => by cases h), oX11_parts⟩, List.forall_mem_cons.mpr ⟨⟨by decide +kernel, (fun h => by cases h), oX11_keep⟩, List.forall_mem_cons.mpr ⟨⟨by decide +kernel, (fun h => by cases h), oX11_back⟩, List.forall_mem_cons.mpr ⟨⟨by decide +kernel, (fun h => by cases h), oX11_count⟩, List.forall_mem_cons.mpr ⟨⟨by decide +kernel, (fun h => by cases h), oX11_isBelow⟩, List.forall_mem_cons.mpr ⟨⟨by decide +kernel, (fun h => by cases h), oX11_isView⟩, List.forall_mem_cons.mpr ⟨⟨by decide +kernel, (fun h => by cases h), oX11_mayHaveLine⟩, List.forall_mem_cons.mpr ⟨⟨by decide +kernel, (fun h => by cases h), oX11_isWire⟩, List.forall_mem_cons.mpr ⟨⟨by decide +kernel, (fun h => by cases h), oX11_hasBit⟩, List.forall_mem_cons.mpr ⟨⟨by decide +kernel, (fun h => by cases h), oX11_leastRow⟩, List.forall_mem_cons.mpr ⟨⟨by decide +kernel, (fun h => by cases h), oX11_tokenOf⟩, List.forall_mem_cons.mpr ⟨⟨by decide +kernel, (fun h => by cases h), oX11_kindOf⟩, List.forall_mem_cons.mpr ⟨⟨by decide +kernel, (fun h => by cases h), oX11_slotOf⟩, List.forall_mem_cons.mpr ⟨⟨by decide +kernel, fun _ => rfl, oX12_init⟩, List.forall_mem_cons.mpr ⟨⟨by decide +kernel, (fun h => by cases h), oX12_in⟩, List.forall_mem_cons.mpr ⟨⟨by decide +kernel, (fun h => by cases h), oX12_write⟩, List.forall_mem_cons.mpr ⟨⟨by decide +kernel, (fun h => by cases h), oX12_clear⟩, List.forall_mem_cons.mpr ⟨⟨by decide +kernel, (fun h => by cases h), oX12_takes⟩, List.forall_mem_cons.mpr ⟨⟨by decide +kernel, (fun h => by cases h), oX12_read⟩, List.forall_mem_cons.mpr ⟨⟨by decide +kernel, (fun h => by cases h), oX12_namesIn⟩, fun _ h => absurd h List.not_mem_nil⟩⟩⟩⟩⟩⟩⟩⟩⟩⟩⟩⟩⟩⟩⟩⟩⟩⟩⟩⟩⟩⟩⟩⟩
def zpr_6 : List (zY × zD) := [((yX12_leans, cX12_leans, 6, (some .int)), (false, false, kX12_leans)), ((yX12_ringOf, cX12_ringOf, 3, (some .int)), (false, false, kX12_ringOf)), ((yX12_lackOf, cX12_lackOf, 4, (some .int)), (false, false, kX12_lackOf)), ((yX12_fault, cX12_fault, 2, (some .int)), (false, false, kX12_fault)), ((yX12_ring, cX12_ring, 3, (some .int)), (false, false, kX12_ring)), ((yX12_layOrder, cX12_layOrder, 6, none), (false, false, kX12_layOrder)), ((yX12_copyView, cX12_copyView, 4, none), (false, false, kX12_copyView)), ((yX12_reads, cX12_reads, 2, (some .boolean)), (false, false, kX12_reads)), ((yX12_build, cX12_build, 3, (some .int)), (false, false, kX12_build)), ((yX12_has, cX12_has, 3, (some .boolean)), (false, false, kX12_has)), ((yX12_uses, cX12_uses, 6, (some .int)), (false, false, kX12_uses)), ((yX12_line, cX12_line, 4, (some .int)), (false, false, kX12_line)), ((yX12_joined, cX12_joined, 3, (some .int)), (false, false, kX12_joined)), ((yX12_chosen, cX12_chosen, 3, (some .int)), (false, false, kX12_chosen)), ((yX12_used, cX12_used, 2, (some .int)), (false, false, kX12_used)), ((yX12_made, cX12_made, 6, (some .int)), (false, false, kX12_made)), ((yX12_layWires, cX12_layWires, 5, none), (false, false, kX12_layWires)), ((yX12_layRow, cX12_layRow, 4, none), (false, false, kX12_layRow)), ((yX12_told, cX12_told, 3, (some .int)), (false, false, kX12_told)), ((yX12_stateNow, cX12_stateNow, 3, (some .int)), (false, false, kX12_stateNow)), ((yX12_state, cX12_state, 5, (some .int)), (false, false, kX12_state)), ((yX12_step, cX12_step, 4, (some .int)), (false, false, kX12_step)), ((yX12_value, cX12_value, 2, (some .int)), (false, false, kX12_value)), ((yX12_truth, cX12_truth, 4, (some .int)), (false, false, kX12_truth))]
theorem zpo_6 : ∀ q ∈ zpr_6, zOKm zty q.1 q.2 := List.forall_mem_cons.mpr ⟨⟨by decide +kernel, (fun h => by cases h), oX12_leans⟩, List.forall_mem_cons.mpr ⟨⟨by decide +kernel, (fun h => by cases h), oX12_ringOf⟩, List.forall_mem_cons.mpr ⟨⟨by decide +kernel, (fun h => by cases h), oX12_lackOf⟩, List.forall_mem_cons.mpr ⟨⟨by decide +kernel, (fun h => by cases h), oX12_fault⟩, List.forall_mem_cons.mpr ⟨⟨by decide +kernel, (fun h => by cases h), oX12_ring⟩, List.forall_mem_cons.mpr ⟨⟨by decide +kernel, (fun h => by cases h), oX12_layOrder⟩, List.forall_mem_cons.mpr ⟨⟨by decide +kernel, (fun h => by cases h), oX12_copyView⟩, List.forall_mem_cons.mpr ⟨⟨by decide +kernel, (fun h => by cases h), oX12_reads⟩, List.forall_mem_cons.mpr ⟨⟨by decide +kernel, (fun h => by cases h), oX12_build⟩, List.forall_mem_cons.mpr ⟨⟨by decide +kernel, (fun h => by cases h), oX12_has⟩, List.forall_mem_cons.mpr ⟨⟨by decide +kernel, (fun h => by cases h), oX12_uses⟩, List.forall_mem_cons.mpr ⟨⟨by decide +kernel, (fun h => by cases h), oX12_line⟩, List.forall_mem_cons.mpr ⟨⟨by decide +kernel, (fun h => by cases h), oX12_joined⟩, List.forall_mem_cons.mpr ⟨⟨by decide +kernel, (fun h => by cases h), oX12_chosen⟩, List.forall_mem_cons.mpr ⟨⟨by decide +kernel, (fun h => by cases h), oX12_used⟩, List.forall_mem_cons.mpr ⟨⟨by decide +kernel, (fun h => by cases h), oX12_made⟩, List.forall_mem_cons.mpr ⟨⟨by decide +kernel, (fun h => by cases h), oX12_layWires⟩, List.forall_mem_cons.mpr ⟨⟨by decide +kernel, (fun h => by cases h), oX12_layRow⟩, List.forall_mem_cons.mpr ⟨⟨by decide +kernel, (fun h => by cases h), oX12_told⟩, List.forall_mem_cons.mpr ⟨⟨by decide +kernel, (fun h => by cases h), oX12_stateNow⟩, List.forall_mem_cons.mpr ⟨⟨by decide +kernel, (fun h => by cases h), oX12_state⟩, List.forall_mem_cons.mpr ⟨⟨by decide +kernel, (fun h => by cases h), oX12_step⟩, List.forall_mem_cons.mpr ⟨⟨by decide +kernel, (fun h => by cases h), oX12_value⟩, List.forall_mem_cons.mpr ⟨⟨by decide +kernel, (fun h => by cases h), oX12_truth⟩, fun _ h => absurd h List.not_mem_nil⟩⟩⟩⟩⟩⟩⟩⟩⟩⟩⟩⟩⟩⟩⟩⟩⟩⟩⟩⟩⟩⟩⟩⟩
def zpr_7 : List (zY × zD) := [((yX12_ones, cX12_ones, 5, (some .int)), (false, false, kX12_ones)), ((yX12_start, cX12_start, 3, (some .int)), (false, false, kX12_start)), ((yX12_states, cX12_states, 6, (some .int)), (false, false, kX12_states)), ((yX12_differ, cX12_differ, 5, (some .int)), (false, false, kX12_differ)), ((yX12_touched, cX12_touched, 5, (some .int)), (false, false, kX12_touched)), ((yX12_gate, cX12_gate, 5, (some .int)), (false, false, kX12_gate)), ((yX12_rule, cX12_rule, 4, (some .int)), (false, false, kX12_rule)), ((yX12_less, cX12_less, 2, (some .int)), (false, false, kX12_less)), ((yX12_cost, cX12_cost, 9, none), (false, false, kX12_cost)), ((yX12_coverOf, cX12_coverOf, 6, (some .int)), (false, false, kX12_coverOf)), ((yX12_cover, cX12_cover, 5, (some .int)), (false, false, kX12_cover)), ((yX12_kindOf, cX12_kindOf, 1, (some .int)), (false, false, kX12_kindOf)), ((yX12_arrive, cX12_arrive, 9, none), (false, false, kX12_arrive)), ((yX12_layArrivals, cX12_layArrivals, 4, none), (false, false, kX12_layArrivals)), ((yX12_arrival, cX12_arrival, 4, (some .int)), (false, false, kX12_arrival)), ((yX12_worst, cX12_worst, 7, (some .int)), (false, false, kX12_worst)), ((yX12_blockAt, cX12_blockAt, 3, (some .int)), (false, false, kX12_blockAt)), ((yX12_block, cX12_block, 2, (some .int)), (false, false, kX12_block)), ((yX12_net, cX12_net, 4, (some .int)), (false, false, kX12_net)), ((yX12_place, cX12_place, 5, (some .int)), (false, false, kX12_place)), ((yX12_wireOf, cX12_wireOf, 9, (some .int)), (false, false, kX12_wireOf)), ((yX12_allWire, cX12_allWire, 3, (some .int)), (false, false, kX12_allWire)), ((yX12_tryNow, cX12_tryNow, 2, none), (false, false, kX12_tryNow)), ((yX12_wire, cX12_wire, 2, (some .int)), (false, false, kX12_wire))]
theorem zpo_7 : ∀ q ∈ zpr_7, zOKm zty q.1 q.2 := List.forall_mem_cons.mpr ⟨⟨by decide +kernel, (fun h => by cases h), oX12_ones⟩, List.forall_mem_cons.mpr ⟨⟨by decide +kernel, (fun h => by cases h), oX12_start⟩, List.forall_mem_cons.mpr ⟨⟨by decide +kernel, (fun h => by cases h), oX12_states⟩, List.forall_mem_cons.mpr ⟨⟨by decide +kernel, (fun h => by cases h), oX12_differ⟩, List.forall_mem_cons.mpr ⟨⟨by decide +kernel, (fun h => by cases h), oX12_touched⟩, List.forall_mem_cons.mpr ⟨⟨by decide +kernel, (fun h => by cases h), oX12_gate⟩, List.forall_mem_cons.mpr ⟨⟨by decide +kernel, (fun h => by cases h), oX12_rule⟩, List.forall_mem_cons.mpr ⟨⟨by decide +kernel, (fun h => by cases h), oX12_less⟩, List.forall_mem_cons.mpr ⟨⟨by decide +kernel, (fun h => by cases h), oX12_cost⟩, List.forall_mem_cons.mpr ⟨⟨by decide +kernel, (fun h => by cases h), oX12_coverOf⟩, List.forall_mem_cons.mpr ⟨⟨by decide +kernel, (fun h => by cases h), oX12_cover⟩, List.forall_mem_cons.mpr ⟨⟨by decide +kernel, (fun h => by cases h), oX12_kindOf⟩, List.forall_mem_cons.mpr ⟨⟨by decide +kernel, (fun h => by cases h), oX12_arrive⟩, List.forall_mem_cons.mpr ⟨⟨by decide +kernel, (fun h => by cases h), oX12_layArrivals⟩, List.forall_mem_cons.mpr ⟨⟨by decide +kernel, (fun h => by cases h), oX12_arrival⟩, List.forall_mem_cons.mpr ⟨⟨by decide +kernel, (fun h => by cases h), oX12_worst⟩, List.forall_mem_cons.mpr ⟨⟨by decide +kernel, (fun h => by cases h), oX12_blockAt⟩, List.forall_mem_cons.mpr ⟨⟨by decide +kernel, (fun h => by cases h), oX12_block⟩, List.forall_mem_cons.mpr ⟨⟨by decide +kernel, (fun h => by cases h), oX12_net⟩, List.forall_mem_cons.mpr ⟨⟨by decide +kernel, (fun h => by cases h), oX12_place⟩, List.forall_mem_cons.mpr ⟨⟨by decide +kernel, (fun h => by cases h), oX12_wireOf⟩, List.forall_mem_cons.mpr ⟨⟨by decide +kernel, (fun h => by cases h), oX12_allWire⟩, List.forall_mem_cons.mpr ⟨⟨by decide +kernel, (fun h => by cases h), oX12_tryNow⟩, List.forall_mem_cons.mpr ⟨⟨by decide +kernel, (fun h => by cases h), oX12_wire⟩, fun _ h => absurd h List.not_mem_nil⟩⟩⟩⟩⟩⟩⟩⟩⟩⟩⟩⟩⟩⟩⟩⟩⟩⟩⟩⟩⟩⟩⟩⟩
def zpr_8 : List (zY × zD) := [((yX12_isFree, cX12_isFree, 5, (some .boolean)), (false, false, kX12_isFree)), ((yX12_layLeast, cX12_layLeast, 5, (some .int)), (false, false, kX12_layLeast)), ((yX12_least, cX12_least, 3, (some .int)), (false, false, kX12_least)), ((yX12_change, cX12_change, 4, none), (false, false, kX12_change)), ((yX12_swap, cX12_swap, 9, (some .int)), (false, false, kX12_swap)), ((yX12_ends, cX12_ends, 3, (some .int)), (false, false, kX12_ends)), ((yX12_endsOf, cX12_endsOf, 4, (some .int)), (false, false, kX12_endsOf)), ((yX12_failsOf, cX12_failsOf, 5, (some .int)), (false, false, kX12_failsOf)), ((yX12_fails, cX12_fails, 3, (some .int)), (false, false, kX12_fails)), ((yX12_finds, cX12_finds, 3, (some .int)), (false, false, kX12_finds)), ((yX12_trial, cX12_trial, 2, (some .int)), (false, false, kX12_trial)), ((yX12_noTrials, cX12_noTrials, 2, (some .int)), (false, false, kX12_noTrials)), ((yX12_foundBy, cX12_foundBy, 5, (some .long)), (false, false, kX12_foundBy)), ((yX12_fewest, cX12_fewest, 10, (some .int)), (false, false, kX12_fewest)), ((yX12_see, cX12_see, 4, (some .int)), (false, false, kX12_see)), ((yX12_failsAt, cX12_failsAt, 3, (some .int)), (false, false, kX12_failsAt)), ((yX12_isSo, cX12_isSo, 4, (some .boolean)), (false, false, kX12_isSo)), ((yX12_could, cX12_could, 4, (some .int)), (false, false, kX12_could)), ((yX12_parts, cX12_parts, 8, (some .int)), (false, false, kX12_parts)), ((yX12_copyRest, cX12_copyRest, 4, none), (false, false, kX12_copyRest)), ((yX12_keep, cX12_keep, 1, (some .int)), (false, false, kX12_keep)), ((yX12_back, cX12_back, 1, (some .int)), (false, false, kX12_back)), ((yX12_count, cX12_count, 2, (some .int)), (false, false, kX12_count)), ((yJ6_numberOfLeadingZeros_0f7a4, cJ6_numberOfLeadingZeros_0f7a4, 2, (some .int)), (false, false, kJ6_numberOfLeadingZeros_0f7a4))]
theorem zpo_8 : ∀ q ∈ zpr_8, zOKm zty q.1 q.2 := List.forall_mem_cons.mpr ⟨⟨by decide +kernel, (fun h => by cases h), oX12_isFree⟩, List.forall_mem_cons.mpr ⟨⟨by decide +kernel, (fun h => by cases h), oX12_layLeast⟩, List.forall_mem_cons.mpr ⟨⟨by decide +kernel, (fun h => by cases h), oX12_least⟩, List.forall_mem_cons.mpr ⟨⟨by decide +kernel, (fun h => by cases h), oX12_change⟩, List.forall_mem_cons.mpr ⟨⟨by decide +kernel, (fun h => by cases h), oX12_swap⟩, List.forall_mem_cons.mpr ⟨⟨by decide +kernel, (fun h => by cases h), oX12_ends⟩, List.forall_mem_cons.mpr ⟨⟨by decide +kernel, (fun h => by cases h), oX12_endsOf⟩, List.forall_mem_cons.mpr ⟨⟨by decide +kernel, (fun h => by cases h), oX12_failsOf⟩, List.forall_mem_cons.mpr ⟨⟨by decide +kernel, (fun h => by cases h), oX12_fails⟩, List.forall_mem_cons.mpr ⟨⟨by decide +kernel, (fun h => by cases h), oX12_finds⟩, List.forall_mem_cons.mpr ⟨⟨by decide +kernel, (fun h => by cases h), oX12_trial⟩, List.forall_mem_cons.mpr ⟨⟨by decide +kernel, (fun h => by cases h), oX12_noTrials⟩, List.forall_mem_cons.mpr ⟨⟨by decide +kernel, (fun h => by cases h), oX12_foundBy⟩, List.forall_mem_cons.mpr ⟨⟨by decide +kernel, (fun h => by cases h), oX12_fewest⟩, List.forall_mem_cons.mpr ⟨⟨by decide +kernel, (fun h => by cases h), oX12_see⟩, List.forall_mem_cons.mpr ⟨⟨by decide +kernel, (fun h => by cases h), oX12_failsAt⟩, List.forall_mem_cons.mpr ⟨⟨by decide +kernel, (fun h => by cases h), oX12_isSo⟩, List.forall_mem_cons.mpr ⟨⟨by decide +kernel, (fun h => by cases h), oX12_could⟩, List.forall_mem_cons.mpr ⟨⟨by decide +kernel, (fun h => by cases h), oX12_parts⟩, List.forall_mem_cons.mpr ⟨⟨by decide +kernel, (fun h => by cases h), oX12_copyRest⟩, List.forall_mem_cons.mpr ⟨⟨by decide +kernel, (fun h => by cases h), oX12_keep⟩, List.forall_mem_cons.mpr ⟨⟨by decide +kernel, (fun h => by cases h), oX12_back⟩, List.forall_mem_cons.mpr ⟨⟨by decide +kernel, (fun h => by cases h), oX12_count⟩, List.forall_mem_cons.mpr ⟨⟨by decide +kernel, (fun h => by cases h), oJ6_numberOfLeadingZeros_0f7a4⟩, fun _ h => absurd h List.not_mem_nil⟩⟩⟩⟩⟩⟩⟩⟩⟩⟩⟩⟩⟩⟩⟩⟩⟩⟩⟩⟩⟩⟩⟩⟩
def zpr_9 : List (zY × zD) := [((yJ6_numberOfTrailingZeros_0f7a4, cJ6_numberOfTrailingZeros_0f7a4, 2, (some .int)), (false, false, kJ6_numberOfTrailingZeros_0f7a4)), ((yJ6_bitCount_0f7a4, cJ6_bitCount_0f7a4, 1, (some .int)), (false, false, kJ6_bitCount_0f7a4)), ((yJ13_numberOfTrailingZeros_95d88, cJ13_numberOfTrailingZeros_95d88, 3, (some .int)), (false, false, kJ13_numberOfTrailingZeros_95d88)), ((yJ13_bitCount_95d88, cJ13_bitCount_95d88, 2, (some .int)), (false, false, kJ13_bitCount_95d88)), ((yJ7_fill_d0a16, cJ7_fill_d0a16, 5, none), (false, false, kJ7_fill_d0a16)), ((yJ7_fill_53178, cJ7_fill_53178, 4, none), (false, false, kJ7_fill_53178))]
theorem zpo_9 : ∀ q ∈ zpr_9, zOKm zty q.1 q.2 := List.forall_mem_cons.mpr ⟨⟨by decide +kernel, (fun h => by cases h), oJ6_numberOfTrailingZeros_0f7a4⟩, List.forall_mem_cons.mpr ⟨⟨by decide +kernel, (fun h => by cases h), oJ6_bitCount_0f7a4⟩, List.forall_mem_cons.mpr ⟨⟨by decide +kernel, (fun h => by cases h), oJ13_numberOfTrailingZeros_95d88⟩, List.forall_mem_cons.mpr ⟨⟨by decide +kernel, (fun h => by cases h), oJ13_bitCount_95d88⟩, List.forall_mem_cons.mpr ⟨⟨by decide +kernel, (fun h => by cases h), oJ7_fill_d0a16⟩, List.forall_mem_cons.mpr ⟨⟨by decide +kernel, (fun h => by cases h), oJ7_fill_53178⟩, fun _ h => absurd h List.not_mem_nil⟩⟩⟩⟩⟩⟩
set_option maxRecDepth 100000 in
theorem zpr_eq : zty.zip zcd = zpr_0 ++ (zpr_1 ++ (zpr_2 ++ (zpr_3 ++ (zpr_4 ++ (zpr_5 ++ (zpr_6 ++ (zpr_7 ++ (zpr_8 ++ (zpr_9))))))))) := rfl
theorem zall (k : Nat) (y : zY) (c : zD) (hy : zty[k]? = some y) (hc : zcd[k]? = some c) : zOKm zty y c := by
  have h : (zty.zip zcd)[k]? = some (y, c) := List.getElem?_zip_eq_some.mpr ⟨hy, hc⟩
  rw [zpr_eq] at h
  have hh : ∀ q ∈ zpr_0 ++ (zpr_1 ++ (zpr_2 ++ (zpr_3 ++ (zpr_4 ++ (zpr_5 ++ (zpr_6 ++ (zpr_7 ++ (zpr_8 ++ (zpr_9))))))))), zOKm zty q.1 q.2 := List.forall_mem_append.mpr ⟨zpo_0, List.forall_mem_append.mpr ⟨zpo_1, List.forall_mem_append.mpr ⟨zpo_2, List.forall_mem_append.mpr ⟨zpo_3, List.forall_mem_append.mpr ⟨zpo_4, List.forall_mem_append.mpr ⟨zpo_5, List.forall_mem_append.mpr ⟨zpo_6, List.forall_mem_append.mpr ⟨zpo_7, List.forall_mem_append.mpr ⟨zpo_8, zpo_9⟩⟩⟩⟩⟩⟩⟩⟩⟩
  exact hh (y, c) (List.mem_of_getElem? h)
