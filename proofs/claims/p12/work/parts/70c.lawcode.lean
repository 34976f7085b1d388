theorem dL_law_0 : decode cL_law 0 = .ok (.new 7, 3) := dq_187 (by decide +kernel)
theorem dL_law_3 : decode cL_law 3 = .ok (.dup, 1) := dq_89 (by decide +kernel)
theorem dL_law_4 : decode cL_law 4 = .ok (.invokespecial 9, 3) := dq_183 (by decide +kernel)
theorem dL_law_7 : decode cL_law 7 = .ok (.astore_n 1, 1) := dq_76 (by decide +kernel)
theorem dL_law_8 : decode cL_law 8 = .ok (.new 10, 3) := dq_187 (by decide +kernel)
theorem dL_law_11 : decode cL_law 11 = .ok (.dup, 1) := dq_89 (by decide +kernel)
theorem dL_law_12 : decode cL_law 12 = .ok (.invokespecial 12, 3) := dq_183 (by decide +kernel)
theorem dL_law_15 : decode cL_law 15 = .ok (.astore_n 2, 1) := dq_77 (by decide +kernel)
theorem dL_law_16 : decode cL_law 16 = .ok (.iconst 0, 1) := dq_3 (by decide +kernel)
theorem dL_law_17 : decode cL_law 17 = .ok (.istore_n 3, 1) := dq_62 (by decide +kernel)
theorem dL_law_18 : decode cL_law 18 = .ok (.iload_n 3, 1) := dq_29 (by decide +kernel)
theorem dL_law_19 : decode cL_law 19 = .ok (.aload_n 0, 1) := dq_42 (by decide +kernel)
theorem dL_law_20 : decode cL_law 20 = .ok (.arraylength, 1) := dq_190 (by decide +kernel)
theorem dL_law_21 : decode cL_law 21 = .ok (.bipush 7, 2) := dq_16 (by decide +kernel)
theorem dL_law_23 : decode cL_law 23 = .ok (.isub, 1) := dq_100 (by decide +kernel)
theorem dL_law_24 : decode cL_law 24 = .ok (.if_icmp .gt 1438, 3) := dq_163 (by decide +kernel)
theorem dL_law_27 : decode cL_law 27 = .ok (.aload_n 0, 1) := dq_42 (by decide +kernel)
theorem dL_law_28 : decode cL_law 28 = .ok (.iload_n 3, 1) := dq_29 (by decide +kernel)
theorem dL_law_29 : decode cL_law 29 = .ok (.iaload, 1) := dq_46 (by decide +kernel)
theorem dL_law_30 : decode cL_law 30 = .ok (.bipush 63, 2) := dq_16 (by decide +kernel)
theorem dL_law_32 : decode cL_law 32 = .ok (.iand, 1) := dq_126 (by decide +kernel)
theorem dL_law_33 : decode cL_law 33 = .ok (.tableswitch 1423 0 37 #[167, 190, 203, 216, 239, 282, 325, 358, 391, 424, 447, 470, 493, 536, 569, 602, 625, 668, 691, 734, 787, 850, 883, 906, 949, 1012, 1055, 1088, 1111, 1164, 1197, 1220, 1295, 1318, 1331, 1354, 1377, 1400], 167) := by decide +kernel
theorem dL_law_200 : decode cL_law 200 = .ok (.aload_n 1, 1) := dq_43 (by decide +kernel)
theorem dL_law_201 : decode cL_law 201 = .ok (.aload_n 0, 1) := dq_42 (by decide +kernel)
theorem dL_law_202 : decode cL_law 202 = .ok (.iload_n 3, 1) := dq_29 (by decide +kernel)
theorem dL_law_203 : decode cL_law 203 = .ok (.iconst 1, 1) := dq_4 (by decide +kernel)
theorem dL_law_204 : decode cL_law 204 = .ok (.iadd, 1) := dq_96 (by decide +kernel)
theorem dL_law_205 : decode cL_law 205 = .ok (.iaload, 1) := dq_46 (by decide +kernel)
theorem dL_law_206 : decode cL_law 206 = .ok (.invokevirtual 13, 3) := dq_182 (by decide +kernel)
theorem dL_law_209 : decode cL_law 209 = .ok (.pop, 1) := dq_87 (by decide +kernel)
theorem dL_law_210 : decode cL_law 210 = .ok (.aload_n 2, 1) := dq_44 (by decide +kernel)
theorem dL_law_211 : decode cL_law 211 = .ok (.aload_n 0, 1) := dq_42 (by decide +kernel)
theorem dL_law_212 : decode cL_law 212 = .ok (.iload_n 3, 1) := dq_29 (by decide +kernel)
theorem dL_law_213 : decode cL_law 213 = .ok (.iconst 1, 1) := dq_4 (by decide +kernel)
theorem dL_law_214 : decode cL_law 214 = .ok (.iadd, 1) := dq_96 (by decide +kernel)
theorem dL_law_215 : decode cL_law 215 = .ok (.iaload, 1) := dq_46 (by decide +kernel)
theorem dL_law_216 : decode cL_law 216 = .ok (.invokevirtual 17, 3) := dq_182 (by decide +kernel)
theorem dL_law_219 : decode cL_law 219 = .ok (.pop, 1) := dq_87 (by decide +kernel)
theorem dL_law_220 : decode cL_law 220 = .ok (.goto 1236, 3) := dq_167 (by decide +kernel)
theorem dL_law_223 : decode cL_law 223 = .ok (.aload_n 1, 1) := dq_43 (by decide +kernel)
theorem dL_law_224 : decode cL_law 224 = .ok (.invokevirtual 18, 3) := dq_182 (by decide +kernel)
theorem dL_law_227 : decode cL_law 227 = .ok (.pop, 1) := dq_87 (by decide +kernel)
theorem dL_law_228 : decode cL_law 228 = .ok (.aload_n 2, 1) := dq_44 (by decide +kernel)
theorem dL_law_229 : decode cL_law 229 = .ok (.invokevirtual 22, 3) := dq_182 (by decide +kernel)
theorem dL_law_232 : decode cL_law 232 = .ok (.pop, 1) := dq_87 (by decide +kernel)
theorem dL_law_233 : decode cL_law 233 = .ok (.goto 1223, 3) := dq_167 (by decide +kernel)
theorem dL_law_236 : decode cL_law 236 = .ok (.aload_n 1, 1) := dq_43 (by decide +kernel)
theorem dL_law_237 : decode cL_law 237 = .ok (.invokevirtual 23, 3) := dq_182 (by decide +kernel)
theorem dL_law_240 : decode cL_law 240 = .ok (.pop, 1) := dq_87 (by decide +kernel)
theorem dL_law_241 : decode cL_law 241 = .ok (.aload_n 2, 1) := dq_44 (by decide +kernel)
theorem dL_law_242 : decode cL_law 242 = .ok (.invokevirtual 26, 3) := dq_182 (by decide +kernel)
theorem dL_law_245 : decode cL_law 245 = .ok (.pop, 1) := dq_87 (by decide +kernel)
theorem dL_law_246 : decode cL_law 246 = .ok (.goto 1210, 3) := dq_167 (by decide +kernel)
theorem dL_law_249 : decode cL_law 249 = .ok (.aload_n 1, 1) := dq_43 (by decide +kernel)
theorem dL_law_250 : decode cL_law 250 = .ok (.aload_n 0, 1) := dq_42 (by decide +kernel)
theorem dL_law_251 : decode cL_law 251 = .ok (.iload_n 3, 1) := dq_29 (by decide +kernel)
theorem dL_law_252 : decode cL_law 252 = .ok (.iconst 1, 1) := dq_4 (by decide +kernel)
theorem dL_law_253 : decode cL_law 253 = .ok (.iadd, 1) := dq_96 (by decide +kernel)
theorem dL_law_254 : decode cL_law 254 = .ok (.iaload, 1) := dq_46 (by decide +kernel)
theorem dL_law_255 : decode cL_law 255 = .ok (.invokevirtual 27, 3) := dq_182 (by decide +kernel)
theorem dL_law_258 : decode cL_law 258 = .ok (.pop, 1) := dq_87 (by decide +kernel)
theorem dL_law_259 : decode cL_law 259 = .ok (.aload_n 2, 1) := dq_44 (by decide +kernel)
theorem dL_law_260 : decode cL_law 260 = .ok (.aload_n 0, 1) := dq_42 (by decide +kernel)
theorem dL_law_261 : decode cL_law 261 = .ok (.iload_n 3, 1) := dq_29 (by decide +kernel)
theorem dL_law_262 : decode cL_law 262 = .ok (.iconst 1, 1) := dq_4 (by decide +kernel)
theorem dL_law_263 : decode cL_law 263 = .ok (.iadd, 1) := dq_96 (by decide +kernel)
theorem dL_law_264 : decode cL_law 264 = .ok (.iaload, 1) := dq_46 (by decide +kernel)
theorem dL_law_265 : decode cL_law 265 = .ok (.invokevirtual 30, 3) := dq_182 (by decide +kernel)
theorem dL_law_268 : decode cL_law 268 = .ok (.pop, 1) := dq_87 (by decide +kernel)
theorem dL_law_269 : decode cL_law 269 = .ok (.goto 1187, 3) := dq_167 (by decide +kernel)
theorem dL_law_272 : decode cL_law 272 = .ok (.aload_n 1, 1) := dq_43 (by decide +kernel)
theorem dL_law_273 : decode cL_law 273 = .ok (.aload_n 0, 1) := dq_42 (by decide +kernel)
theorem dL_law_274 : decode cL_law 274 = .ok (.iload_n 3, 1) := dq_29 (by decide +kernel)
theorem dL_law_275 : decode cL_law 275 = .ok (.iconst 1, 1) := dq_4 (by decide +kernel)
theorem dL_law_276 : decode cL_law 276 = .ok (.iadd, 1) := dq_96 (by decide +kernel)
theorem dL_law_277 : decode cL_law 277 = .ok (.iaload, 1) := dq_46 (by decide +kernel)
theorem dL_law_278 : decode cL_law 278 = .ok (.aload_n 0, 1) := dq_42 (by decide +kernel)
theorem dL_law_279 : decode cL_law 279 = .ok (.iload_n 3, 1) := dq_29 (by decide +kernel)
theorem dL_law_280 : decode cL_law 280 = .ok (.iconst 2, 1) := dq_5 (by decide +kernel)
theorem dL_law_281 : decode cL_law 281 = .ok (.iadd, 1) := dq_96 (by decide +kernel)
theorem dL_law_282 : decode cL_law 282 = .ok (.iaload, 1) := dq_46 (by decide +kernel)
theorem dL_law_283 : decode cL_law 283 = .ok (.aload_n 0, 1) := dq_42 (by decide +kernel)
theorem dL_law_284 : decode cL_law 284 = .ok (.iload_n 3, 1) := dq_29 (by decide +kernel)
theorem dL_law_285 : decode cL_law 285 = .ok (.iconst 3, 1) := dq_6 (by decide +kernel)
theorem dL_law_286 : decode cL_law 286 = .ok (.iadd, 1) := dq_96 (by decide +kernel)
theorem dL_law_287 : decode cL_law 287 = .ok (.iaload, 1) := dq_46 (by decide +kernel)
theorem dL_law_288 : decode cL_law 288 = .ok (.invokevirtual 31, 3) := dq_182 (by decide +kernel)
theorem dL_law_291 : decode cL_law 291 = .ok (.pop, 1) := dq_87 (by decide +kernel)
theorem dL_law_292 : decode cL_law 292 = .ok (.aload_n 2, 1) := dq_44 (by decide +kernel)
theorem dL_law_293 : decode cL_law 293 = .ok (.aload_n 0, 1) := dq_42 (by decide +kernel)
theorem dL_law_294 : decode cL_law 294 = .ok (.iload_n 3, 1) := dq_29 (by decide +kernel)
theorem dL_law_295 : decode cL_law 295 = .ok (.iconst 1, 1) := dq_4 (by decide +kernel)
theorem dL_law_296 : decode cL_law 296 = .ok (.iadd, 1) := dq_96 (by decide +kernel)
theorem dL_law_297 : decode cL_law 297 = .ok (.iaload, 1) := dq_46 (by decide +kernel)
theorem dL_law_298 : decode cL_law 298 = .ok (.aload_n 0, 1) := dq_42 (by decide +kernel)
theorem dL_law_299 : decode cL_law 299 = .ok (.iload_n 3, 1) := dq_29 (by decide +kernel)
theorem dL_law_300 : decode cL_law 300 = .ok (.iconst 2, 1) := dq_5 (by decide +kernel)
theorem dL_law_301 : decode cL_law 301 = .ok (.iadd, 1) := dq_96 (by decide +kernel)
theorem dL_law_302 : decode cL_law 302 = .ok (.iaload, 1) := dq_46 (by decide +kernel)
theorem dL_law_303 : decode cL_law 303 = .ok (.aload_n 0, 1) := dq_42 (by decide +kernel)
theorem dL_law_304 : decode cL_law 304 = .ok (.iload_n 3, 1) := dq_29 (by decide +kernel)
theorem dL_law_305 : decode cL_law 305 = .ok (.iconst 3, 1) := dq_6 (by decide +kernel)
theorem dL_law_306 : decode cL_law 306 = .ok (.iadd, 1) := dq_96 (by decide +kernel)
theorem dL_law_307 : decode cL_law 307 = .ok (.iaload, 1) := dq_46 (by decide +kernel)
theorem dL_law_308 : decode cL_law 308 = .ok (.invokevirtual 35, 3) := dq_182 (by decide +kernel)
theorem dL_law_311 : decode cL_law 311 = .ok (.pop, 1) := dq_87 (by decide +kernel)
theorem dL_law_312 : decode cL_law 312 = .ok (.goto 1144, 3) := dq_167 (by decide +kernel)
theorem dL_law_315 : decode cL_law 315 = .ok (.aload_n 1, 1) := dq_43 (by decide +kernel)
theorem dL_law_316 : decode cL_law 316 = .ok (.aload_n 0, 1) := dq_42 (by decide +kernel)
theorem dL_law_317 : decode cL_law 317 = .ok (.iload_n 3, 1) := dq_29 (by decide +kernel)
theorem dL_law_318 : decode cL_law 318 = .ok (.iconst 1, 1) := dq_4 (by decide +kernel)
theorem dL_law_319 : decode cL_law 319 = .ok (.iadd, 1) := dq_96 (by decide +kernel)
theorem dL_law_320 : decode cL_law 320 = .ok (.iaload, 1) := dq_46 (by decide +kernel)
theorem dL_law_321 : decode cL_law 321 = .ok (.aload_n 0, 1) := dq_42 (by decide +kernel)
theorem dL_law_322 : decode cL_law 322 = .ok (.iload_n 3, 1) := dq_29 (by decide +kernel)
theorem dL_law_323 : decode cL_law 323 = .ok (.iconst 2, 1) := dq_5 (by decide +kernel)
theorem dL_law_324 : decode cL_law 324 = .ok (.iadd, 1) := dq_96 (by decide +kernel)
theorem dL_law_325 : decode cL_law 325 = .ok (.iaload, 1) := dq_46 (by decide +kernel)
theorem dL_law_326 : decode cL_law 326 = .ok (.aload_n 0, 1) := dq_42 (by decide +kernel)
theorem dL_law_327 : decode cL_law 327 = .ok (.iload_n 3, 1) := dq_29 (by decide +kernel)
theorem dL_law_328 : decode cL_law 328 = .ok (.iconst 3, 1) := dq_6 (by decide +kernel)
theorem dL_law_329 : decode cL_law 329 = .ok (.iadd, 1) := dq_96 (by decide +kernel)
theorem dL_law_330 : decode cL_law 330 = .ok (.iaload, 1) := dq_46 (by decide +kernel)
theorem dL_law_331 : decode cL_law 331 = .ok (.invokevirtual 36, 3) := dq_182 (by decide +kernel)
theorem dL_law_334 : decode cL_law 334 = .ok (.pop, 1) := dq_87 (by decide +kernel)
theorem dL_law_335 : decode cL_law 335 = .ok (.aload_n 2, 1) := dq_44 (by decide +kernel)
theorem dL_law_336 : decode cL_law 336 = .ok (.aload_n 0, 1) := dq_42 (by decide +kernel)
theorem dL_law_337 : decode cL_law 337 = .ok (.iload_n 3, 1) := dq_29 (by decide +kernel)
theorem dL_law_338 : decode cL_law 338 = .ok (.iconst 1, 1) := dq_4 (by decide +kernel)
theorem dL_law_339 : decode cL_law 339 = .ok (.iadd, 1) := dq_96 (by decide +kernel)
theorem dL_law_340 : decode cL_law 340 = .ok (.iaload, 1) := dq_46 (by decide +kernel)
theorem dL_law_341 : decode cL_law 341 = .ok (.aload_n 0, 1) := dq_42 (by decide +kernel)
theorem dL_law_342 : decode cL_law 342 = .ok (.iload_n 3, 1) := dq_29 (by decide +kernel)
theorem dL_law_343 : decode cL_law 343 = .ok (.iconst 2, 1) := dq_5 (by decide +kernel)
theorem dL_law_344 : decode cL_law 344 = .ok (.iadd, 1) := dq_96 (by decide +kernel)
theorem dL_law_345 : decode cL_law 345 = .ok (.iaload, 1) := dq_46 (by decide +kernel)
theorem dL_law_346 : decode cL_law 346 = .ok (.aload_n 0, 1) := dq_42 (by decide +kernel)
theorem dL_law_347 : decode cL_law 347 = .ok (.iload_n 3, 1) := dq_29 (by decide +kernel)
theorem dL_law_348 : decode cL_law 348 = .ok (.iconst 3, 1) := dq_6 (by decide +kernel)
theorem dL_law_349 : decode cL_law 349 = .ok (.iadd, 1) := dq_96 (by decide +kernel)
theorem dL_law_350 : decode cL_law 350 = .ok (.iaload, 1) := dq_46 (by decide +kernel)
theorem dL_law_351 : decode cL_law 351 = .ok (.invokevirtual 39, 3) := dq_182 (by decide +kernel)
theorem dL_law_354 : decode cL_law 354 = .ok (.pop, 1) := dq_87 (by decide +kernel)
theorem dL_law_355 : decode cL_law 355 = .ok (.goto 1101, 3) := dq_167 (by decide +kernel)
theorem dL_law_358 : decode cL_law 358 = .ok (.aload_n 1, 1) := dq_43 (by decide +kernel)
theorem dL_law_359 : decode cL_law 359 = .ok (.aload_n 0, 1) := dq_42 (by decide +kernel)
theorem dL_law_360 : decode cL_law 360 = .ok (.iload_n 3, 1) := dq_29 (by decide +kernel)
theorem dL_law_361 : decode cL_law 361 = .ok (.iconst 1, 1) := dq_4 (by decide +kernel)
theorem dL_law_362 : decode cL_law 362 = .ok (.iadd, 1) := dq_96 (by decide +kernel)
theorem dL_law_363 : decode cL_law 363 = .ok (.iaload, 1) := dq_46 (by decide +kernel)
theorem dL_law_364 : decode cL_law 364 = .ok (.aload_n 0, 1) := dq_42 (by decide +kernel)
theorem dL_law_365 : decode cL_law 365 = .ok (.iload_n 3, 1) := dq_29 (by decide +kernel)
theorem dL_law_366 : decode cL_law 366 = .ok (.iconst 2, 1) := dq_5 (by decide +kernel)
theorem dL_law_367 : decode cL_law 367 = .ok (.iadd, 1) := dq_96 (by decide +kernel)
theorem dL_law_368 : decode cL_law 368 = .ok (.iaload, 1) := dq_46 (by decide +kernel)
theorem dL_law_369 : decode cL_law 369 = .ok (.invokevirtual 40, 3) := dq_182 (by decide +kernel)
theorem dL_law_372 : decode cL_law 372 = .ok (.pop, 1) := dq_87 (by decide +kernel)
theorem dL_law_373 : decode cL_law 373 = .ok (.aload_n 2, 1) := dq_44 (by decide +kernel)
theorem dL_law_374 : decode cL_law 374 = .ok (.aload_n 0, 1) := dq_42 (by decide +kernel)
theorem dL_law_375 : decode cL_law 375 = .ok (.iload_n 3, 1) := dq_29 (by decide +kernel)
theorem dL_law_376 : decode cL_law 376 = .ok (.iconst 1, 1) := dq_4 (by decide +kernel)
theorem dL_law_377 : decode cL_law 377 = .ok (.iadd, 1) := dq_96 (by decide +kernel)
theorem dL_law_378 : decode cL_law 378 = .ok (.iaload, 1) := dq_46 (by decide +kernel)
theorem dL_law_379 : decode cL_law 379 = .ok (.aload_n 0, 1) := dq_42 (by decide +kernel)
theorem dL_law_380 : decode cL_law 380 = .ok (.iload_n 3, 1) := dq_29 (by decide +kernel)
theorem dL_law_381 : decode cL_law 381 = .ok (.iconst 2, 1) := dq_5 (by decide +kernel)
theorem dL_law_382 : decode cL_law 382 = .ok (.iadd, 1) := dq_96 (by decide +kernel)
theorem dL_law_383 : decode cL_law 383 = .ok (.iaload, 1) := dq_46 (by decide +kernel)
theorem dL_law_384 : decode cL_law 384 = .ok (.invokevirtual 44, 3) := dq_182 (by decide +kernel)
theorem dL_law_387 : decode cL_law 387 = .ok (.pop, 1) := dq_87 (by decide +kernel)
theorem dL_law_388 : decode cL_law 388 = .ok (.goto 1068, 3) := dq_167 (by decide +kernel)
theorem dL_law_391 : decode cL_law 391 = .ok (.aload_n 1, 1) := dq_43 (by decide +kernel)
theorem dL_law_392 : decode cL_law 392 = .ok (.aload_n 0, 1) := dq_42 (by decide +kernel)
theorem dL_law_393 : decode cL_law 393 = .ok (.iload_n 3, 1) := dq_29 (by decide +kernel)
theorem dL_law_394 : decode cL_law 394 = .ok (.iconst 1, 1) := dq_4 (by decide +kernel)
theorem dL_law_395 : decode cL_law 395 = .ok (.iadd, 1) := dq_96 (by decide +kernel)
theorem dL_law_396 : decode cL_law 396 = .ok (.iaload, 1) := dq_46 (by decide +kernel)
theorem dL_law_397 : decode cL_law 397 = .ok (.aload_n 0, 1) := dq_42 (by decide +kernel)
theorem dL_law_398 : decode cL_law 398 = .ok (.iload_n 3, 1) := dq_29 (by decide +kernel)
theorem dL_law_399 : decode cL_law 399 = .ok (.iconst 2, 1) := dq_5 (by decide +kernel)
theorem dL_law_400 : decode cL_law 400 = .ok (.iadd, 1) := dq_96 (by decide +kernel)
theorem dL_law_401 : decode cL_law 401 = .ok (.iaload, 1) := dq_46 (by decide +kernel)
theorem dL_law_402 : decode cL_law 402 = .ok (.invokevirtual 45, 3) := dq_182 (by decide +kernel)
theorem dL_law_405 : decode cL_law 405 = .ok (.pop, 1) := dq_87 (by decide +kernel)
theorem dL_law_406 : decode cL_law 406 = .ok (.aload_n 2, 1) := dq_44 (by decide +kernel)
theorem dL_law_407 : decode cL_law 407 = .ok (.aload_n 0, 1) := dq_42 (by decide +kernel)
theorem dL_law_408 : decode cL_law 408 = .ok (.iload_n 3, 1) := dq_29 (by decide +kernel)
theorem dL_law_409 : decode cL_law 409 = .ok (.iconst 1, 1) := dq_4 (by decide +kernel)
theorem dL_law_410 : decode cL_law 410 = .ok (.iadd, 1) := dq_96 (by decide +kernel)
theorem dL_law_411 : decode cL_law 411 = .ok (.iaload, 1) := dq_46 (by decide +kernel)
theorem dL_law_412 : decode cL_law 412 = .ok (.aload_n 0, 1) := dq_42 (by decide +kernel)
theorem dL_law_413 : decode cL_law 413 = .ok (.iload_n 3, 1) := dq_29 (by decide +kernel)
theorem dL_law_414 : decode cL_law 414 = .ok (.iconst 2, 1) := dq_5 (by decide +kernel)
theorem dL_law_415 : decode cL_law 415 = .ok (.iadd, 1) := dq_96 (by decide +kernel)
theorem dL_law_416 : decode cL_law 416 = .ok (.iaload, 1) := dq_46 (by decide +kernel)
theorem dL_law_417 : decode cL_law 417 = .ok (.invokevirtual 48, 3) := dq_182 (by decide +kernel)
theorem dL_law_420 : decode cL_law 420 = .ok (.pop, 1) := dq_87 (by decide +kernel)
theorem dL_law_421 : decode cL_law 421 = .ok (.goto 1035, 3) := dq_167 (by decide +kernel)
theorem dL_law_424 : decode cL_law 424 = .ok (.aload_n 1, 1) := dq_43 (by decide +kernel)
theorem dL_law_425 : decode cL_law 425 = .ok (.aload_n 0, 1) := dq_42 (by decide +kernel)
theorem dL_law_426 : decode cL_law 426 = .ok (.iload_n 3, 1) := dq_29 (by decide +kernel)
theorem dL_law_427 : decode cL_law 427 = .ok (.iconst 1, 1) := dq_4 (by decide +kernel)
theorem dL_law_428 : decode cL_law 428 = .ok (.iadd, 1) := dq_96 (by decide +kernel)
theorem dL_law_429 : decode cL_law 429 = .ok (.iaload, 1) := dq_46 (by decide +kernel)
theorem dL_law_430 : decode cL_law 430 = .ok (.aload_n 0, 1) := dq_42 (by decide +kernel)
theorem dL_law_431 : decode cL_law 431 = .ok (.iload_n 3, 1) := dq_29 (by decide +kernel)
theorem dL_law_432 : decode cL_law 432 = .ok (.iconst 2, 1) := dq_5 (by decide +kernel)
theorem dL_law_433 : decode cL_law 433 = .ok (.iadd, 1) := dq_96 (by decide +kernel)
theorem dL_law_434 : decode cL_law 434 = .ok (.iaload, 1) := dq_46 (by decide +kernel)
theorem dL_law_435 : decode cL_law 435 = .ok (.invokevirtual 49, 3) := dq_182 (by decide +kernel)
theorem dL_law_438 : decode cL_law 438 = .ok (.pop, 1) := dq_87 (by decide +kernel)
theorem dL_law_439 : decode cL_law 439 = .ok (.aload_n 2, 1) := dq_44 (by decide +kernel)
theorem dL_law_440 : decode cL_law 440 = .ok (.aload_n 0, 1) := dq_42 (by decide +kernel)
theorem dL_law_441 : decode cL_law 441 = .ok (.iload_n 3, 1) := dq_29 (by decide +kernel)
theorem dL_law_442 : decode cL_law 442 = .ok (.iconst 1, 1) := dq_4 (by decide +kernel)
theorem dL_law_443 : decode cL_law 443 = .ok (.iadd, 1) := dq_96 (by decide +kernel)
theorem dL_law_444 : decode cL_law 444 = .ok (.iaload, 1) := dq_46 (by decide +kernel)
theorem dL_law_445 : decode cL_law 445 = .ok (.aload_n 0, 1) := dq_42 (by decide +kernel)
theorem dL_law_446 : decode cL_law 446 = .ok (.iload_n 3, 1) := dq_29 (by decide +kernel)
theorem dL_law_447 : decode cL_law 447 = .ok (.iconst 2, 1) := dq_5 (by decide +kernel)
theorem dL_law_448 : decode cL_law 448 = .ok (.iadd, 1) := dq_96 (by decide +kernel)
theorem dL_law_449 : decode cL_law 449 = .ok (.iaload, 1) := dq_46 (by decide +kernel)
theorem dL_law_450 : decode cL_law 450 = .ok (.invokevirtual 52, 3) := dq_182 (by decide +kernel)
theorem dL_law_453 : decode cL_law 453 = .ok (.pop, 1) := dq_87 (by decide +kernel)
theorem dL_law_454 : decode cL_law 454 = .ok (.goto 1002, 3) := dq_167 (by decide +kernel)
theorem dL_law_457 : decode cL_law 457 = .ok (.aload_n 1, 1) := dq_43 (by decide +kernel)
theorem dL_law_458 : decode cL_law 458 = .ok (.aload_n 0, 1) := dq_42 (by decide +kernel)
theorem dL_law_459 : decode cL_law 459 = .ok (.iload_n 3, 1) := dq_29 (by decide +kernel)
theorem dL_law_460 : decode cL_law 460 = .ok (.iconst 1, 1) := dq_4 (by decide +kernel)
theorem dL_law_461 : decode cL_law 461 = .ok (.iadd, 1) := dq_96 (by decide +kernel)
theorem dL_law_462 : decode cL_law 462 = .ok (.iaload, 1) := dq_46 (by decide +kernel)
theorem dL_law_463 : decode cL_law 463 = .ok (.invokevirtual 53, 3) := dq_182 (by decide +kernel)
theorem dL_law_466 : decode cL_law 466 = .ok (.pop, 1) := dq_87 (by decide +kernel)
theorem dL_law_467 : decode cL_law 467 = .ok (.aload_n 2, 1) := dq_44 (by decide +kernel)
theorem dL_law_468 : decode cL_law 468 = .ok (.aload_n 0, 1) := dq_42 (by decide +kernel)
theorem dL_law_469 : decode cL_law 469 = .ok (.iload_n 3, 1) := dq_29 (by decide +kernel)
theorem dL_law_470 : decode cL_law 470 = .ok (.iconst 1, 1) := dq_4 (by decide +kernel)
theorem dL_law_471 : decode cL_law 471 = .ok (.iadd, 1) := dq_96 (by decide +kernel)
theorem dL_law_472 : decode cL_law 472 = .ok (.iaload, 1) := dq_46 (by decide +kernel)
theorem dL_law_473 : decode cL_law 473 = .ok (.invokevirtual 56, 3) := dq_182 (by decide +kernel)
theorem dL_law_476 : decode cL_law 476 = .ok (.pop, 1) := dq_87 (by decide +kernel)
theorem dL_law_477 : decode cL_law 477 = .ok (.goto 979, 3) := dq_167 (by decide +kernel)
theorem dL_law_480 : decode cL_law 480 = .ok (.aload_n 1, 1) := dq_43 (by decide +kernel)
theorem dL_law_481 : decode cL_law 481 = .ok (.aload_n 0, 1) := dq_42 (by decide +kernel)
theorem dL_law_482 : decode cL_law 482 = .ok (.iload_n 3, 1) := dq_29 (by decide +kernel)
theorem dL_law_483 : decode cL_law 483 = .ok (.iconst 1, 1) := dq_4 (by decide +kernel)
theorem dL_law_484 : decode cL_law 484 = .ok (.iadd, 1) := dq_96 (by decide +kernel)
theorem dL_law_485 : decode cL_law 485 = .ok (.iaload, 1) := dq_46 (by decide +kernel)
theorem dL_law_486 : decode cL_law 486 = .ok (.invokevirtual 57, 3) := dq_182 (by decide +kernel)
theorem dL_law_489 : decode cL_law 489 = .ok (.aload_n 2, 1) := dq_44 (by decide +kernel)
theorem dL_law_490 : decode cL_law 490 = .ok (.aload_n 0, 1) := dq_42 (by decide +kernel)
theorem dL_law_491 : decode cL_law 491 = .ok (.iload_n 3, 1) := dq_29 (by decide +kernel)
theorem dL_law_492 : decode cL_law 492 = .ok (.iconst 1, 1) := dq_4 (by decide +kernel)
theorem dL_law_493 : decode cL_law 493 = .ok (.iadd, 1) := dq_96 (by decide +kernel)
theorem dL_law_494 : decode cL_law 494 = .ok (.iaload, 1) := dq_46 (by decide +kernel)
theorem dL_law_495 : decode cL_law 495 = .ok (.invokevirtual 60, 3) := dq_182 (by decide +kernel)
theorem dL_law_498 : decode cL_law 498 = .ok (.if_icmp .eq 958, 3) := dq_159 (by decide +kernel)
set_option maxRecDepth 100000 in
theorem dL_law_501 : decode cL_law 501 = .ok (.iconst 0, 1) := dq_3 (by decide +kernel)
set_option maxRecDepth 100000 in
theorem dL_law_502 : decode cL_law 502 = .ok (.ireturn, 1) := dq_172 (by decide +kernel)
set_option maxRecDepth 100000 in
theorem dL_law_503 : decode cL_law 503 = .ok (.aload_n 1, 1) := dq_43 (by decide +kernel)
set_option maxRecDepth 100000 in
theorem dL_law_504 : decode cL_law 504 = .ok (.aload_n 0, 1) := dq_42 (by decide +kernel)
set_option maxRecDepth 100000 in
theorem dL_law_505 : decode cL_law 505 = .ok (.iload_n 3, 1) := dq_29 (by decide +kernel)
set_option maxRecDepth 100000 in
theorem dL_law_506 : decode cL_law 506 = .ok (.iconst 1, 1) := dq_4 (by decide +kernel)
set_option maxRecDepth 100000 in
theorem dL_law_507 : decode cL_law 507 = .ok (.iadd, 1) := dq_96 (by decide +kernel)
set_option maxRecDepth 100000 in
theorem dL_law_508 : decode cL_law 508 = .ok (.iaload, 1) := dq_46 (by decide +kernel)
set_option maxRecDepth 100000 in
theorem dL_law_509 : decode cL_law 509 = .ok (.invokevirtual 61, 3) := dq_182 (by decide +kernel)
set_option maxRecDepth 100000 in
theorem dL_law_512 : decode cL_law 512 = .ok (.pop, 1) := dq_87 (by decide +kernel)
set_option maxRecDepth 100000 in
theorem dL_law_513 : decode cL_law 513 = .ok (.aload_n 2, 1) := dq_44 (by decide +kernel)
set_option maxRecDepth 100000 in
theorem dL_law_514 : decode cL_law 514 = .ok (.aload_n 0, 1) := dq_42 (by decide +kernel)
set_option maxRecDepth 100000 in
theorem dL_law_515 : decode cL_law 515 = .ok (.iload_n 3, 1) := dq_29 (by decide +kernel)
set_option maxRecDepth 100000 in
theorem dL_law_516 : decode cL_law 516 = .ok (.iconst 1, 1) := dq_4 (by decide +kernel)
set_option maxRecDepth 100000 in
theorem dL_law_517 : decode cL_law 517 = .ok (.iadd, 1) := dq_96 (by decide +kernel)
set_option maxRecDepth 100000 in
theorem dL_law_518 : decode cL_law 518 = .ok (.iaload, 1) := dq_46 (by decide +kernel)
set_option maxRecDepth 100000 in
theorem dL_law_519 : decode cL_law 519 = .ok (.invokevirtual 64, 3) := dq_182 (by decide +kernel)
set_option maxRecDepth 100000 in
theorem dL_law_522 : decode cL_law 522 = .ok (.pop, 1) := dq_87 (by decide +kernel)
set_option maxRecDepth 100000 in
theorem dL_law_523 : decode cL_law 523 = .ok (.goto 933, 3) := dq_167 (by decide +kernel)
set_option maxRecDepth 100000 in
theorem dL_law_526 : decode cL_law 526 = .ok (.aload_n 1, 1) := dq_43 (by decide +kernel)
set_option maxRecDepth 100000 in
theorem dL_law_527 : decode cL_law 527 = .ok (.aload_n 0, 1) := dq_42 (by decide +kernel)
set_option maxRecDepth 100000 in
theorem dL_law_528 : decode cL_law 528 = .ok (.iload_n 3, 1) := dq_29 (by decide +kernel)
set_option maxRecDepth 100000 in
theorem dL_law_529 : decode cL_law 529 = .ok (.iconst 1, 1) := dq_4 (by decide +kernel)
set_option maxRecDepth 100000 in
theorem dL_law_530 : decode cL_law 530 = .ok (.iadd, 1) := dq_96 (by decide +kernel)
set_option maxRecDepth 100000 in
theorem dL_law_531 : decode cL_law 531 = .ok (.iaload, 1) := dq_46 (by decide +kernel)
set_option maxRecDepth 100000 in
theorem dL_law_532 : decode cL_law 532 = .ok (.aload_n 0, 1) := dq_42 (by decide +kernel)
set_option maxRecDepth 100000 in
theorem dL_law_533 : decode cL_law 533 = .ok (.iload_n 3, 1) := dq_29 (by decide +kernel)
set_option maxRecDepth 100000 in
theorem dL_law_534 : decode cL_law 534 = .ok (.iconst 2, 1) := dq_5 (by decide +kernel)
set_option maxRecDepth 100000 in
theorem dL_law_535 : decode cL_law 535 = .ok (.iadd, 1) := dq_96 (by decide +kernel)
set_option maxRecDepth 100000 in
theorem dL_law_536 : decode cL_law 536 = .ok (.iaload, 1) := dq_46 (by decide +kernel)
set_option maxRecDepth 100000 in
theorem dL_law_537 : decode cL_law 537 = .ok (.aload_n 0, 1) := dq_42 (by decide +kernel)
set_option maxRecDepth 100000 in
theorem dL_law_538 : decode cL_law 538 = .ok (.iload_n 3, 1) := dq_29 (by decide +kernel)
set_option maxRecDepth 100000 in
theorem dL_law_539 : decode cL_law 539 = .ok (.iconst 3, 1) := dq_6 (by decide +kernel)
set_option maxRecDepth 100000 in
theorem dL_law_540 : decode cL_law 540 = .ok (.iadd, 1) := dq_96 (by decide +kernel)
set_option maxRecDepth 100000 in
theorem dL_law_541 : decode cL_law 541 = .ok (.iaload, 1) := dq_46 (by decide +kernel)
set_option maxRecDepth 100000 in
theorem dL_law_542 : decode cL_law 542 = .ok (.invokevirtual 65, 3) := dq_182 (by decide +kernel)
set_option maxRecDepth 100000 in
theorem dL_law_545 : decode cL_law 545 = .ok (.pop, 1) := dq_87 (by decide +kernel)
set_option maxRecDepth 100000 in
theorem dL_law_546 : decode cL_law 546 = .ok (.aload_n 2, 1) := dq_44 (by decide +kernel)
set_option maxRecDepth 100000 in
theorem dL_law_547 : decode cL_law 547 = .ok (.aload_n 0, 1) := dq_42 (by decide +kernel)
set_option maxRecDepth 100000 in
theorem dL_law_548 : decode cL_law 548 = .ok (.iload_n 3, 1) := dq_29 (by decide +kernel)
set_option maxRecDepth 100000 in
theorem dL_law_549 : decode cL_law 549 = .ok (.iconst 1, 1) := dq_4 (by decide +kernel)
set_option maxRecDepth 100000 in
theorem dL_law_550 : decode cL_law 550 = .ok (.iadd, 1) := dq_96 (by decide +kernel)
set_option maxRecDepth 100000 in
theorem dL_law_551 : decode cL_law 551 = .ok (.iaload, 1) := dq_46 (by decide +kernel)
set_option maxRecDepth 100000 in
theorem dL_law_552 : decode cL_law 552 = .ok (.aload_n 0, 1) := dq_42 (by decide +kernel)
set_option maxRecDepth 100000 in
theorem dL_law_553 : decode cL_law 553 = .ok (.iload_n 3, 1) := dq_29 (by decide +kernel)
set_option maxRecDepth 100000 in
theorem dL_law_554 : decode cL_law 554 = .ok (.iconst 2, 1) := dq_5 (by decide +kernel)
set_option maxRecDepth 100000 in
theorem dL_law_555 : decode cL_law 555 = .ok (.iadd, 1) := dq_96 (by decide +kernel)
set_option maxRecDepth 100000 in
theorem dL_law_556 : decode cL_law 556 = .ok (.iaload, 1) := dq_46 (by decide +kernel)
set_option maxRecDepth 100000 in
theorem dL_law_557 : decode cL_law 557 = .ok (.aload_n 0, 1) := dq_42 (by decide +kernel)
set_option maxRecDepth 100000 in
theorem dL_law_558 : decode cL_law 558 = .ok (.iload_n 3, 1) := dq_29 (by decide +kernel)
set_option maxRecDepth 100000 in
theorem dL_law_559 : decode cL_law 559 = .ok (.iconst 3, 1) := dq_6 (by decide +kernel)
set_option maxRecDepth 100000 in
theorem dL_law_560 : decode cL_law 560 = .ok (.iadd, 1) := dq_96 (by decide +kernel)
set_option maxRecDepth 100000 in
theorem dL_law_561 : decode cL_law 561 = .ok (.iaload, 1) := dq_46 (by decide +kernel)
set_option maxRecDepth 100000 in
theorem dL_law_562 : decode cL_law 562 = .ok (.invokevirtual 68, 3) := dq_182 (by decide +kernel)
set_option maxRecDepth 100000 in
theorem dL_law_565 : decode cL_law 565 = .ok (.pop, 1) := dq_87 (by decide +kernel)
set_option maxRecDepth 100000 in
theorem dL_law_566 : decode cL_law 566 = .ok (.goto 890, 3) := dq_167 (by decide +kernel)
set_option maxRecDepth 100000 in
theorem dL_law_569 : decode cL_law 569 = .ok (.aload_n 1, 1) := dq_43 (by decide +kernel)
set_option maxRecDepth 100000 in
theorem dL_law_570 : decode cL_law 570 = .ok (.aload_n 0, 1) := dq_42 (by decide +kernel)
set_option maxRecDepth 100000 in
theorem dL_law_571 : decode cL_law 571 = .ok (.iload_n 3, 1) := dq_29 (by decide +kernel)
set_option maxRecDepth 100000 in
theorem dL_law_572 : decode cL_law 572 = .ok (.iconst 1, 1) := dq_4 (by decide +kernel)
set_option maxRecDepth 100000 in
theorem dL_law_573 : decode cL_law 573 = .ok (.iadd, 1) := dq_96 (by decide +kernel)
set_option maxRecDepth 100000 in
theorem dL_law_574 : decode cL_law 574 = .ok (.iaload, 1) := dq_46 (by decide +kernel)
set_option maxRecDepth 100000 in
theorem dL_law_575 : decode cL_law 575 = .ok (.aload_n 0, 1) := dq_42 (by decide +kernel)
set_option maxRecDepth 100000 in
theorem dL_law_576 : decode cL_law 576 = .ok (.iload_n 3, 1) := dq_29 (by decide +kernel)
set_option maxRecDepth 100000 in
theorem dL_law_577 : decode cL_law 577 = .ok (.iconst 2, 1) := dq_5 (by decide +kernel)
set_option maxRecDepth 100000 in
theorem dL_law_578 : decode cL_law 578 = .ok (.iadd, 1) := dq_96 (by decide +kernel)
set_option maxRecDepth 100000 in
theorem dL_law_579 : decode cL_law 579 = .ok (.iaload, 1) := dq_46 (by decide +kernel)
set_option maxRecDepth 100000 in
theorem dL_law_580 : decode cL_law 580 = .ok (.invokevirtual 69, 3) := dq_182 (by decide +kernel)
set_option maxRecDepth 100000 in
theorem dL_law_583 : decode cL_law 583 = .ok (.pop, 1) := dq_87 (by decide +kernel)
set_option maxRecDepth 100000 in
theorem dL_law_584 : decode cL_law 584 = .ok (.aload_n 2, 1) := dq_44 (by decide +kernel)
set_option maxRecDepth 100000 in
theorem dL_law_585 : decode cL_law 585 = .ok (.aload_n 0, 1) := dq_42 (by decide +kernel)
set_option maxRecDepth 100000 in
theorem dL_law_586 : decode cL_law 586 = .ok (.iload_n 3, 1) := dq_29 (by decide +kernel)
set_option maxRecDepth 100000 in
theorem dL_law_587 : decode cL_law 587 = .ok (.iconst 1, 1) := dq_4 (by decide +kernel)
set_option maxRecDepth 100000 in
theorem dL_law_588 : decode cL_law 588 = .ok (.iadd, 1) := dq_96 (by decide +kernel)
set_option maxRecDepth 100000 in
theorem dL_law_589 : decode cL_law 589 = .ok (.iaload, 1) := dq_46 (by decide +kernel)
set_option maxRecDepth 100000 in
theorem dL_law_590 : decode cL_law 590 = .ok (.aload_n 0, 1) := dq_42 (by decide +kernel)
set_option maxRecDepth 100000 in
theorem dL_law_591 : decode cL_law 591 = .ok (.iload_n 3, 1) := dq_29 (by decide +kernel)
set_option maxRecDepth 100000 in
theorem dL_law_592 : decode cL_law 592 = .ok (.iconst 2, 1) := dq_5 (by decide +kernel)
set_option maxRecDepth 100000 in
theorem dL_law_593 : decode cL_law 593 = .ok (.iadd, 1) := dq_96 (by decide +kernel)
set_option maxRecDepth 100000 in
theorem dL_law_594 : decode cL_law 594 = .ok (.iaload, 1) := dq_46 (by decide +kernel)
set_option maxRecDepth 100000 in
theorem dL_law_595 : decode cL_law 595 = .ok (.invokevirtual 72, 3) := dq_182 (by decide +kernel)
set_option maxRecDepth 100000 in
theorem dL_law_598 : decode cL_law 598 = .ok (.pop, 1) := dq_87 (by decide +kernel)
set_option maxRecDepth 100000 in
theorem dL_law_599 : decode cL_law 599 = .ok (.goto 857, 3) := dq_167 (by decide +kernel)
set_option maxRecDepth 100000 in
theorem dL_law_602 : decode cL_law 602 = .ok (.aload_n 1, 1) := dq_43 (by decide +kernel)
set_option maxRecDepth 100000 in
theorem dL_law_603 : decode cL_law 603 = .ok (.aload_n 0, 1) := dq_42 (by decide +kernel)
set_option maxRecDepth 100000 in
theorem dL_law_604 : decode cL_law 604 = .ok (.iload_n 3, 1) := dq_29 (by decide +kernel)
set_option maxRecDepth 100000 in
theorem dL_law_605 : decode cL_law 605 = .ok (.iconst 1, 1) := dq_4 (by decide +kernel)
set_option maxRecDepth 100000 in
theorem dL_law_606 : decode cL_law 606 = .ok (.iadd, 1) := dq_96 (by decide +kernel)
set_option maxRecDepth 100000 in
theorem dL_law_607 : decode cL_law 607 = .ok (.iaload, 1) := dq_46 (by decide +kernel)
set_option maxRecDepth 100000 in
theorem dL_law_608 : decode cL_law 608 = .ok (.aload_n 0, 1) := dq_42 (by decide +kernel)
set_option maxRecDepth 100000 in
theorem dL_law_609 : decode cL_law 609 = .ok (.iload_n 3, 1) := dq_29 (by decide +kernel)
set_option maxRecDepth 100000 in
theorem dL_law_610 : decode cL_law 610 = .ok (.iconst 2, 1) := dq_5 (by decide +kernel)
set_option maxRecDepth 100000 in
theorem dL_law_611 : decode cL_law 611 = .ok (.iadd, 1) := dq_96 (by decide +kernel)
set_option maxRecDepth 100000 in
theorem dL_law_612 : decode cL_law 612 = .ok (.iaload, 1) := dq_46 (by decide +kernel)
set_option maxRecDepth 100000 in
theorem dL_law_613 : decode cL_law 613 = .ok (.invokevirtual 73, 3) := dq_182 (by decide +kernel)
set_option maxRecDepth 100000 in
theorem dL_law_616 : decode cL_law 616 = .ok (.pop, 1) := dq_87 (by decide +kernel)
set_option maxRecDepth 100000 in
theorem dL_law_617 : decode cL_law 617 = .ok (.aload_n 2, 1) := dq_44 (by decide +kernel)
set_option maxRecDepth 100000 in
theorem dL_law_618 : decode cL_law 618 = .ok (.aload_n 0, 1) := dq_42 (by decide +kernel)
set_option maxRecDepth 100000 in
theorem dL_law_619 : decode cL_law 619 = .ok (.iload_n 3, 1) := dq_29 (by decide +kernel)
set_option maxRecDepth 100000 in
theorem dL_law_620 : decode cL_law 620 = .ok (.iconst 1, 1) := dq_4 (by decide +kernel)
set_option maxRecDepth 100000 in
theorem dL_law_621 : decode cL_law 621 = .ok (.iadd, 1) := dq_96 (by decide +kernel)
set_option maxRecDepth 100000 in
theorem dL_law_622 : decode cL_law 622 = .ok (.iaload, 1) := dq_46 (by decide +kernel)
set_option maxRecDepth 100000 in
theorem dL_law_623 : decode cL_law 623 = .ok (.aload_n 0, 1) := dq_42 (by decide +kernel)
set_option maxRecDepth 100000 in
theorem dL_law_624 : decode cL_law 624 = .ok (.iload_n 3, 1) := dq_29 (by decide +kernel)
set_option maxRecDepth 100000 in
theorem dL_law_625 : decode cL_law 625 = .ok (.iconst 2, 1) := dq_5 (by decide +kernel)
set_option maxRecDepth 100000 in
theorem dL_law_626 : decode cL_law 626 = .ok (.iadd, 1) := dq_96 (by decide +kernel)
set_option maxRecDepth 100000 in
theorem dL_law_627 : decode cL_law 627 = .ok (.iaload, 1) := dq_46 (by decide +kernel)
set_option maxRecDepth 100000 in
theorem dL_law_628 : decode cL_law 628 = .ok (.invokevirtual 76, 3) := dq_182 (by decide +kernel)
set_option maxRecDepth 100000 in
theorem dL_law_631 : decode cL_law 631 = .ok (.pop, 1) := dq_87 (by decide +kernel)
set_option maxRecDepth 100000 in
theorem dL_law_632 : decode cL_law 632 = .ok (.goto 824, 3) := dq_167 (by decide +kernel)
set_option maxRecDepth 100000 in
theorem dL_law_635 : decode cL_law 635 = .ok (.aload_n 1, 1) := dq_43 (by decide +kernel)
set_option maxRecDepth 100000 in
theorem dL_law_636 : decode cL_law 636 = .ok (.aload_n 0, 1) := dq_42 (by decide +kernel)
set_option maxRecDepth 100000 in
theorem dL_law_637 : decode cL_law 637 = .ok (.iload_n 3, 1) := dq_29 (by decide +kernel)
set_option maxRecDepth 100000 in
theorem dL_law_638 : decode cL_law 638 = .ok (.iconst 1, 1) := dq_4 (by decide +kernel)
set_option maxRecDepth 100000 in
theorem dL_law_639 : decode cL_law 639 = .ok (.iadd, 1) := dq_96 (by decide +kernel)
set_option maxRecDepth 100000 in
theorem dL_law_640 : decode cL_law 640 = .ok (.iaload, 1) := dq_46 (by decide +kernel)
set_option maxRecDepth 100000 in
theorem dL_law_641 : decode cL_law 641 = .ok (.invokevirtual 77, 3) := dq_182 (by decide +kernel)
set_option maxRecDepth 100000 in
theorem dL_law_644 : decode cL_law 644 = .ok (.pop, 1) := dq_87 (by decide +kernel)
set_option maxRecDepth 100000 in
theorem dL_law_645 : decode cL_law 645 = .ok (.aload_n 2, 1) := dq_44 (by decide +kernel)
set_option maxRecDepth 100000 in
theorem dL_law_646 : decode cL_law 646 = .ok (.aload_n 0, 1) := dq_42 (by decide +kernel)
set_option maxRecDepth 100000 in
theorem dL_law_647 : decode cL_law 647 = .ok (.iload_n 3, 1) := dq_29 (by decide +kernel)
set_option maxRecDepth 100000 in
theorem dL_law_648 : decode cL_law 648 = .ok (.iconst 1, 1) := dq_4 (by decide +kernel)
set_option maxRecDepth 100000 in
theorem dL_law_649 : decode cL_law 649 = .ok (.iadd, 1) := dq_96 (by decide +kernel)
set_option maxRecDepth 100000 in
theorem dL_law_650 : decode cL_law 650 = .ok (.iaload, 1) := dq_46 (by decide +kernel)
set_option maxRecDepth 100000 in
theorem dL_law_651 : decode cL_law 651 = .ok (.invokevirtual 80, 3) := dq_182 (by decide +kernel)
set_option maxRecDepth 100000 in
theorem dL_law_654 : decode cL_law 654 = .ok (.pop, 1) := dq_87 (by decide +kernel)
set_option maxRecDepth 100000 in
theorem dL_law_655 : decode cL_law 655 = .ok (.goto 801, 3) := dq_167 (by decide +kernel)
set_option maxRecDepth 100000 in
theorem dL_law_658 : decode cL_law 658 = .ok (.aload_n 1, 1) := dq_43 (by decide +kernel)
set_option maxRecDepth 100000 in
theorem dL_law_659 : decode cL_law 659 = .ok (.aload_n 0, 1) := dq_42 (by decide +kernel)
set_option maxRecDepth 100000 in
theorem dL_law_660 : decode cL_law 660 = .ok (.iload_n 3, 1) := dq_29 (by decide +kernel)
set_option maxRecDepth 100000 in
theorem dL_law_661 : decode cL_law 661 = .ok (.iconst 1, 1) := dq_4 (by decide +kernel)
set_option maxRecDepth 100000 in
theorem dL_law_662 : decode cL_law 662 = .ok (.iadd, 1) := dq_96 (by decide +kernel)
set_option maxRecDepth 100000 in
theorem dL_law_663 : decode cL_law 663 = .ok (.iaload, 1) := dq_46 (by decide +kernel)
set_option maxRecDepth 100000 in
theorem dL_law_664 : decode cL_law 664 = .ok (.aload_n 0, 1) := dq_42 (by decide +kernel)
set_option maxRecDepth 100000 in
theorem dL_law_665 : decode cL_law 665 = .ok (.iload_n 3, 1) := dq_29 (by decide +kernel)
set_option maxRecDepth 100000 in
theorem dL_law_666 : decode cL_law 666 = .ok (.iconst 2, 1) := dq_5 (by decide +kernel)
set_option maxRecDepth 100000 in
theorem dL_law_667 : decode cL_law 667 = .ok (.iadd, 1) := dq_96 (by decide +kernel)
set_option maxRecDepth 100000 in
theorem dL_law_668 : decode cL_law 668 = .ok (.iaload, 1) := dq_46 (by decide +kernel)
set_option maxRecDepth 100000 in
theorem dL_law_669 : decode cL_law 669 = .ok (.aload_n 0, 1) := dq_42 (by decide +kernel)
set_option maxRecDepth 100000 in
theorem dL_law_670 : decode cL_law 670 = .ok (.iload_n 3, 1) := dq_29 (by decide +kernel)
set_option maxRecDepth 100000 in
theorem dL_law_671 : decode cL_law 671 = .ok (.iconst 3, 1) := dq_6 (by decide +kernel)
set_option maxRecDepth 100000 in
theorem dL_law_672 : decode cL_law 672 = .ok (.iadd, 1) := dq_96 (by decide +kernel)
set_option maxRecDepth 100000 in
theorem dL_law_673 : decode cL_law 673 = .ok (.iaload, 1) := dq_46 (by decide +kernel)
set_option maxRecDepth 100000 in
theorem dL_law_674 : decode cL_law 674 = .ok (.invokevirtual 81, 3) := dq_182 (by decide +kernel)
set_option maxRecDepth 100000 in
theorem dL_law_677 : decode cL_law 677 = .ok (.pop, 1) := dq_87 (by decide +kernel)
set_option maxRecDepth 100000 in
theorem dL_law_678 : decode cL_law 678 = .ok (.aload_n 2, 1) := dq_44 (by decide +kernel)
set_option maxRecDepth 100000 in
theorem dL_law_679 : decode cL_law 679 = .ok (.aload_n 0, 1) := dq_42 (by decide +kernel)
set_option maxRecDepth 100000 in
theorem dL_law_680 : decode cL_law 680 = .ok (.iload_n 3, 1) := dq_29 (by decide +kernel)
set_option maxRecDepth 100000 in
theorem dL_law_681 : decode cL_law 681 = .ok (.iconst 1, 1) := dq_4 (by decide +kernel)
set_option maxRecDepth 100000 in
theorem dL_law_682 : decode cL_law 682 = .ok (.iadd, 1) := dq_96 (by decide +kernel)
set_option maxRecDepth 100000 in
theorem dL_law_683 : decode cL_law 683 = .ok (.iaload, 1) := dq_46 (by decide +kernel)
set_option maxRecDepth 100000 in
theorem dL_law_684 : decode cL_law 684 = .ok (.aload_n 0, 1) := dq_42 (by decide +kernel)
set_option maxRecDepth 100000 in
theorem dL_law_685 : decode cL_law 685 = .ok (.iload_n 3, 1) := dq_29 (by decide +kernel)
set_option maxRecDepth 100000 in
theorem dL_law_686 : decode cL_law 686 = .ok (.iconst 2, 1) := dq_5 (by decide +kernel)
set_option maxRecDepth 100000 in
theorem dL_law_687 : decode cL_law 687 = .ok (.iadd, 1) := dq_96 (by decide +kernel)
set_option maxRecDepth 100000 in
theorem dL_law_688 : decode cL_law 688 = .ok (.iaload, 1) := dq_46 (by decide +kernel)
set_option maxRecDepth 100000 in
theorem dL_law_689 : decode cL_law 689 = .ok (.aload_n 0, 1) := dq_42 (by decide +kernel)
set_option maxRecDepth 100000 in
theorem dL_law_690 : decode cL_law 690 = .ok (.iload_n 3, 1) := dq_29 (by decide +kernel)
set_option maxRecDepth 100000 in
theorem dL_law_691 : decode cL_law 691 = .ok (.iconst 3, 1) := dq_6 (by decide +kernel)
set_option maxRecDepth 100000 in
theorem dL_law_692 : decode cL_law 692 = .ok (.iadd, 1) := dq_96 (by decide +kernel)
set_option maxRecDepth 100000 in
theorem dL_law_693 : decode cL_law 693 = .ok (.iaload, 1) := dq_46 (by decide +kernel)
set_option maxRecDepth 100000 in
theorem dL_law_694 : decode cL_law 694 = .ok (.invokevirtual 84, 3) := dq_182 (by decide +kernel)
set_option maxRecDepth 100000 in
theorem dL_law_697 : decode cL_law 697 = .ok (.pop, 1) := dq_87 (by decide +kernel)
set_option maxRecDepth 100000 in
theorem dL_law_698 : decode cL_law 698 = .ok (.goto 758, 3) := dq_167 (by decide +kernel)
set_option maxRecDepth 100000 in
theorem dL_law_701 : decode cL_law 701 = .ok (.aload_n 1, 1) := dq_43 (by decide +kernel)
set_option maxRecDepth 100000 in
theorem dL_law_702 : decode cL_law 702 = .ok (.aload_n 0, 1) := dq_42 (by decide +kernel)
set_option maxRecDepth 100000 in
theorem dL_law_703 : decode cL_law 703 = .ok (.iload_n 3, 1) := dq_29 (by decide +kernel)
set_option maxRecDepth 100000 in
theorem dL_law_704 : decode cL_law 704 = .ok (.iconst 1, 1) := dq_4 (by decide +kernel)
set_option maxRecDepth 100000 in
theorem dL_law_705 : decode cL_law 705 = .ok (.iadd, 1) := dq_96 (by decide +kernel)
set_option maxRecDepth 100000 in
theorem dL_law_706 : decode cL_law 706 = .ok (.iaload, 1) := dq_46 (by decide +kernel)
set_option maxRecDepth 100000 in
theorem dL_law_707 : decode cL_law 707 = .ok (.invokevirtual 85, 3) := dq_182 (by decide +kernel)
set_option maxRecDepth 100000 in
theorem dL_law_710 : decode cL_law 710 = .ok (.pop, 1) := dq_87 (by decide +kernel)
set_option maxRecDepth 100000 in
theorem dL_law_711 : decode cL_law 711 = .ok (.aload_n 2, 1) := dq_44 (by decide +kernel)
set_option maxRecDepth 100000 in
theorem dL_law_712 : decode cL_law 712 = .ok (.aload_n 0, 1) := dq_42 (by decide +kernel)
set_option maxRecDepth 100000 in
theorem dL_law_713 : decode cL_law 713 = .ok (.iload_n 3, 1) := dq_29 (by decide +kernel)
set_option maxRecDepth 100000 in
theorem dL_law_714 : decode cL_law 714 = .ok (.iconst 1, 1) := dq_4 (by decide +kernel)
set_option maxRecDepth 100000 in
theorem dL_law_715 : decode cL_law 715 = .ok (.iadd, 1) := dq_96 (by decide +kernel)
set_option maxRecDepth 100000 in
theorem dL_law_716 : decode cL_law 716 = .ok (.iaload, 1) := dq_46 (by decide +kernel)
set_option maxRecDepth 100000 in
theorem dL_law_717 : decode cL_law 717 = .ok (.invokevirtual 88, 3) := dq_182 (by decide +kernel)
set_option maxRecDepth 100000 in
theorem dL_law_720 : decode cL_law 720 = .ok (.pop, 1) := dq_87 (by decide +kernel)
set_option maxRecDepth 100000 in
theorem dL_law_721 : decode cL_law 721 = .ok (.goto 735, 3) := dq_167 (by decide +kernel)
set_option maxRecDepth 100000 in
theorem dL_law_724 : decode cL_law 724 = .ok (.aload_n 1, 1) := dq_43 (by decide +kernel)
set_option maxRecDepth 100000 in
theorem dL_law_725 : decode cL_law 725 = .ok (.aload_n 0, 1) := dq_42 (by decide +kernel)
set_option maxRecDepth 100000 in
theorem dL_law_726 : decode cL_law 726 = .ok (.iload_n 3, 1) := dq_29 (by decide +kernel)
set_option maxRecDepth 100000 in
theorem dL_law_727 : decode cL_law 727 = .ok (.iconst 1, 1) := dq_4 (by decide +kernel)
set_option maxRecDepth 100000 in
theorem dL_law_728 : decode cL_law 728 = .ok (.iadd, 1) := dq_96 (by decide +kernel)
set_option maxRecDepth 100000 in
theorem dL_law_729 : decode cL_law 729 = .ok (.iaload, 1) := dq_46 (by decide +kernel)
set_option maxRecDepth 100000 in
theorem dL_law_730 : decode cL_law 730 = .ok (.aload_n 0, 1) := dq_42 (by decide +kernel)
set_option maxRecDepth 100000 in
theorem dL_law_731 : decode cL_law 731 = .ok (.iload_n 3, 1) := dq_29 (by decide +kernel)
set_option maxRecDepth 100000 in
theorem dL_law_732 : decode cL_law 732 = .ok (.iconst 2, 1) := dq_5 (by decide +kernel)
set_option maxRecDepth 100000 in
theorem dL_law_733 : decode cL_law 733 = .ok (.iadd, 1) := dq_96 (by decide +kernel)
set_option maxRecDepth 100000 in
theorem dL_law_734 : decode cL_law 734 = .ok (.iaload, 1) := dq_46 (by decide +kernel)
set_option maxRecDepth 100000 in
theorem dL_law_735 : decode cL_law 735 = .ok (.aload_n 0, 1) := dq_42 (by decide +kernel)
set_option maxRecDepth 100000 in
theorem dL_law_736 : decode cL_law 736 = .ok (.iload_n 3, 1) := dq_29 (by decide +kernel)
set_option maxRecDepth 100000 in
theorem dL_law_737 : decode cL_law 737 = .ok (.iconst 3, 1) := dq_6 (by decide +kernel)
set_option maxRecDepth 100000 in
theorem dL_law_738 : decode cL_law 738 = .ok (.iadd, 1) := dq_96 (by decide +kernel)
set_option maxRecDepth 100000 in
theorem dL_law_739 : decode cL_law 739 = .ok (.iaload, 1) := dq_46 (by decide +kernel)
set_option maxRecDepth 100000 in
theorem dL_law_740 : decode cL_law 740 = .ok (.invokevirtual 89, 3) := dq_182 (by decide +kernel)
set_option maxRecDepth 100000 in
theorem dL_law_743 : decode cL_law 743 = .ok (.pop, 1) := dq_87 (by decide +kernel)
set_option maxRecDepth 100000 in
theorem dL_law_744 : decode cL_law 744 = .ok (.aload_n 2, 1) := dq_44 (by decide +kernel)
set_option maxRecDepth 100000 in
theorem dL_law_745 : decode cL_law 745 = .ok (.aload_n 0, 1) := dq_42 (by decide +kernel)
set_option maxRecDepth 100000 in
theorem dL_law_746 : decode cL_law 746 = .ok (.iload_n 3, 1) := dq_29 (by decide +kernel)
set_option maxRecDepth 100000 in
theorem dL_law_747 : decode cL_law 747 = .ok (.iconst 1, 1) := dq_4 (by decide +kernel)
set_option maxRecDepth 100000 in
theorem dL_law_748 : decode cL_law 748 = .ok (.iadd, 1) := dq_96 (by decide +kernel)
set_option maxRecDepth 100000 in
theorem dL_law_749 : decode cL_law 749 = .ok (.iaload, 1) := dq_46 (by decide +kernel)
set_option maxRecDepth 100000 in
theorem dL_law_750 : decode cL_law 750 = .ok (.aload_n 0, 1) := dq_42 (by decide +kernel)
set_option maxRecDepth 100000 in
theorem dL_law_751 : decode cL_law 751 = .ok (.iload_n 3, 1) := dq_29 (by decide +kernel)
set_option maxRecDepth 100000 in
theorem dL_law_752 : decode cL_law 752 = .ok (.iconst 2, 1) := dq_5 (by decide +kernel)
set_option maxRecDepth 100000 in
theorem dL_law_753 : decode cL_law 753 = .ok (.iadd, 1) := dq_96 (by decide +kernel)
set_option maxRecDepth 100000 in
theorem dL_law_754 : decode cL_law 754 = .ok (.iaload, 1) := dq_46 (by decide +kernel)
set_option maxRecDepth 100000 in
theorem dL_law_755 : decode cL_law 755 = .ok (.aload_n 0, 1) := dq_42 (by decide +kernel)
set_option maxRecDepth 100000 in
theorem dL_law_756 : decode cL_law 756 = .ok (.iload_n 3, 1) := dq_29 (by decide +kernel)
set_option maxRecDepth 100000 in
theorem dL_law_757 : decode cL_law 757 = .ok (.iconst 3, 1) := dq_6 (by decide +kernel)
set_option maxRecDepth 100000 in
theorem dL_law_758 : decode cL_law 758 = .ok (.iadd, 1) := dq_96 (by decide +kernel)
set_option maxRecDepth 100000 in
theorem dL_law_759 : decode cL_law 759 = .ok (.iaload, 1) := dq_46 (by decide +kernel)
set_option maxRecDepth 100000 in
theorem dL_law_760 : decode cL_law 760 = .ok (.invokevirtual 92, 3) := dq_182 (by decide +kernel)
set_option maxRecDepth 100000 in
theorem dL_law_763 : decode cL_law 763 = .ok (.pop, 1) := dq_87 (by decide +kernel)
set_option maxRecDepth 100000 in
theorem dL_law_764 : decode cL_law 764 = .ok (.goto 692, 3) := dq_167 (by decide +kernel)
set_option maxRecDepth 100000 in
theorem dL_law_767 : decode cL_law 767 = .ok (.aload_n 1, 1) := dq_43 (by decide +kernel)
set_option maxRecDepth 100000 in
theorem dL_law_768 : decode cL_law 768 = .ok (.aload_n 0, 1) := dq_42 (by decide +kernel)
set_option maxRecDepth 100000 in
theorem dL_law_769 : decode cL_law 769 = .ok (.iload_n 3, 1) := dq_29 (by decide +kernel)
set_option maxRecDepth 100000 in
theorem dL_law_770 : decode cL_law 770 = .ok (.iconst 1, 1) := dq_4 (by decide +kernel)
set_option maxRecDepth 100000 in
theorem dL_law_771 : decode cL_law 771 = .ok (.iadd, 1) := dq_96 (by decide +kernel)
set_option maxRecDepth 100000 in
theorem dL_law_772 : decode cL_law 772 = .ok (.iaload, 1) := dq_46 (by decide +kernel)
set_option maxRecDepth 100000 in
theorem dL_law_773 : decode cL_law 773 = .ok (.aload_n 0, 1) := dq_42 (by decide +kernel)
set_option maxRecDepth 100000 in
theorem dL_law_774 : decode cL_law 774 = .ok (.iload_n 3, 1) := dq_29 (by decide +kernel)
set_option maxRecDepth 100000 in
theorem dL_law_775 : decode cL_law 775 = .ok (.iconst 2, 1) := dq_5 (by decide +kernel)
set_option maxRecDepth 100000 in
theorem dL_law_776 : decode cL_law 776 = .ok (.iadd, 1) := dq_96 (by decide +kernel)
set_option maxRecDepth 100000 in
theorem dL_law_777 : decode cL_law 777 = .ok (.iaload, 1) := dq_46 (by decide +kernel)
set_option maxRecDepth 100000 in
theorem dL_law_778 : decode cL_law 778 = .ok (.aload_n 0, 1) := dq_42 (by decide +kernel)
set_option maxRecDepth 100000 in
theorem dL_law_779 : decode cL_law 779 = .ok (.iload_n 3, 1) := dq_29 (by decide +kernel)
set_option maxRecDepth 100000 in
theorem dL_law_780 : decode cL_law 780 = .ok (.iconst 3, 1) := dq_6 (by decide +kernel)
set_option maxRecDepth 100000 in
theorem dL_law_781 : decode cL_law 781 = .ok (.iadd, 1) := dq_96 (by decide +kernel)
set_option maxRecDepth 100000 in
theorem dL_law_782 : decode cL_law 782 = .ok (.iaload, 1) := dq_46 (by decide +kernel)
set_option maxRecDepth 100000 in
theorem dL_law_783 : decode cL_law 783 = .ok (.aload_n 0, 1) := dq_42 (by decide +kernel)
set_option maxRecDepth 100000 in
theorem dL_law_784 : decode cL_law 784 = .ok (.iload_n 3, 1) := dq_29 (by decide +kernel)
set_option maxRecDepth 100000 in
theorem dL_law_785 : decode cL_law 785 = .ok (.iconst 4, 1) := dq_7 (by decide +kernel)
set_option maxRecDepth 100000 in
theorem dL_law_786 : decode cL_law 786 = .ok (.iadd, 1) := dq_96 (by decide +kernel)
set_option maxRecDepth 100000 in
theorem dL_law_787 : decode cL_law 787 = .ok (.iaload, 1) := dq_46 (by decide +kernel)
set_option maxRecDepth 100000 in
theorem dL_law_788 : decode cL_law 788 = .ok (.invokevirtual 93, 3) := dq_182 (by decide +kernel)
set_option maxRecDepth 100000 in
theorem dL_law_791 : decode cL_law 791 = .ok (.pop, 1) := dq_87 (by decide +kernel)
set_option maxRecDepth 100000 in
theorem dL_law_792 : decode cL_law 792 = .ok (.aload_n 2, 1) := dq_44 (by decide +kernel)
set_option maxRecDepth 100000 in
theorem dL_law_793 : decode cL_law 793 = .ok (.aload_n 0, 1) := dq_42 (by decide +kernel)
set_option maxRecDepth 100000 in
theorem dL_law_794 : decode cL_law 794 = .ok (.iload_n 3, 1) := dq_29 (by decide +kernel)
set_option maxRecDepth 100000 in
theorem dL_law_795 : decode cL_law 795 = .ok (.iconst 1, 1) := dq_4 (by decide +kernel)
set_option maxRecDepth 100000 in
theorem dL_law_796 : decode cL_law 796 = .ok (.iadd, 1) := dq_96 (by decide +kernel)
set_option maxRecDepth 100000 in
theorem dL_law_797 : decode cL_law 797 = .ok (.iaload, 1) := dq_46 (by decide +kernel)
set_option maxRecDepth 100000 in
theorem dL_law_798 : decode cL_law 798 = .ok (.aload_n 0, 1) := dq_42 (by decide +kernel)
set_option maxRecDepth 100000 in
theorem dL_law_799 : decode cL_law 799 = .ok (.iload_n 3, 1) := dq_29 (by decide +kernel)
set_option maxRecDepth 100000 in
theorem dL_law_800 : decode cL_law 800 = .ok (.iconst 2, 1) := dq_5 (by decide +kernel)
set_option maxRecDepth 100000 in
theorem dL_law_801 : decode cL_law 801 = .ok (.iadd, 1) := dq_96 (by decide +kernel)
set_option maxRecDepth 100000 in
theorem dL_law_802 : decode cL_law 802 = .ok (.iaload, 1) := dq_46 (by decide +kernel)
set_option maxRecDepth 100000 in
theorem dL_law_803 : decode cL_law 803 = .ok (.aload_n 0, 1) := dq_42 (by decide +kernel)
set_option maxRecDepth 100000 in
theorem dL_law_804 : decode cL_law 804 = .ok (.iload_n 3, 1) := dq_29 (by decide +kernel)
set_option maxRecDepth 100000 in
theorem dL_law_805 : decode cL_law 805 = .ok (.iconst 3, 1) := dq_6 (by decide +kernel)
set_option maxRecDepth 100000 in
theorem dL_law_806 : decode cL_law 806 = .ok (.iadd, 1) := dq_96 (by decide +kernel)
set_option maxRecDepth 100000 in
theorem dL_law_807 : decode cL_law 807 = .ok (.iaload, 1) := dq_46 (by decide +kernel)
set_option maxRecDepth 100000 in
theorem dL_law_808 : decode cL_law 808 = .ok (.aload_n 0, 1) := dq_42 (by decide +kernel)
set_option maxRecDepth 100000 in
theorem dL_law_809 : decode cL_law 809 = .ok (.iload_n 3, 1) := dq_29 (by decide +kernel)
set_option maxRecDepth 100000 in
theorem dL_law_810 : decode cL_law 810 = .ok (.iconst 4, 1) := dq_7 (by decide +kernel)
set_option maxRecDepth 100000 in
theorem dL_law_811 : decode cL_law 811 = .ok (.iadd, 1) := dq_96 (by decide +kernel)
set_option maxRecDepth 100000 in
theorem dL_law_812 : decode cL_law 812 = .ok (.iaload, 1) := dq_46 (by decide +kernel)
set_option maxRecDepth 100000 in
theorem dL_law_813 : decode cL_law 813 = .ok (.invokevirtual 97, 3) := dq_182 (by decide +kernel)
set_option maxRecDepth 100000 in
theorem dL_law_816 : decode cL_law 816 = .ok (.pop, 1) := dq_87 (by decide +kernel)
set_option maxRecDepth 100000 in
theorem dL_law_817 : decode cL_law 817 = .ok (.goto 639, 3) := dq_167 (by decide +kernel)
set_option maxRecDepth 100000 in
theorem dL_law_820 : decode cL_law 820 = .ok (.aload_n 1, 1) := dq_43 (by decide +kernel)
set_option maxRecDepth 100000 in
theorem dL_law_821 : decode cL_law 821 = .ok (.aload_n 0, 1) := dq_42 (by decide +kernel)
set_option maxRecDepth 100000 in
theorem dL_law_822 : decode cL_law 822 = .ok (.iload_n 3, 1) := dq_29 (by decide +kernel)
set_option maxRecDepth 100000 in
theorem dL_law_823 : decode cL_law 823 = .ok (.iconst 1, 1) := dq_4 (by decide +kernel)
set_option maxRecDepth 100000 in
theorem dL_law_824 : decode cL_law 824 = .ok (.iadd, 1) := dq_96 (by decide +kernel)
set_option maxRecDepth 100000 in
theorem dL_law_825 : decode cL_law 825 = .ok (.iaload, 1) := dq_46 (by decide +kernel)
set_option maxRecDepth 100000 in
theorem dL_law_826 : decode cL_law 826 = .ok (.aload_n 0, 1) := dq_42 (by decide +kernel)
set_option maxRecDepth 100000 in
theorem dL_law_827 : decode cL_law 827 = .ok (.iload_n 3, 1) := dq_29 (by decide +kernel)
set_option maxRecDepth 100000 in
theorem dL_law_828 : decode cL_law 828 = .ok (.iconst 2, 1) := dq_5 (by decide +kernel)
set_option maxRecDepth 100000 in
theorem dL_law_829 : decode cL_law 829 = .ok (.iadd, 1) := dq_96 (by decide +kernel)
set_option maxRecDepth 100000 in
theorem dL_law_830 : decode cL_law 830 = .ok (.iaload, 1) := dq_46 (by decide +kernel)
set_option maxRecDepth 100000 in
theorem dL_law_831 : decode cL_law 831 = .ok (.aload_n 0, 1) := dq_42 (by decide +kernel)
set_option maxRecDepth 100000 in
theorem dL_law_832 : decode cL_law 832 = .ok (.iload_n 3, 1) := dq_29 (by decide +kernel)
set_option maxRecDepth 100000 in
theorem dL_law_833 : decode cL_law 833 = .ok (.iconst 3, 1) := dq_6 (by decide +kernel)
set_option maxRecDepth 100000 in
theorem dL_law_834 : decode cL_law 834 = .ok (.iadd, 1) := dq_96 (by decide +kernel)
set_option maxRecDepth 100000 in
theorem dL_law_835 : decode cL_law 835 = .ok (.iaload, 1) := dq_46 (by decide +kernel)
set_option maxRecDepth 100000 in
theorem dL_law_836 : decode cL_law 836 = .ok (.aload_n 0, 1) := dq_42 (by decide +kernel)
set_option maxRecDepth 100000 in
theorem dL_law_837 : decode cL_law 837 = .ok (.iload_n 3, 1) := dq_29 (by decide +kernel)
set_option maxRecDepth 100000 in
theorem dL_law_838 : decode cL_law 838 = .ok (.iconst 4, 1) := dq_7 (by decide +kernel)
set_option maxRecDepth 100000 in
theorem dL_law_839 : decode cL_law 839 = .ok (.iadd, 1) := dq_96 (by decide +kernel)
set_option maxRecDepth 100000 in
theorem dL_law_840 : decode cL_law 840 = .ok (.iaload, 1) := dq_46 (by decide +kernel)
set_option maxRecDepth 100000 in
theorem dL_law_841 : decode cL_law 841 = .ok (.aload_n 0, 1) := dq_42 (by decide +kernel)
set_option maxRecDepth 100000 in
theorem dL_law_842 : decode cL_law 842 = .ok (.iload_n 3, 1) := dq_29 (by decide +kernel)
set_option maxRecDepth 100000 in
theorem dL_law_843 : decode cL_law 843 = .ok (.iconst 5, 1) := dq_8 (by decide +kernel)
set_option maxRecDepth 100000 in
theorem dL_law_844 : decode cL_law 844 = .ok (.iadd, 1) := dq_96 (by decide +kernel)
set_option maxRecDepth 100000 in
theorem dL_law_845 : decode cL_law 845 = .ok (.iaload, 1) := dq_46 (by decide +kernel)
set_option maxRecDepth 100000 in
theorem dL_law_846 : decode cL_law 846 = .ok (.invokevirtual 98, 3) := dq_182 (by decide +kernel)
set_option maxRecDepth 100000 in
theorem dL_law_849 : decode cL_law 849 = .ok (.pop, 1) := dq_87 (by decide +kernel)
set_option maxRecDepth 100000 in
theorem dL_law_850 : decode cL_law 850 = .ok (.aload_n 2, 1) := dq_44 (by decide +kernel)
set_option maxRecDepth 100000 in
theorem dL_law_851 : decode cL_law 851 = .ok (.aload_n 0, 1) := dq_42 (by decide +kernel)
set_option maxRecDepth 100000 in
theorem dL_law_852 : decode cL_law 852 = .ok (.iload_n 3, 1) := dq_29 (by decide +kernel)
set_option maxRecDepth 100000 in
theorem dL_law_853 : decode cL_law 853 = .ok (.iconst 1, 1) := dq_4 (by decide +kernel)
set_option maxRecDepth 100000 in
theorem dL_law_854 : decode cL_law 854 = .ok (.iadd, 1) := dq_96 (by decide +kernel)
set_option maxRecDepth 100000 in
theorem dL_law_855 : decode cL_law 855 = .ok (.iaload, 1) := dq_46 (by decide +kernel)
set_option maxRecDepth 100000 in
theorem dL_law_856 : decode cL_law 856 = .ok (.aload_n 0, 1) := dq_42 (by decide +kernel)
set_option maxRecDepth 100000 in
theorem dL_law_857 : decode cL_law 857 = .ok (.iload_n 3, 1) := dq_29 (by decide +kernel)
set_option maxRecDepth 100000 in
theorem dL_law_858 : decode cL_law 858 = .ok (.iconst 2, 1) := dq_5 (by decide +kernel)
set_option maxRecDepth 100000 in
theorem dL_law_859 : decode cL_law 859 = .ok (.iadd, 1) := dq_96 (by decide +kernel)
set_option maxRecDepth 100000 in
theorem dL_law_860 : decode cL_law 860 = .ok (.iaload, 1) := dq_46 (by decide +kernel)
set_option maxRecDepth 100000 in
theorem dL_law_861 : decode cL_law 861 = .ok (.aload_n 0, 1) := dq_42 (by decide +kernel)
set_option maxRecDepth 100000 in
theorem dL_law_862 : decode cL_law 862 = .ok (.iload_n 3, 1) := dq_29 (by decide +kernel)
set_option maxRecDepth 100000 in
theorem dL_law_863 : decode cL_law 863 = .ok (.iconst 3, 1) := dq_6 (by decide +kernel)
set_option maxRecDepth 100000 in
theorem dL_law_864 : decode cL_law 864 = .ok (.iadd, 1) := dq_96 (by decide +kernel)
set_option maxRecDepth 100000 in
theorem dL_law_865 : decode cL_law 865 = .ok (.iaload, 1) := dq_46 (by decide +kernel)
set_option maxRecDepth 100000 in
theorem dL_law_866 : decode cL_law 866 = .ok (.aload_n 0, 1) := dq_42 (by decide +kernel)
set_option maxRecDepth 100000 in
theorem dL_law_867 : decode cL_law 867 = .ok (.iload_n 3, 1) := dq_29 (by decide +kernel)
set_option maxRecDepth 100000 in
theorem dL_law_868 : decode cL_law 868 = .ok (.iconst 4, 1) := dq_7 (by decide +kernel)
set_option maxRecDepth 100000 in
theorem dL_law_869 : decode cL_law 869 = .ok (.iadd, 1) := dq_96 (by decide +kernel)
set_option maxRecDepth 100000 in
theorem dL_law_870 : decode cL_law 870 = .ok (.iaload, 1) := dq_46 (by decide +kernel)
set_option maxRecDepth 100000 in
theorem dL_law_871 : decode cL_law 871 = .ok (.aload_n 0, 1) := dq_42 (by decide +kernel)
set_option maxRecDepth 100000 in
theorem dL_law_872 : decode cL_law 872 = .ok (.iload_n 3, 1) := dq_29 (by decide +kernel)
set_option maxRecDepth 100000 in
theorem dL_law_873 : decode cL_law 873 = .ok (.iconst 5, 1) := dq_8 (by decide +kernel)
set_option maxRecDepth 100000 in
theorem dL_law_874 : decode cL_law 874 = .ok (.iadd, 1) := dq_96 (by decide +kernel)
set_option maxRecDepth 100000 in
theorem dL_law_875 : decode cL_law 875 = .ok (.iaload, 1) := dq_46 (by decide +kernel)
set_option maxRecDepth 100000 in
theorem dL_law_876 : decode cL_law 876 = .ok (.invokevirtual 102, 3) := dq_182 (by decide +kernel)
set_option maxRecDepth 100000 in
theorem dL_law_879 : decode cL_law 879 = .ok (.pop, 1) := dq_87 (by decide +kernel)
set_option maxRecDepth 100000 in
theorem dL_law_880 : decode cL_law 880 = .ok (.goto 576, 3) := dq_167 (by decide +kernel)
set_option maxRecDepth 100000 in
theorem dL_law_883 : decode cL_law 883 = .ok (.aload_n 1, 1) := dq_43 (by decide +kernel)
set_option maxRecDepth 100000 in
theorem dL_law_884 : decode cL_law 884 = .ok (.aload_n 0, 1) := dq_42 (by decide +kernel)
set_option maxRecDepth 100000 in
theorem dL_law_885 : decode cL_law 885 = .ok (.iload_n 3, 1) := dq_29 (by decide +kernel)
set_option maxRecDepth 100000 in
theorem dL_law_886 : decode cL_law 886 = .ok (.iconst 1, 1) := dq_4 (by decide +kernel)
set_option maxRecDepth 100000 in
theorem dL_law_887 : decode cL_law 887 = .ok (.iadd, 1) := dq_96 (by decide +kernel)
set_option maxRecDepth 100000 in
theorem dL_law_888 : decode cL_law 888 = .ok (.iaload, 1) := dq_46 (by decide +kernel)
set_option maxRecDepth 100000 in
theorem dL_law_889 : decode cL_law 889 = .ok (.aload_n 0, 1) := dq_42 (by decide +kernel)
set_option maxRecDepth 100000 in
theorem dL_law_890 : decode cL_law 890 = .ok (.iload_n 3, 1) := dq_29 (by decide +kernel)
set_option maxRecDepth 100000 in
theorem dL_law_891 : decode cL_law 891 = .ok (.iconst 2, 1) := dq_5 (by decide +kernel)
set_option maxRecDepth 100000 in
theorem dL_law_892 : decode cL_law 892 = .ok (.iadd, 1) := dq_96 (by decide +kernel)
set_option maxRecDepth 100000 in
theorem dL_law_893 : decode cL_law 893 = .ok (.iaload, 1) := dq_46 (by decide +kernel)
set_option maxRecDepth 100000 in
theorem dL_law_894 : decode cL_law 894 = .ok (.invokevirtual 103, 3) := dq_182 (by decide +kernel)
set_option maxRecDepth 100000 in
theorem dL_law_897 : decode cL_law 897 = .ok (.pop, 1) := dq_87 (by decide +kernel)
set_option maxRecDepth 100000 in
theorem dL_law_898 : decode cL_law 898 = .ok (.aload_n 2, 1) := dq_44 (by decide +kernel)
set_option maxRecDepth 100000 in
theorem dL_law_899 : decode cL_law 899 = .ok (.aload_n 0, 1) := dq_42 (by decide +kernel)
set_option maxRecDepth 100000 in
theorem dL_law_900 : decode cL_law 900 = .ok (.iload_n 3, 1) := dq_29 (by decide +kernel)
set_option maxRecDepth 100000 in
theorem dL_law_901 : decode cL_law 901 = .ok (.iconst 1, 1) := dq_4 (by decide +kernel)
set_option maxRecDepth 100000 in
theorem dL_law_902 : decode cL_law 902 = .ok (.iadd, 1) := dq_96 (by decide +kernel)
set_option maxRecDepth 100000 in
theorem dL_law_903 : decode cL_law 903 = .ok (.iaload, 1) := dq_46 (by decide +kernel)
set_option maxRecDepth 100000 in
theorem dL_law_904 : decode cL_law 904 = .ok (.aload_n 0, 1) := dq_42 (by decide +kernel)
set_option maxRecDepth 100000 in
theorem dL_law_905 : decode cL_law 905 = .ok (.iload_n 3, 1) := dq_29 (by decide +kernel)
set_option maxRecDepth 100000 in
theorem dL_law_906 : decode cL_law 906 = .ok (.iconst 2, 1) := dq_5 (by decide +kernel)
set_option maxRecDepth 100000 in
theorem dL_law_907 : decode cL_law 907 = .ok (.iadd, 1) := dq_96 (by decide +kernel)
set_option maxRecDepth 100000 in
theorem dL_law_908 : decode cL_law 908 = .ok (.iaload, 1) := dq_46 (by decide +kernel)
set_option maxRecDepth 100000 in
theorem dL_law_909 : decode cL_law 909 = .ok (.invokevirtual 106, 3) := dq_182 (by decide +kernel)
set_option maxRecDepth 100000 in
theorem dL_law_912 : decode cL_law 912 = .ok (.pop, 1) := dq_87 (by decide +kernel)
set_option maxRecDepth 100000 in
theorem dL_law_913 : decode cL_law 913 = .ok (.goto 543, 3) := dq_167 (by decide +kernel)
set_option maxRecDepth 100000 in
theorem dL_law_916 : decode cL_law 916 = .ok (.aload_n 1, 1) := dq_43 (by decide +kernel)
set_option maxRecDepth 100000 in
theorem dL_law_917 : decode cL_law 917 = .ok (.aload_n 0, 1) := dq_42 (by decide +kernel)
set_option maxRecDepth 100000 in
theorem dL_law_918 : decode cL_law 918 = .ok (.iload_n 3, 1) := dq_29 (by decide +kernel)
set_option maxRecDepth 100000 in
theorem dL_law_919 : decode cL_law 919 = .ok (.iconst 1, 1) := dq_4 (by decide +kernel)
set_option maxRecDepth 100000 in
theorem dL_law_920 : decode cL_law 920 = .ok (.iadd, 1) := dq_96 (by decide +kernel)
set_option maxRecDepth 100000 in
theorem dL_law_921 : decode cL_law 921 = .ok (.iaload, 1) := dq_46 (by decide +kernel)
set_option maxRecDepth 100000 in
theorem dL_law_922 : decode cL_law 922 = .ok (.invokevirtual 107, 3) := dq_182 (by decide +kernel)
set_option maxRecDepth 100000 in
theorem dL_law_925 : decode cL_law 925 = .ok (.pop, 1) := dq_87 (by decide +kernel)
set_option maxRecDepth 100000 in
theorem dL_law_926 : decode cL_law 926 = .ok (.aload_n 2, 1) := dq_44 (by decide +kernel)
set_option maxRecDepth 100000 in
theorem dL_law_927 : decode cL_law 927 = .ok (.aload_n 0, 1) := dq_42 (by decide +kernel)
set_option maxRecDepth 100000 in
theorem dL_law_928 : decode cL_law 928 = .ok (.iload_n 3, 1) := dq_29 (by decide +kernel)
set_option maxRecDepth 100000 in
theorem dL_law_929 : decode cL_law 929 = .ok (.iconst 1, 1) := dq_4 (by decide +kernel)
set_option maxRecDepth 100000 in
theorem dL_law_930 : decode cL_law 930 = .ok (.iadd, 1) := dq_96 (by decide +kernel)
set_option maxRecDepth 100000 in
theorem dL_law_931 : decode cL_law 931 = .ok (.iaload, 1) := dq_46 (by decide +kernel)
set_option maxRecDepth 100000 in
theorem dL_law_932 : decode cL_law 932 = .ok (.invokevirtual 110, 3) := dq_182 (by decide +kernel)
set_option maxRecDepth 100000 in
theorem dL_law_935 : decode cL_law 935 = .ok (.pop, 1) := dq_87 (by decide +kernel)
set_option maxRecDepth 100000 in
theorem dL_law_936 : decode cL_law 936 = .ok (.goto 520, 3) := dq_167 (by decide +kernel)
set_option maxRecDepth 100000 in
theorem dL_law_939 : decode cL_law 939 = .ok (.aload_n 1, 1) := dq_43 (by decide +kernel)
set_option maxRecDepth 100000 in
theorem dL_law_940 : decode cL_law 940 = .ok (.aload_n 0, 1) := dq_42 (by decide +kernel)
set_option maxRecDepth 100000 in
theorem dL_law_941 : decode cL_law 941 = .ok (.iload_n 3, 1) := dq_29 (by decide +kernel)
set_option maxRecDepth 100000 in
theorem dL_law_942 : decode cL_law 942 = .ok (.iconst 1, 1) := dq_4 (by decide +kernel)
set_option maxRecDepth 100000 in
theorem dL_law_943 : decode cL_law 943 = .ok (.iadd, 1) := dq_96 (by decide +kernel)
set_option maxRecDepth 100000 in
theorem dL_law_944 : decode cL_law 944 = .ok (.iaload, 1) := dq_46 (by decide +kernel)
set_option maxRecDepth 100000 in
theorem dL_law_945 : decode cL_law 945 = .ok (.aload_n 0, 1) := dq_42 (by decide +kernel)
set_option maxRecDepth 100000 in
theorem dL_law_946 : decode cL_law 946 = .ok (.iload_n 3, 1) := dq_29 (by decide +kernel)
set_option maxRecDepth 100000 in
theorem dL_law_947 : decode cL_law 947 = .ok (.iconst 2, 1) := dq_5 (by decide +kernel)
set_option maxRecDepth 100000 in
theorem dL_law_948 : decode cL_law 948 = .ok (.iadd, 1) := dq_96 (by decide +kernel)
set_option maxRecDepth 100000 in
theorem dL_law_949 : decode cL_law 949 = .ok (.iaload, 1) := dq_46 (by decide +kernel)
set_option maxRecDepth 100000 in
theorem dL_law_950 : decode cL_law 950 = .ok (.aload_n 0, 1) := dq_42 (by decide +kernel)
set_option maxRecDepth 100000 in
theorem dL_law_951 : decode cL_law 951 = .ok (.iload_n 3, 1) := dq_29 (by decide +kernel)
set_option maxRecDepth 100000 in
theorem dL_law_952 : decode cL_law 952 = .ok (.iconst 3, 1) := dq_6 (by decide +kernel)
set_option maxRecDepth 100000 in
theorem dL_law_953 : decode cL_law 953 = .ok (.iadd, 1) := dq_96 (by decide +kernel)
set_option maxRecDepth 100000 in
theorem dL_law_954 : decode cL_law 954 = .ok (.iaload, 1) := dq_46 (by decide +kernel)
set_option maxRecDepth 100000 in
theorem dL_law_955 : decode cL_law 955 = .ok (.invokevirtual 111, 3) := dq_182 (by decide +kernel)
set_option maxRecDepth 100000 in
theorem dL_law_958 : decode cL_law 958 = .ok (.pop, 1) := dq_87 (by decide +kernel)
set_option maxRecDepth 100000 in
theorem dL_law_959 : decode cL_law 959 = .ok (.aload_n 2, 1) := dq_44 (by decide +kernel)
set_option maxRecDepth 100000 in
theorem dL_law_960 : decode cL_law 960 = .ok (.aload_n 0, 1) := dq_42 (by decide +kernel)
set_option maxRecDepth 100000 in
theorem dL_law_961 : decode cL_law 961 = .ok (.iload_n 3, 1) := dq_29 (by decide +kernel)
set_option maxRecDepth 100000 in
theorem dL_law_962 : decode cL_law 962 = .ok (.iconst 1, 1) := dq_4 (by decide +kernel)
set_option maxRecDepth 100000 in
theorem dL_law_963 : decode cL_law 963 = .ok (.iadd, 1) := dq_96 (by decide +kernel)
set_option maxRecDepth 100000 in
theorem dL_law_964 : decode cL_law 964 = .ok (.iaload, 1) := dq_46 (by decide +kernel)
set_option maxRecDepth 100000 in
theorem dL_law_965 : decode cL_law 965 = .ok (.aload_n 0, 1) := dq_42 (by decide +kernel)
set_option maxRecDepth 100000 in
theorem dL_law_966 : decode cL_law 966 = .ok (.iload_n 3, 1) := dq_29 (by decide +kernel)
set_option maxRecDepth 100000 in
theorem dL_law_967 : decode cL_law 967 = .ok (.iconst 2, 1) := dq_5 (by decide +kernel)
set_option maxRecDepth 100000 in
theorem dL_law_968 : decode cL_law 968 = .ok (.iadd, 1) := dq_96 (by decide +kernel)
set_option maxRecDepth 100000 in
theorem dL_law_969 : decode cL_law 969 = .ok (.iaload, 1) := dq_46 (by decide +kernel)
set_option maxRecDepth 100000 in
theorem dL_law_970 : decode cL_law 970 = .ok (.aload_n 0, 1) := dq_42 (by decide +kernel)
set_option maxRecDepth 100000 in
theorem dL_law_971 : decode cL_law 971 = .ok (.iload_n 3, 1) := dq_29 (by decide +kernel)
set_option maxRecDepth 100000 in
theorem dL_law_972 : decode cL_law 972 = .ok (.iconst 3, 1) := dq_6 (by decide +kernel)
set_option maxRecDepth 100000 in
theorem dL_law_973 : decode cL_law 973 = .ok (.iadd, 1) := dq_96 (by decide +kernel)
set_option maxRecDepth 100000 in
theorem dL_law_974 : decode cL_law 974 = .ok (.iaload, 1) := dq_46 (by decide +kernel)
set_option maxRecDepth 100000 in
theorem dL_law_975 : decode cL_law 975 = .ok (.invokevirtual 114, 3) := dq_182 (by decide +kernel)
set_option maxRecDepth 100000 in
theorem dL_law_978 : decode cL_law 978 = .ok (.pop, 1) := dq_87 (by decide +kernel)
set_option maxRecDepth 100000 in
theorem dL_law_979 : decode cL_law 979 = .ok (.goto 477, 3) := dq_167 (by decide +kernel)
set_option maxRecDepth 100000 in
theorem dL_law_982 : decode cL_law 982 = .ok (.aload_n 1, 1) := dq_43 (by decide +kernel)
set_option maxRecDepth 100000 in
theorem dL_law_983 : decode cL_law 983 = .ok (.aload_n 0, 1) := dq_42 (by decide +kernel)
set_option maxRecDepth 100000 in
theorem dL_law_984 : decode cL_law 984 = .ok (.iload_n 3, 1) := dq_29 (by decide +kernel)
set_option maxRecDepth 100000 in
theorem dL_law_985 : decode cL_law 985 = .ok (.iconst 1, 1) := dq_4 (by decide +kernel)
set_option maxRecDepth 100000 in
theorem dL_law_986 : decode cL_law 986 = .ok (.iadd, 1) := dq_96 (by decide +kernel)
set_option maxRecDepth 100000 in
theorem dL_law_987 : decode cL_law 987 = .ok (.iaload, 1) := dq_46 (by decide +kernel)
set_option maxRecDepth 100000 in
theorem dL_law_988 : decode cL_law 988 = .ok (.aload_n 0, 1) := dq_42 (by decide +kernel)
set_option maxRecDepth 100000 in
theorem dL_law_989 : decode cL_law 989 = .ok (.iload_n 3, 1) := dq_29 (by decide +kernel)
set_option maxRecDepth 100000 in
theorem dL_law_990 : decode cL_law 990 = .ok (.iconst 2, 1) := dq_5 (by decide +kernel)
set_option maxRecDepth 100000 in
theorem dL_law_991 : decode cL_law 991 = .ok (.iadd, 1) := dq_96 (by decide +kernel)
set_option maxRecDepth 100000 in
theorem dL_law_992 : decode cL_law 992 = .ok (.iaload, 1) := dq_46 (by decide +kernel)
set_option maxRecDepth 100000 in
theorem dL_law_993 : decode cL_law 993 = .ok (.aload_n 0, 1) := dq_42 (by decide +kernel)
set_option maxRecDepth 100000 in
theorem dL_law_994 : decode cL_law 994 = .ok (.iload_n 3, 1) := dq_29 (by decide +kernel)
set_option maxRecDepth 100000 in
theorem dL_law_995 : decode cL_law 995 = .ok (.iconst 3, 1) := dq_6 (by decide +kernel)
set_option maxRecDepth 100000 in
theorem dL_law_996 : decode cL_law 996 = .ok (.iadd, 1) := dq_96 (by decide +kernel)
set_option maxRecDepth 100000 in
theorem dL_law_997 : decode cL_law 997 = .ok (.iaload, 1) := dq_46 (by decide +kernel)
set_option maxRecDepth 100000 in
theorem dL_law_998 : decode cL_law 998 = .ok (.aload_n 0, 1) := dq_42 (by decide +kernel)
set_option maxRecDepth 100000 in
theorem dL_law_999 : decode cL_law 999 = .ok (.iload_n 3, 1) := dq_29 (by decide +kernel)
set_option maxRecDepth 100000 in
theorem dL_law_1000 : decode cL_law 1000 = .ok (.iconst 4, 1) := dq_7 (by decide +kernel)
set_option maxRecDepth 100000 in
theorem dL_law_1001 : decode cL_law 1001 = .ok (.iadd, 1) := dq_96 (by decide +kernel)
set_option maxRecDepth 100000 in
theorem dL_law_1002 : decode cL_law 1002 = .ok (.iaload, 1) := dq_46 (by decide +kernel)
set_option maxRecDepth 100000 in
theorem dL_law_1003 : decode cL_law 1003 = .ok (.aload_n 0, 1) := dq_42 (by decide +kernel)
set_option maxRecDepth 100000 in
theorem dL_law_1004 : decode cL_law 1004 = .ok (.iload_n 3, 1) := dq_29 (by decide +kernel)
set_option maxRecDepth 100000 in
theorem dL_law_1005 : decode cL_law 1005 = .ok (.iconst 5, 1) := dq_8 (by decide +kernel)
set_option maxRecDepth 100000 in
theorem dL_law_1006 : decode cL_law 1006 = .ok (.iadd, 1) := dq_96 (by decide +kernel)
set_option maxRecDepth 100000 in
theorem dL_law_1007 : decode cL_law 1007 = .ok (.iaload, 1) := dq_46 (by decide +kernel)
set_option maxRecDepth 100000 in
theorem dL_law_1008 : decode cL_law 1008 = .ok (.invokevirtual 115, 3) := dq_182 (by decide +kernel)
set_option maxRecDepth 100000 in
theorem dL_law_1011 : decode cL_law 1011 = .ok (.pop, 1) := dq_87 (by decide +kernel)
set_option maxRecDepth 100000 in
theorem dL_law_1012 : decode cL_law 1012 = .ok (.aload_n 2, 1) := dq_44 (by decide +kernel)
set_option maxRecDepth 100000 in
theorem dL_law_1013 : decode cL_law 1013 = .ok (.aload_n 0, 1) := dq_42 (by decide +kernel)
set_option maxRecDepth 100000 in
theorem dL_law_1014 : decode cL_law 1014 = .ok (.iload_n 3, 1) := dq_29 (by decide +kernel)
set_option maxRecDepth 100000 in
theorem dL_law_1015 : decode cL_law 1015 = .ok (.iconst 1, 1) := dq_4 (by decide +kernel)
set_option maxRecDepth 100000 in
theorem dL_law_1016 : decode cL_law 1016 = .ok (.iadd, 1) := dq_96 (by decide +kernel)
set_option maxRecDepth 100000 in
theorem dL_law_1017 : decode cL_law 1017 = .ok (.iaload, 1) := dq_46 (by decide +kernel)
set_option maxRecDepth 100000 in
theorem dL_law_1018 : decode cL_law 1018 = .ok (.aload_n 0, 1) := dq_42 (by decide +kernel)
set_option maxRecDepth 100000 in
theorem dL_law_1019 : decode cL_law 1019 = .ok (.iload_n 3, 1) := dq_29 (by decide +kernel)
set_option maxRecDepth 100000 in
theorem dL_law_1020 : decode cL_law 1020 = .ok (.iconst 2, 1) := dq_5 (by decide +kernel)
set_option maxRecDepth 100000 in
theorem dL_law_1021 : decode cL_law 1021 = .ok (.iadd, 1) := dq_96 (by decide +kernel)
set_option maxRecDepth 100000 in
theorem dL_law_1022 : decode cL_law 1022 = .ok (.iaload, 1) := dq_46 (by decide +kernel)
set_option maxRecDepth 100000 in
theorem dL_law_1023 : decode cL_law 1023 = .ok (.aload_n 0, 1) := dq_42 (by decide +kernel)
set_option maxRecDepth 100000 in
theorem dL_law_1024 : decode cL_law 1024 = .ok (.iload_n 3, 1) := dq_29 (by decide +kernel)
set_option maxRecDepth 100000 in
theorem dL_law_1025 : decode cL_law 1025 = .ok (.iconst 3, 1) := dq_6 (by decide +kernel)
set_option maxRecDepth 100000 in
theorem dL_law_1026 : decode cL_law 1026 = .ok (.iadd, 1) := dq_96 (by decide +kernel)
set_option maxRecDepth 100000 in
theorem dL_law_1027 : decode cL_law 1027 = .ok (.iaload, 1) := dq_46 (by decide +kernel)
set_option maxRecDepth 100000 in
theorem dL_law_1028 : decode cL_law 1028 = .ok (.aload_n 0, 1) := dq_42 (by decide +kernel)
set_option maxRecDepth 100000 in
theorem dL_law_1029 : decode cL_law 1029 = .ok (.iload_n 3, 1) := dq_29 (by decide +kernel)
set_option maxRecDepth 100000 in
theorem dL_law_1030 : decode cL_law 1030 = .ok (.iconst 4, 1) := dq_7 (by decide +kernel)
set_option maxRecDepth 100000 in
theorem dL_law_1031 : decode cL_law 1031 = .ok (.iadd, 1) := dq_96 (by decide +kernel)
set_option maxRecDepth 100000 in
theorem dL_law_1032 : decode cL_law 1032 = .ok (.iaload, 1) := dq_46 (by decide +kernel)
set_option maxRecDepth 100000 in
theorem dL_law_1033 : decode cL_law 1033 = .ok (.aload_n 0, 1) := dq_42 (by decide +kernel)
set_option maxRecDepth 100000 in
theorem dL_law_1034 : decode cL_law 1034 = .ok (.iload_n 3, 1) := dq_29 (by decide +kernel)
set_option maxRecDepth 100000 in
theorem dL_law_1035 : decode cL_law 1035 = .ok (.iconst 5, 1) := dq_8 (by decide +kernel)
set_option maxRecDepth 100000 in
theorem dL_law_1036 : decode cL_law 1036 = .ok (.iadd, 1) := dq_96 (by decide +kernel)
set_option maxRecDepth 100000 in
theorem dL_law_1037 : decode cL_law 1037 = .ok (.iaload, 1) := dq_46 (by decide +kernel)
set_option maxRecDepth 100000 in
theorem dL_law_1038 : decode cL_law 1038 = .ok (.invokevirtual 118, 3) := dq_182 (by decide +kernel)
set_option maxRecDepth 100000 in
theorem dL_law_1041 : decode cL_law 1041 = .ok (.pop, 1) := dq_87 (by decide +kernel)
set_option maxRecDepth 100000 in
theorem dL_law_1042 : decode cL_law 1042 = .ok (.goto 414, 3) := dq_167 (by decide +kernel)
set_option maxRecDepth 100000 in
theorem dL_law_1045 : decode cL_law 1045 = .ok (.aload_n 1, 1) := dq_43 (by decide +kernel)
set_option maxRecDepth 100000 in
theorem dL_law_1046 : decode cL_law 1046 = .ok (.aload_n 0, 1) := dq_42 (by decide +kernel)
set_option maxRecDepth 100000 in
theorem dL_law_1047 : decode cL_law 1047 = .ok (.iload_n 3, 1) := dq_29 (by decide +kernel)
set_option maxRecDepth 100000 in
theorem dL_law_1048 : decode cL_law 1048 = .ok (.iconst 1, 1) := dq_4 (by decide +kernel)
set_option maxRecDepth 100000 in
theorem dL_law_1049 : decode cL_law 1049 = .ok (.iadd, 1) := dq_96 (by decide +kernel)
set_option maxRecDepth 100000 in
theorem dL_law_1050 : decode cL_law 1050 = .ok (.iaload, 1) := dq_46 (by decide +kernel)
set_option maxRecDepth 100000 in
theorem dL_law_1051 : decode cL_law 1051 = .ok (.aload_n 0, 1) := dq_42 (by decide +kernel)
set_option maxRecDepth 100000 in
theorem dL_law_1052 : decode cL_law 1052 = .ok (.iload_n 3, 1) := dq_29 (by decide +kernel)
set_option maxRecDepth 100000 in
theorem dL_law_1053 : decode cL_law 1053 = .ok (.iconst 2, 1) := dq_5 (by decide +kernel)
set_option maxRecDepth 100000 in
theorem dL_law_1054 : decode cL_law 1054 = .ok (.iadd, 1) := dq_96 (by decide +kernel)
set_option maxRecDepth 100000 in
theorem dL_law_1055 : decode cL_law 1055 = .ok (.iaload, 1) := dq_46 (by decide +kernel)
set_option maxRecDepth 100000 in
theorem dL_law_1056 : decode cL_law 1056 = .ok (.aload_n 0, 1) := dq_42 (by decide +kernel)
set_option maxRecDepth 100000 in
theorem dL_law_1057 : decode cL_law 1057 = .ok (.iload_n 3, 1) := dq_29 (by decide +kernel)
set_option maxRecDepth 100000 in
theorem dL_law_1058 : decode cL_law 1058 = .ok (.iconst 3, 1) := dq_6 (by decide +kernel)
set_option maxRecDepth 100000 in
theorem dL_law_1059 : decode cL_law 1059 = .ok (.iadd, 1) := dq_96 (by decide +kernel)
set_option maxRecDepth 100000 in
theorem dL_law_1060 : decode cL_law 1060 = .ok (.iaload, 1) := dq_46 (by decide +kernel)
set_option maxRecDepth 100000 in
theorem dL_law_1061 : decode cL_law 1061 = .ok (.invokevirtual 119, 3) := dq_182 (by decide +kernel)
set_option maxRecDepth 100000 in
theorem dL_law_1064 : decode cL_law 1064 = .ok (.pop, 1) := dq_87 (by decide +kernel)
set_option maxRecDepth 100000 in
theorem dL_law_1065 : decode cL_law 1065 = .ok (.aload_n 2, 1) := dq_44 (by decide +kernel)
set_option maxRecDepth 100000 in
theorem dL_law_1066 : decode cL_law 1066 = .ok (.aload_n 0, 1) := dq_42 (by decide +kernel)
set_option maxRecDepth 100000 in
theorem dL_law_1067 : decode cL_law 1067 = .ok (.iload_n 3, 1) := dq_29 (by decide +kernel)
set_option maxRecDepth 100000 in
theorem dL_law_1068 : decode cL_law 1068 = .ok (.iconst 1, 1) := dq_4 (by decide +kernel)
set_option maxRecDepth 100000 in
theorem dL_law_1069 : decode cL_law 1069 = .ok (.iadd, 1) := dq_96 (by decide +kernel)
set_option maxRecDepth 100000 in
theorem dL_law_1070 : decode cL_law 1070 = .ok (.iaload, 1) := dq_46 (by decide +kernel)
set_option maxRecDepth 100000 in
theorem dL_law_1071 : decode cL_law 1071 = .ok (.aload_n 0, 1) := dq_42 (by decide +kernel)
set_option maxRecDepth 100000 in
theorem dL_law_1072 : decode cL_law 1072 = .ok (.iload_n 3, 1) := dq_29 (by decide +kernel)
set_option maxRecDepth 100000 in
theorem dL_law_1073 : decode cL_law 1073 = .ok (.iconst 2, 1) := dq_5 (by decide +kernel)
set_option maxRecDepth 100000 in
theorem dL_law_1074 : decode cL_law 1074 = .ok (.iadd, 1) := dq_96 (by decide +kernel)
set_option maxRecDepth 100000 in
theorem dL_law_1075 : decode cL_law 1075 = .ok (.iaload, 1) := dq_46 (by decide +kernel)
set_option maxRecDepth 100000 in
theorem dL_law_1076 : decode cL_law 1076 = .ok (.aload_n 0, 1) := dq_42 (by decide +kernel)
set_option maxRecDepth 100000 in
theorem dL_law_1077 : decode cL_law 1077 = .ok (.iload_n 3, 1) := dq_29 (by decide +kernel)
set_option maxRecDepth 100000 in
theorem dL_law_1078 : decode cL_law 1078 = .ok (.iconst 3, 1) := dq_6 (by decide +kernel)
set_option maxRecDepth 100000 in
theorem dL_law_1079 : decode cL_law 1079 = .ok (.iadd, 1) := dq_96 (by decide +kernel)
set_option maxRecDepth 100000 in
theorem dL_law_1080 : decode cL_law 1080 = .ok (.iaload, 1) := dq_46 (by decide +kernel)
set_option maxRecDepth 100000 in
theorem dL_law_1081 : decode cL_law 1081 = .ok (.invokevirtual 122, 3) := dq_182 (by decide +kernel)
set_option maxRecDepth 100000 in
theorem dL_law_1084 : decode cL_law 1084 = .ok (.pop, 1) := dq_87 (by decide +kernel)
set_option maxRecDepth 100000 in
theorem dL_law_1085 : decode cL_law 1085 = .ok (.goto 371, 3) := dq_167 (by decide +kernel)
set_option maxRecDepth 100000 in
theorem dL_law_1088 : decode cL_law 1088 = .ok (.aload_n 1, 1) := dq_43 (by decide +kernel)
set_option maxRecDepth 100000 in
theorem dL_law_1089 : decode cL_law 1089 = .ok (.aload_n 0, 1) := dq_42 (by decide +kernel)
set_option maxRecDepth 100000 in
theorem dL_law_1090 : decode cL_law 1090 = .ok (.iload_n 3, 1) := dq_29 (by decide +kernel)
set_option maxRecDepth 100000 in
theorem dL_law_1091 : decode cL_law 1091 = .ok (.iconst 1, 1) := dq_4 (by decide +kernel)
set_option maxRecDepth 100000 in
theorem dL_law_1092 : decode cL_law 1092 = .ok (.iadd, 1) := dq_96 (by decide +kernel)
set_option maxRecDepth 100000 in
theorem dL_law_1093 : decode cL_law 1093 = .ok (.iaload, 1) := dq_46 (by decide +kernel)
set_option maxRecDepth 100000 in
theorem dL_law_1094 : decode cL_law 1094 = .ok (.aload_n 0, 1) := dq_42 (by decide +kernel)
set_option maxRecDepth 100000 in
theorem dL_law_1095 : decode cL_law 1095 = .ok (.iload_n 3, 1) := dq_29 (by decide +kernel)
set_option maxRecDepth 100000 in
theorem dL_law_1096 : decode cL_law 1096 = .ok (.iconst 2, 1) := dq_5 (by decide +kernel)
set_option maxRecDepth 100000 in
theorem dL_law_1097 : decode cL_law 1097 = .ok (.iadd, 1) := dq_96 (by decide +kernel)
set_option maxRecDepth 100000 in
theorem dL_law_1098 : decode cL_law 1098 = .ok (.iaload, 1) := dq_46 (by decide +kernel)
set_option maxRecDepth 100000 in
theorem dL_law_1099 : decode cL_law 1099 = .ok (.invokevirtual 123, 3) := dq_182 (by decide +kernel)
set_option maxRecDepth 100000 in
theorem dL_law_1102 : decode cL_law 1102 = .ok (.pop, 1) := dq_87 (by decide +kernel)
set_option maxRecDepth 100000 in
theorem dL_law_1103 : decode cL_law 1103 = .ok (.aload_n 2, 1) := dq_44 (by decide +kernel)
set_option maxRecDepth 100000 in
theorem dL_law_1104 : decode cL_law 1104 = .ok (.aload_n 0, 1) := dq_42 (by decide +kernel)
set_option maxRecDepth 100000 in
theorem dL_law_1105 : decode cL_law 1105 = .ok (.iload_n 3, 1) := dq_29 (by decide +kernel)
set_option maxRecDepth 100000 in
theorem dL_law_1106 : decode cL_law 1106 = .ok (.iconst 1, 1) := dq_4 (by decide +kernel)
set_option maxRecDepth 100000 in
theorem dL_law_1107 : decode cL_law 1107 = .ok (.iadd, 1) := dq_96 (by decide +kernel)
set_option maxRecDepth 100000 in
theorem dL_law_1108 : decode cL_law 1108 = .ok (.iaload, 1) := dq_46 (by decide +kernel)
set_option maxRecDepth 100000 in
theorem dL_law_1109 : decode cL_law 1109 = .ok (.aload_n 0, 1) := dq_42 (by decide +kernel)
set_option maxRecDepth 100000 in
theorem dL_law_1110 : decode cL_law 1110 = .ok (.iload_n 3, 1) := dq_29 (by decide +kernel)
set_option maxRecDepth 100000 in
theorem dL_law_1111 : decode cL_law 1111 = .ok (.iconst 2, 1) := dq_5 (by decide +kernel)
set_option maxRecDepth 100000 in
theorem dL_law_1112 : decode cL_law 1112 = .ok (.iadd, 1) := dq_96 (by decide +kernel)
set_option maxRecDepth 100000 in
theorem dL_law_1113 : decode cL_law 1113 = .ok (.iaload, 1) := dq_46 (by decide +kernel)
set_option maxRecDepth 100000 in
theorem dL_law_1114 : decode cL_law 1114 = .ok (.invokevirtual 126, 3) := dq_182 (by decide +kernel)
set_option maxRecDepth 100000 in
theorem dL_law_1117 : decode cL_law 1117 = .ok (.pop, 1) := dq_87 (by decide +kernel)
set_option maxRecDepth 100000 in
theorem dL_law_1118 : decode cL_law 1118 = .ok (.goto 338, 3) := dq_167 (by decide +kernel)
set_option maxRecDepth 100000 in
theorem dL_law_1121 : decode cL_law 1121 = .ok (.aload_n 1, 1) := dq_43 (by decide +kernel)
set_option maxRecDepth 100000 in
theorem dL_law_1122 : decode cL_law 1122 = .ok (.aload_n 0, 1) := dq_42 (by decide +kernel)
set_option maxRecDepth 100000 in
theorem dL_law_1123 : decode cL_law 1123 = .ok (.iload_n 3, 1) := dq_29 (by decide +kernel)
set_option maxRecDepth 100000 in
theorem dL_law_1124 : decode cL_law 1124 = .ok (.iconst 1, 1) := dq_4 (by decide +kernel)
set_option maxRecDepth 100000 in
theorem dL_law_1125 : decode cL_law 1125 = .ok (.iadd, 1) := dq_96 (by decide +kernel)
set_option maxRecDepth 100000 in
theorem dL_law_1126 : decode cL_law 1126 = .ok (.iaload, 1) := dq_46 (by decide +kernel)
set_option maxRecDepth 100000 in
theorem dL_law_1127 : decode cL_law 1127 = .ok (.invokevirtual 127, 3) := dq_182 (by decide +kernel)
set_option maxRecDepth 100000 in
theorem dL_law_1130 : decode cL_law 1130 = .ok (.pop, 1) := dq_87 (by decide +kernel)
set_option maxRecDepth 100000 in
theorem dL_law_1131 : decode cL_law 1131 = .ok (.aload_n 2, 1) := dq_44 (by decide +kernel)
set_option maxRecDepth 100000 in
theorem dL_law_1132 : decode cL_law 1132 = .ok (.aload_n 0, 1) := dq_42 (by decide +kernel)
set_option maxRecDepth 100000 in
theorem dL_law_1133 : decode cL_law 1133 = .ok (.iload_n 3, 1) := dq_29 (by decide +kernel)
set_option maxRecDepth 100000 in
theorem dL_law_1134 : decode cL_law 1134 = .ok (.iconst 1, 1) := dq_4 (by decide +kernel)
set_option maxRecDepth 100000 in
theorem dL_law_1135 : decode cL_law 1135 = .ok (.iadd, 1) := dq_96 (by decide +kernel)
set_option maxRecDepth 100000 in
theorem dL_law_1136 : decode cL_law 1136 = .ok (.iaload, 1) := dq_46 (by decide +kernel)
set_option maxRecDepth 100000 in
theorem dL_law_1137 : decode cL_law 1137 = .ok (.invokevirtual 130, 3) := dq_182 (by decide +kernel)
set_option maxRecDepth 100000 in
theorem dL_law_1140 : decode cL_law 1140 = .ok (.pop, 1) := dq_87 (by decide +kernel)
set_option maxRecDepth 100000 in
theorem dL_law_1141 : decode cL_law 1141 = .ok (.goto 315, 3) := dq_167 (by decide +kernel)
set_option maxRecDepth 100000 in
theorem dL_law_1144 : decode cL_law 1144 = .ok (.aload_n 1, 1) := dq_43 (by decide +kernel)
set_option maxRecDepth 100000 in
theorem dL_law_1145 : decode cL_law 1145 = .ok (.aload_n 0, 1) := dq_42 (by decide +kernel)
set_option maxRecDepth 100000 in
theorem dL_law_1146 : decode cL_law 1146 = .ok (.iload_n 3, 1) := dq_29 (by decide +kernel)
set_option maxRecDepth 100000 in
theorem dL_law_1147 : decode cL_law 1147 = .ok (.iconst 1, 1) := dq_4 (by decide +kernel)
set_option maxRecDepth 100000 in
theorem dL_law_1148 : decode cL_law 1148 = .ok (.iadd, 1) := dq_96 (by decide +kernel)
set_option maxRecDepth 100000 in
theorem dL_law_1149 : decode cL_law 1149 = .ok (.iaload, 1) := dq_46 (by decide +kernel)
set_option maxRecDepth 100000 in
theorem dL_law_1150 : decode cL_law 1150 = .ok (.aload_n 0, 1) := dq_42 (by decide +kernel)
set_option maxRecDepth 100000 in
theorem dL_law_1151 : decode cL_law 1151 = .ok (.iload_n 3, 1) := dq_29 (by decide +kernel)
set_option maxRecDepth 100000 in
theorem dL_law_1152 : decode cL_law 1152 = .ok (.iconst 2, 1) := dq_5 (by decide +kernel)
set_option maxRecDepth 100000 in
theorem dL_law_1153 : decode cL_law 1153 = .ok (.iadd, 1) := dq_96 (by decide +kernel)
set_option maxRecDepth 100000 in
theorem dL_law_1154 : decode cL_law 1154 = .ok (.iaload, 1) := dq_46 (by decide +kernel)
set_option maxRecDepth 100000 in
theorem dL_law_1155 : decode cL_law 1155 = .ok (.aload_n 0, 1) := dq_42 (by decide +kernel)
set_option maxRecDepth 100000 in
theorem dL_law_1156 : decode cL_law 1156 = .ok (.iload_n 3, 1) := dq_29 (by decide +kernel)
set_option maxRecDepth 100000 in
theorem dL_law_1157 : decode cL_law 1157 = .ok (.iconst 3, 1) := dq_6 (by decide +kernel)
set_option maxRecDepth 100000 in
theorem dL_law_1158 : decode cL_law 1158 = .ok (.iadd, 1) := dq_96 (by decide +kernel)
set_option maxRecDepth 100000 in
theorem dL_law_1159 : decode cL_law 1159 = .ok (.iaload, 1) := dq_46 (by decide +kernel)
set_option maxRecDepth 100000 in
theorem dL_law_1160 : decode cL_law 1160 = .ok (.aload_n 0, 1) := dq_42 (by decide +kernel)
set_option maxRecDepth 100000 in
theorem dL_law_1161 : decode cL_law 1161 = .ok (.iload_n 3, 1) := dq_29 (by decide +kernel)
set_option maxRecDepth 100000 in
theorem dL_law_1162 : decode cL_law 1162 = .ok (.iconst 4, 1) := dq_7 (by decide +kernel)
set_option maxRecDepth 100000 in
theorem dL_law_1163 : decode cL_law 1163 = .ok (.iadd, 1) := dq_96 (by decide +kernel)
set_option maxRecDepth 100000 in
theorem dL_law_1164 : decode cL_law 1164 = .ok (.iaload, 1) := dq_46 (by decide +kernel)
set_option maxRecDepth 100000 in
theorem dL_law_1165 : decode cL_law 1165 = .ok (.invokevirtual 131, 3) := dq_182 (by decide +kernel)
set_option maxRecDepth 100000 in
theorem dL_law_1168 : decode cL_law 1168 = .ok (.pop, 1) := dq_87 (by decide +kernel)
set_option maxRecDepth 100000 in
theorem dL_law_1169 : decode cL_law 1169 = .ok (.aload_n 2, 1) := dq_44 (by decide +kernel)
set_option maxRecDepth 100000 in
theorem dL_law_1170 : decode cL_law 1170 = .ok (.aload_n 0, 1) := dq_42 (by decide +kernel)
set_option maxRecDepth 100000 in
theorem dL_law_1171 : decode cL_law 1171 = .ok (.iload_n 3, 1) := dq_29 (by decide +kernel)
set_option maxRecDepth 100000 in
theorem dL_law_1172 : decode cL_law 1172 = .ok (.iconst 1, 1) := dq_4 (by decide +kernel)
set_option maxRecDepth 100000 in
theorem dL_law_1173 : decode cL_law 1173 = .ok (.iadd, 1) := dq_96 (by decide +kernel)
set_option maxRecDepth 100000 in
theorem dL_law_1174 : decode cL_law 1174 = .ok (.iaload, 1) := dq_46 (by decide +kernel)
set_option maxRecDepth 100000 in
theorem dL_law_1175 : decode cL_law 1175 = .ok (.aload_n 0, 1) := dq_42 (by decide +kernel)
set_option maxRecDepth 100000 in
theorem dL_law_1176 : decode cL_law 1176 = .ok (.iload_n 3, 1) := dq_29 (by decide +kernel)
set_option maxRecDepth 100000 in
theorem dL_law_1177 : decode cL_law 1177 = .ok (.iconst 2, 1) := dq_5 (by decide +kernel)
set_option maxRecDepth 100000 in
theorem dL_law_1178 : decode cL_law 1178 = .ok (.iadd, 1) := dq_96 (by decide +kernel)
set_option maxRecDepth 100000 in
theorem dL_law_1179 : decode cL_law 1179 = .ok (.iaload, 1) := dq_46 (by decide +kernel)
set_option maxRecDepth 100000 in
theorem dL_law_1180 : decode cL_law 1180 = .ok (.aload_n 0, 1) := dq_42 (by decide +kernel)
set_option maxRecDepth 100000 in
theorem dL_law_1181 : decode cL_law 1181 = .ok (.iload_n 3, 1) := dq_29 (by decide +kernel)
set_option maxRecDepth 100000 in
theorem dL_law_1182 : decode cL_law 1182 = .ok (.iconst 3, 1) := dq_6 (by decide +kernel)
set_option maxRecDepth 100000 in
theorem dL_law_1183 : decode cL_law 1183 = .ok (.iadd, 1) := dq_96 (by decide +kernel)
set_option maxRecDepth 100000 in
theorem dL_law_1184 : decode cL_law 1184 = .ok (.iaload, 1) := dq_46 (by decide +kernel)
set_option maxRecDepth 100000 in
theorem dL_law_1185 : decode cL_law 1185 = .ok (.aload_n 0, 1) := dq_42 (by decide +kernel)
set_option maxRecDepth 100000 in
theorem dL_law_1186 : decode cL_law 1186 = .ok (.iload_n 3, 1) := dq_29 (by decide +kernel)
set_option maxRecDepth 100000 in
theorem dL_law_1187 : decode cL_law 1187 = .ok (.iconst 4, 1) := dq_7 (by decide +kernel)
set_option maxRecDepth 100000 in
theorem dL_law_1188 : decode cL_law 1188 = .ok (.iadd, 1) := dq_96 (by decide +kernel)
set_option maxRecDepth 100000 in
theorem dL_law_1189 : decode cL_law 1189 = .ok (.iaload, 1) := dq_46 (by decide +kernel)
set_option maxRecDepth 100000 in
theorem dL_law_1190 : decode cL_law 1190 = .ok (.invokevirtual 134, 3) := dq_182 (by decide +kernel)
set_option maxRecDepth 100000 in
theorem dL_law_1193 : decode cL_law 1193 = .ok (.pop, 1) := dq_87 (by decide +kernel)
set_option maxRecDepth 100000 in
theorem dL_law_1194 : decode cL_law 1194 = .ok (.goto 262, 3) := dq_167 (by decide +kernel)
set_option maxRecDepth 100000 in
theorem dL_law_1197 : decode cL_law 1197 = .ok (.aload_n 1, 1) := dq_43 (by decide +kernel)
set_option maxRecDepth 100000 in
theorem dL_law_1198 : decode cL_law 1198 = .ok (.aload_n 0, 1) := dq_42 (by decide +kernel)
set_option maxRecDepth 100000 in
theorem dL_law_1199 : decode cL_law 1199 = .ok (.iload_n 3, 1) := dq_29 (by decide +kernel)
set_option maxRecDepth 100000 in
theorem dL_law_1200 : decode cL_law 1200 = .ok (.iconst 1, 1) := dq_4 (by decide +kernel)
set_option maxRecDepth 100000 in
theorem dL_law_1201 : decode cL_law 1201 = .ok (.iadd, 1) := dq_96 (by decide +kernel)
set_option maxRecDepth 100000 in
theorem dL_law_1202 : decode cL_law 1202 = .ok (.iaload, 1) := dq_46 (by decide +kernel)
set_option maxRecDepth 100000 in
theorem dL_law_1203 : decode cL_law 1203 = .ok (.aload_n 0, 1) := dq_42 (by decide +kernel)
set_option maxRecDepth 100000 in
theorem dL_law_1204 : decode cL_law 1204 = .ok (.iload_n 3, 1) := dq_29 (by decide +kernel)
set_option maxRecDepth 100000 in
theorem dL_law_1205 : decode cL_law 1205 = .ok (.iconst 2, 1) := dq_5 (by decide +kernel)
set_option maxRecDepth 100000 in
theorem dL_law_1206 : decode cL_law 1206 = .ok (.iadd, 1) := dq_96 (by decide +kernel)
set_option maxRecDepth 100000 in
theorem dL_law_1207 : decode cL_law 1207 = .ok (.iaload, 1) := dq_46 (by decide +kernel)
set_option maxRecDepth 100000 in
theorem dL_law_1208 : decode cL_law 1208 = .ok (.invokevirtual 135, 3) := dq_182 (by decide +kernel)
set_option maxRecDepth 100000 in
theorem dL_law_1211 : decode cL_law 1211 = .ok (.pop, 1) := dq_87 (by decide +kernel)
set_option maxRecDepth 100000 in
theorem dL_law_1212 : decode cL_law 1212 = .ok (.aload_n 2, 1) := dq_44 (by decide +kernel)
set_option maxRecDepth 100000 in
theorem dL_law_1213 : decode cL_law 1213 = .ok (.aload_n 0, 1) := dq_42 (by decide +kernel)
set_option maxRecDepth 100000 in
theorem dL_law_1214 : decode cL_law 1214 = .ok (.iload_n 3, 1) := dq_29 (by decide +kernel)
set_option maxRecDepth 100000 in
theorem dL_law_1215 : decode cL_law 1215 = .ok (.iconst 1, 1) := dq_4 (by decide +kernel)
set_option maxRecDepth 100000 in
theorem dL_law_1216 : decode cL_law 1216 = .ok (.iadd, 1) := dq_96 (by decide +kernel)
set_option maxRecDepth 100000 in
theorem dL_law_1217 : decode cL_law 1217 = .ok (.iaload, 1) := dq_46 (by decide +kernel)
set_option maxRecDepth 100000 in
theorem dL_law_1218 : decode cL_law 1218 = .ok (.aload_n 0, 1) := dq_42 (by decide +kernel)
set_option maxRecDepth 100000 in
theorem dL_law_1219 : decode cL_law 1219 = .ok (.iload_n 3, 1) := dq_29 (by decide +kernel)
set_option maxRecDepth 100000 in
theorem dL_law_1220 : decode cL_law 1220 = .ok (.iconst 2, 1) := dq_5 (by decide +kernel)
set_option maxRecDepth 100000 in
theorem dL_law_1221 : decode cL_law 1221 = .ok (.iadd, 1) := dq_96 (by decide +kernel)
set_option maxRecDepth 100000 in
theorem dL_law_1222 : decode cL_law 1222 = .ok (.iaload, 1) := dq_46 (by decide +kernel)
set_option maxRecDepth 100000 in
theorem dL_law_1223 : decode cL_law 1223 = .ok (.invokevirtual 138, 3) := dq_182 (by decide +kernel)
set_option maxRecDepth 100000 in
theorem dL_law_1226 : decode cL_law 1226 = .ok (.pop, 1) := dq_87 (by decide +kernel)
set_option maxRecDepth 100000 in
theorem dL_law_1227 : decode cL_law 1227 = .ok (.goto 229, 3) := dq_167 (by decide +kernel)
set_option maxRecDepth 100000 in
theorem dL_law_1230 : decode cL_law 1230 = .ok (.aload_n 1, 1) := dq_43 (by decide +kernel)
set_option maxRecDepth 100000 in
theorem dL_law_1231 : decode cL_law 1231 = .ok (.aload_n 0, 1) := dq_42 (by decide +kernel)
set_option maxRecDepth 100000 in
theorem dL_law_1232 : decode cL_law 1232 = .ok (.iload_n 3, 1) := dq_29 (by decide +kernel)
set_option maxRecDepth 100000 in
theorem dL_law_1233 : decode cL_law 1233 = .ok (.iconst 1, 1) := dq_4 (by decide +kernel)
set_option maxRecDepth 100000 in
theorem dL_law_1234 : decode cL_law 1234 = .ok (.iadd, 1) := dq_96 (by decide +kernel)
set_option maxRecDepth 100000 in
theorem dL_law_1235 : decode cL_law 1235 = .ok (.iaload, 1) := dq_46 (by decide +kernel)
set_option maxRecDepth 100000 in
theorem dL_law_1236 : decode cL_law 1236 = .ok (.invokevirtual 139, 3) := dq_182 (by decide +kernel)
set_option maxRecDepth 100000 in
theorem dL_law_1239 : decode cL_law 1239 = .ok (.pop, 1) := dq_87 (by decide +kernel)
set_option maxRecDepth 100000 in
theorem dL_law_1240 : decode cL_law 1240 = .ok (.aload_n 2, 1) := dq_44 (by decide +kernel)
set_option maxRecDepth 100000 in
theorem dL_law_1241 : decode cL_law 1241 = .ok (.aload_n 0, 1) := dq_42 (by decide +kernel)
set_option maxRecDepth 100000 in
theorem dL_law_1242 : decode cL_law 1242 = .ok (.iload_n 3, 1) := dq_29 (by decide +kernel)
set_option maxRecDepth 100000 in
theorem dL_law_1243 : decode cL_law 1243 = .ok (.iconst 1, 1) := dq_4 (by decide +kernel)
set_option maxRecDepth 100000 in
theorem dL_law_1244 : decode cL_law 1244 = .ok (.iadd, 1) := dq_96 (by decide +kernel)
set_option maxRecDepth 100000 in
theorem dL_law_1245 : decode cL_law 1245 = .ok (.iaload, 1) := dq_46 (by decide +kernel)
set_option maxRecDepth 100000 in
theorem dL_law_1246 : decode cL_law 1246 = .ok (.invokevirtual 142, 3) := dq_182 (by decide +kernel)
set_option maxRecDepth 100000 in
theorem dL_law_1249 : decode cL_law 1249 = .ok (.pop, 1) := dq_87 (by decide +kernel)
set_option maxRecDepth 100000 in
theorem dL_law_1250 : decode cL_law 1250 = .ok (.goto 206, 3) := dq_167 (by decide +kernel)
set_option maxRecDepth 100000 in
theorem dL_law_1253 : decode cL_law 1253 = .ok (.aload_n 1, 1) := dq_43 (by decide +kernel)
set_option maxRecDepth 100000 in
theorem dL_law_1254 : decode cL_law 1254 = .ok (.aload_n 0, 1) := dq_42 (by decide +kernel)
set_option maxRecDepth 100000 in
theorem dL_law_1255 : decode cL_law 1255 = .ok (.iload_n 3, 1) := dq_29 (by decide +kernel)
set_option maxRecDepth 100000 in
theorem dL_law_1256 : decode cL_law 1256 = .ok (.iconst 1, 1) := dq_4 (by decide +kernel)
set_option maxRecDepth 100000 in
theorem dL_law_1257 : decode cL_law 1257 = .ok (.iadd, 1) := dq_96 (by decide +kernel)
set_option maxRecDepth 100000 in
theorem dL_law_1258 : decode cL_law 1258 = .ok (.iaload, 1) := dq_46 (by decide +kernel)
set_option maxRecDepth 100000 in
theorem dL_law_1259 : decode cL_law 1259 = .ok (.aload_n 0, 1) := dq_42 (by decide +kernel)
set_option maxRecDepth 100000 in
theorem dL_law_1260 : decode cL_law 1260 = .ok (.iload_n 3, 1) := dq_29 (by decide +kernel)
set_option maxRecDepth 100000 in
theorem dL_law_1261 : decode cL_law 1261 = .ok (.iconst 2, 1) := dq_5 (by decide +kernel)
set_option maxRecDepth 100000 in
theorem dL_law_1262 : decode cL_law 1262 = .ok (.iadd, 1) := dq_96 (by decide +kernel)
set_option maxRecDepth 100000 in
theorem dL_law_1263 : decode cL_law 1263 = .ok (.iaload, 1) := dq_46 (by decide +kernel)
set_option maxRecDepth 100000 in
theorem dL_law_1264 : decode cL_law 1264 = .ok (.aload_n 0, 1) := dq_42 (by decide +kernel)
set_option maxRecDepth 100000 in
theorem dL_law_1265 : decode cL_law 1265 = .ok (.iload_n 3, 1) := dq_29 (by decide +kernel)
set_option maxRecDepth 100000 in
theorem dL_law_1266 : decode cL_law 1266 = .ok (.iconst 3, 1) := dq_6 (by decide +kernel)
set_option maxRecDepth 100000 in
theorem dL_law_1267 : decode cL_law 1267 = .ok (.iadd, 1) := dq_96 (by decide +kernel)
set_option maxRecDepth 100000 in
theorem dL_law_1268 : decode cL_law 1268 = .ok (.iaload, 1) := dq_46 (by decide +kernel)
set_option maxRecDepth 100000 in
theorem dL_law_1269 : decode cL_law 1269 = .ok (.aload_n 0, 1) := dq_42 (by decide +kernel)
set_option maxRecDepth 100000 in
theorem dL_law_1270 : decode cL_law 1270 = .ok (.iload_n 3, 1) := dq_29 (by decide +kernel)
set_option maxRecDepth 100000 in
theorem dL_law_1271 : decode cL_law 1271 = .ok (.iconst 4, 1) := dq_7 (by decide +kernel)
set_option maxRecDepth 100000 in
theorem dL_law_1272 : decode cL_law 1272 = .ok (.iadd, 1) := dq_96 (by decide +kernel)
set_option maxRecDepth 100000 in
theorem dL_law_1273 : decode cL_law 1273 = .ok (.iaload, 1) := dq_46 (by decide +kernel)
set_option maxRecDepth 100000 in
theorem dL_law_1274 : decode cL_law 1274 = .ok (.aload_n 0, 1) := dq_42 (by decide +kernel)
set_option maxRecDepth 100000 in
theorem dL_law_1275 : decode cL_law 1275 = .ok (.iload_n 3, 1) := dq_29 (by decide +kernel)
set_option maxRecDepth 100000 in
theorem dL_law_1276 : decode cL_law 1276 = .ok (.iconst 5, 1) := dq_8 (by decide +kernel)
set_option maxRecDepth 100000 in
theorem dL_law_1277 : decode cL_law 1277 = .ok (.iadd, 1) := dq_96 (by decide +kernel)
set_option maxRecDepth 100000 in
theorem dL_law_1278 : decode cL_law 1278 = .ok (.iaload, 1) := dq_46 (by decide +kernel)
set_option maxRecDepth 100000 in
theorem dL_law_1279 : decode cL_law 1279 = .ok (.aload_n 0, 1) := dq_42 (by decide +kernel)
set_option maxRecDepth 100000 in
theorem dL_law_1280 : decode cL_law 1280 = .ok (.iload_n 3, 1) := dq_29 (by decide +kernel)
set_option maxRecDepth 100000 in
theorem dL_law_1281 : decode cL_law 1281 = .ok (.bipush 6, 2) := dq_16 (by decide +kernel)
set_option maxRecDepth 100000 in
theorem dL_law_1283 : decode cL_law 1283 = .ok (.iadd, 1) := dq_96 (by decide +kernel)
set_option maxRecDepth 100000 in
theorem dL_law_1284 : decode cL_law 1284 = .ok (.iaload, 1) := dq_46 (by decide +kernel)
set_option maxRecDepth 100000 in
theorem dL_law_1285 : decode cL_law 1285 = .ok (.invokevirtual 143, 3) := dq_182 (by decide +kernel)
set_option maxRecDepth 100000 in
theorem dL_law_1288 : decode cL_law 1288 = .ok (.pop, 1) := dq_87 (by decide +kernel)
set_option maxRecDepth 100000 in
theorem dL_law_1289 : decode cL_law 1289 = .ok (.aload_n 2, 1) := dq_44 (by decide +kernel)
set_option maxRecDepth 100000 in
theorem dL_law_1290 : decode cL_law 1290 = .ok (.aload_n 0, 1) := dq_42 (by decide +kernel)
set_option maxRecDepth 100000 in
theorem dL_law_1291 : decode cL_law 1291 = .ok (.iload_n 3, 1) := dq_29 (by decide +kernel)
set_option maxRecDepth 100000 in
theorem dL_law_1292 : decode cL_law 1292 = .ok (.iconst 1, 1) := dq_4 (by decide +kernel)
set_option maxRecDepth 100000 in
theorem dL_law_1293 : decode cL_law 1293 = .ok (.iadd, 1) := dq_96 (by decide +kernel)
set_option maxRecDepth 100000 in
theorem dL_law_1294 : decode cL_law 1294 = .ok (.iaload, 1) := dq_46 (by decide +kernel)
set_option maxRecDepth 100000 in
theorem dL_law_1295 : decode cL_law 1295 = .ok (.aload_n 0, 1) := dq_42 (by decide +kernel)
set_option maxRecDepth 100000 in
theorem dL_law_1296 : decode cL_law 1296 = .ok (.iload_n 3, 1) := dq_29 (by decide +kernel)
set_option maxRecDepth 100000 in
theorem dL_law_1297 : decode cL_law 1297 = .ok (.iconst 2, 1) := dq_5 (by decide +kernel)
set_option maxRecDepth 100000 in
theorem dL_law_1298 : decode cL_law 1298 = .ok (.iadd, 1) := dq_96 (by decide +kernel)
set_option maxRecDepth 100000 in
theorem dL_law_1299 : decode cL_law 1299 = .ok (.iaload, 1) := dq_46 (by decide +kernel)
set_option maxRecDepth 100000 in
theorem dL_law_1300 : decode cL_law 1300 = .ok (.aload_n 0, 1) := dq_42 (by decide +kernel)
set_option maxRecDepth 100000 in
theorem dL_law_1301 : decode cL_law 1301 = .ok (.iload_n 3, 1) := dq_29 (by decide +kernel)
set_option maxRecDepth 100000 in
theorem dL_law_1302 : decode cL_law 1302 = .ok (.iconst 3, 1) := dq_6 (by decide +kernel)
set_option maxRecDepth 100000 in
theorem dL_law_1303 : decode cL_law 1303 = .ok (.iadd, 1) := dq_96 (by decide +kernel)
set_option maxRecDepth 100000 in
theorem dL_law_1304 : decode cL_law 1304 = .ok (.iaload, 1) := dq_46 (by decide +kernel)
set_option maxRecDepth 100000 in
theorem dL_law_1305 : decode cL_law 1305 = .ok (.aload_n 0, 1) := dq_42 (by decide +kernel)
set_option maxRecDepth 100000 in
theorem dL_law_1306 : decode cL_law 1306 = .ok (.iload_n 3, 1) := dq_29 (by decide +kernel)
set_option maxRecDepth 100000 in
theorem dL_law_1307 : decode cL_law 1307 = .ok (.iconst 4, 1) := dq_7 (by decide +kernel)
set_option maxRecDepth 100000 in
theorem dL_law_1308 : decode cL_law 1308 = .ok (.iadd, 1) := dq_96 (by decide +kernel)
set_option maxRecDepth 100000 in
theorem dL_law_1309 : decode cL_law 1309 = .ok (.iaload, 1) := dq_46 (by decide +kernel)
set_option maxRecDepth 100000 in
theorem dL_law_1310 : decode cL_law 1310 = .ok (.aload_n 0, 1) := dq_42 (by decide +kernel)
set_option maxRecDepth 100000 in
theorem dL_law_1311 : decode cL_law 1311 = .ok (.iload_n 3, 1) := dq_29 (by decide +kernel)
set_option maxRecDepth 100000 in
theorem dL_law_1312 : decode cL_law 1312 = .ok (.iconst 5, 1) := dq_8 (by decide +kernel)
set_option maxRecDepth 100000 in
theorem dL_law_1313 : decode cL_law 1313 = .ok (.iadd, 1) := dq_96 (by decide +kernel)
set_option maxRecDepth 100000 in
theorem dL_law_1314 : decode cL_law 1314 = .ok (.iaload, 1) := dq_46 (by decide +kernel)
set_option maxRecDepth 100000 in
theorem dL_law_1315 : decode cL_law 1315 = .ok (.aload_n 0, 1) := dq_42 (by decide +kernel)
set_option maxRecDepth 100000 in
theorem dL_law_1316 : decode cL_law 1316 = .ok (.iload_n 3, 1) := dq_29 (by decide +kernel)
set_option maxRecDepth 100000 in
theorem dL_law_1317 : decode cL_law 1317 = .ok (.bipush 6, 2) := dq_16 (by decide +kernel)
set_option maxRecDepth 100000 in
theorem dL_law_1319 : decode cL_law 1319 = .ok (.iadd, 1) := dq_96 (by decide +kernel)
set_option maxRecDepth 100000 in
theorem dL_law_1320 : decode cL_law 1320 = .ok (.iaload, 1) := dq_46 (by decide +kernel)
set_option maxRecDepth 100000 in
theorem dL_law_1321 : decode cL_law 1321 = .ok (.invokevirtual 147, 3) := dq_182 (by decide +kernel)
set_option maxRecDepth 100000 in
theorem dL_law_1324 : decode cL_law 1324 = .ok (.pop, 1) := dq_87 (by decide +kernel)
set_option maxRecDepth 100000 in
theorem dL_law_1325 : decode cL_law 1325 = .ok (.goto 131, 3) := dq_167 (by decide +kernel)
set_option maxRecDepth 100000 in
theorem dL_law_1328 : decode cL_law 1328 = .ok (.aload_n 1, 1) := dq_43 (by decide +kernel)
set_option maxRecDepth 100000 in
theorem dL_law_1329 : decode cL_law 1329 = .ok (.aload_n 0, 1) := dq_42 (by decide +kernel)
set_option maxRecDepth 100000 in
theorem dL_law_1330 : decode cL_law 1330 = .ok (.iload_n 3, 1) := dq_29 (by decide +kernel)
set_option maxRecDepth 100000 in
theorem dL_law_1331 : decode cL_law 1331 = .ok (.iconst 1, 1) := dq_4 (by decide +kernel)
set_option maxRecDepth 100000 in
theorem dL_law_1332 : decode cL_law 1332 = .ok (.iadd, 1) := dq_96 (by decide +kernel)
set_option maxRecDepth 100000 in
theorem dL_law_1333 : decode cL_law 1333 = .ok (.iaload, 1) := dq_46 (by decide +kernel)
set_option maxRecDepth 100000 in
theorem dL_law_1334 : decode cL_law 1334 = .ok (.invokevirtual 148, 3) := dq_182 (by decide +kernel)
set_option maxRecDepth 100000 in
theorem dL_law_1337 : decode cL_law 1337 = .ok (.pop, 1) := dq_87 (by decide +kernel)
set_option maxRecDepth 100000 in
theorem dL_law_1338 : decode cL_law 1338 = .ok (.aload_n 2, 1) := dq_44 (by decide +kernel)
set_option maxRecDepth 100000 in
theorem dL_law_1339 : decode cL_law 1339 = .ok (.aload_n 0, 1) := dq_42 (by decide +kernel)
set_option maxRecDepth 100000 in
theorem dL_law_1340 : decode cL_law 1340 = .ok (.iload_n 3, 1) := dq_29 (by decide +kernel)
set_option maxRecDepth 100000 in
theorem dL_law_1341 : decode cL_law 1341 = .ok (.iconst 1, 1) := dq_4 (by decide +kernel)
set_option maxRecDepth 100000 in
theorem dL_law_1342 : decode cL_law 1342 = .ok (.iadd, 1) := dq_96 (by decide +kernel)
set_option maxRecDepth 100000 in
theorem dL_law_1343 : decode cL_law 1343 = .ok (.iaload, 1) := dq_46 (by decide +kernel)
set_option maxRecDepth 100000 in
theorem dL_law_1344 : decode cL_law 1344 = .ok (.invokevirtual 151, 3) := dq_182 (by decide +kernel)
set_option maxRecDepth 100000 in
theorem dL_law_1347 : decode cL_law 1347 = .ok (.pop, 1) := dq_87 (by decide +kernel)
set_option maxRecDepth 100000 in
theorem dL_law_1348 : decode cL_law 1348 = .ok (.goto 108, 3) := dq_167 (by decide +kernel)
set_option maxRecDepth 100000 in
theorem dL_law_1351 : decode cL_law 1351 = .ok (.aload_n 1, 1) := dq_43 (by decide +kernel)
set_option maxRecDepth 100000 in
theorem dL_law_1352 : decode cL_law 1352 = .ok (.invokevirtual 152, 3) := dq_182 (by decide +kernel)
set_option maxRecDepth 100000 in
theorem dL_law_1355 : decode cL_law 1355 = .ok (.pop, 1) := dq_87 (by decide +kernel)
set_option maxRecDepth 100000 in
theorem dL_law_1356 : decode cL_law 1356 = .ok (.aload_n 2, 1) := dq_44 (by decide +kernel)
set_option maxRecDepth 100000 in
theorem dL_law_1357 : decode cL_law 1357 = .ok (.invokevirtual 155, 3) := dq_182 (by decide +kernel)
set_option maxRecDepth 100000 in
theorem dL_law_1360 : decode cL_law 1360 = .ok (.pop, 1) := dq_87 (by decide +kernel)
set_option maxRecDepth 100000 in
theorem dL_law_1361 : decode cL_law 1361 = .ok (.goto 95, 3) := dq_167 (by decide +kernel)
set_option maxRecDepth 100000 in
theorem dL_law_1364 : decode cL_law 1364 = .ok (.aload_n 1, 1) := dq_43 (by decide +kernel)
set_option maxRecDepth 100000 in
theorem dL_law_1365 : decode cL_law 1365 = .ok (.aload_n 0, 1) := dq_42 (by decide +kernel)
set_option maxRecDepth 100000 in
theorem dL_law_1366 : decode cL_law 1366 = .ok (.iload_n 3, 1) := dq_29 (by decide +kernel)
set_option maxRecDepth 100000 in
theorem dL_law_1367 : decode cL_law 1367 = .ok (.iconst 1, 1) := dq_4 (by decide +kernel)
set_option maxRecDepth 100000 in
theorem dL_law_1368 : decode cL_law 1368 = .ok (.iadd, 1) := dq_96 (by decide +kernel)
set_option maxRecDepth 100000 in
theorem dL_law_1369 : decode cL_law 1369 = .ok (.iaload, 1) := dq_46 (by decide +kernel)
set_option maxRecDepth 100000 in
theorem dL_law_1370 : decode cL_law 1370 = .ok (.invokevirtual 156, 3) := dq_182 (by decide +kernel)
set_option maxRecDepth 100000 in
theorem dL_law_1373 : decode cL_law 1373 = .ok (.pop, 1) := dq_87 (by decide +kernel)
set_option maxRecDepth 100000 in
theorem dL_law_1374 : decode cL_law 1374 = .ok (.aload_n 2, 1) := dq_44 (by decide +kernel)
set_option maxRecDepth 100000 in
theorem dL_law_1375 : decode cL_law 1375 = .ok (.aload_n 0, 1) := dq_42 (by decide +kernel)
set_option maxRecDepth 100000 in
theorem dL_law_1376 : decode cL_law 1376 = .ok (.iload_n 3, 1) := dq_29 (by decide +kernel)
set_option maxRecDepth 100000 in
theorem dL_law_1377 : decode cL_law 1377 = .ok (.iconst 1, 1) := dq_4 (by decide +kernel)
set_option maxRecDepth 100000 in
theorem dL_law_1378 : decode cL_law 1378 = .ok (.iadd, 1) := dq_96 (by decide +kernel)
set_option maxRecDepth 100000 in
theorem dL_law_1379 : decode cL_law 1379 = .ok (.iaload, 1) := dq_46 (by decide +kernel)
set_option maxRecDepth 100000 in
theorem dL_law_1380 : decode cL_law 1380 = .ok (.invokevirtual 159, 3) := dq_182 (by decide +kernel)
set_option maxRecDepth 100000 in
theorem dL_law_1383 : decode cL_law 1383 = .ok (.pop, 1) := dq_87 (by decide +kernel)
set_option maxRecDepth 100000 in
theorem dL_law_1384 : decode cL_law 1384 = .ok (.goto 72, 3) := dq_167 (by decide +kernel)
set_option maxRecDepth 100000 in
theorem dL_law_1387 : decode cL_law 1387 = .ok (.aload_n 1, 1) := dq_43 (by decide +kernel)
set_option maxRecDepth 100000 in
theorem dL_law_1388 : decode cL_law 1388 = .ok (.aload_n 0, 1) := dq_42 (by decide +kernel)
set_option maxRecDepth 100000 in
theorem dL_law_1389 : decode cL_law 1389 = .ok (.iload_n 3, 1) := dq_29 (by decide +kernel)
set_option maxRecDepth 100000 in
theorem dL_law_1390 : decode cL_law 1390 = .ok (.iconst 1, 1) := dq_4 (by decide +kernel)
set_option maxRecDepth 100000 in
theorem dL_law_1391 : decode cL_law 1391 = .ok (.iadd, 1) := dq_96 (by decide +kernel)
set_option maxRecDepth 100000 in
theorem dL_law_1392 : decode cL_law 1392 = .ok (.iaload, 1) := dq_46 (by decide +kernel)
set_option maxRecDepth 100000 in
theorem dL_law_1393 : decode cL_law 1393 = .ok (.invokevirtual 160, 3) := dq_182 (by decide +kernel)
set_option maxRecDepth 100000 in
theorem dL_law_1396 : decode cL_law 1396 = .ok (.pop, 1) := dq_87 (by decide +kernel)
set_option maxRecDepth 100000 in
theorem dL_law_1397 : decode cL_law 1397 = .ok (.aload_n 2, 1) := dq_44 (by decide +kernel)
set_option maxRecDepth 100000 in
theorem dL_law_1398 : decode cL_law 1398 = .ok (.aload_n 0, 1) := dq_42 (by decide +kernel)
set_option maxRecDepth 100000 in
theorem dL_law_1399 : decode cL_law 1399 = .ok (.iload_n 3, 1) := dq_29 (by decide +kernel)
set_option maxRecDepth 100000 in
theorem dL_law_1400 : decode cL_law 1400 = .ok (.iconst 1, 1) := dq_4 (by decide +kernel)
set_option maxRecDepth 100000 in
theorem dL_law_1401 : decode cL_law 1401 = .ok (.iadd, 1) := dq_96 (by decide +kernel)
set_option maxRecDepth 100000 in
theorem dL_law_1402 : decode cL_law 1402 = .ok (.iaload, 1) := dq_46 (by decide +kernel)
set_option maxRecDepth 100000 in
theorem dL_law_1403 : decode cL_law 1403 = .ok (.invokevirtual 163, 3) := dq_182 (by decide +kernel)
set_option maxRecDepth 100000 in
theorem dL_law_1406 : decode cL_law 1406 = .ok (.pop, 1) := dq_87 (by decide +kernel)
set_option maxRecDepth 100000 in
theorem dL_law_1407 : decode cL_law 1407 = .ok (.goto 49, 3) := dq_167 (by decide +kernel)
set_option maxRecDepth 100000 in
theorem dL_law_1410 : decode cL_law 1410 = .ok (.aload_n 1, 1) := dq_43 (by decide +kernel)
set_option maxRecDepth 100000 in
theorem dL_law_1411 : decode cL_law 1411 = .ok (.aload_n 0, 1) := dq_42 (by decide +kernel)
set_option maxRecDepth 100000 in
theorem dL_law_1412 : decode cL_law 1412 = .ok (.iload_n 3, 1) := dq_29 (by decide +kernel)
set_option maxRecDepth 100000 in
theorem dL_law_1413 : decode cL_law 1413 = .ok (.iconst 1, 1) := dq_4 (by decide +kernel)
set_option maxRecDepth 100000 in
theorem dL_law_1414 : decode cL_law 1414 = .ok (.iadd, 1) := dq_96 (by decide +kernel)
set_option maxRecDepth 100000 in
theorem dL_law_1415 : decode cL_law 1415 = .ok (.iaload, 1) := dq_46 (by decide +kernel)
set_option maxRecDepth 100000 in
theorem dL_law_1416 : decode cL_law 1416 = .ok (.invokevirtual 164, 3) := dq_182 (by decide +kernel)
set_option maxRecDepth 100000 in
theorem dL_law_1419 : decode cL_law 1419 = .ok (.pop, 1) := dq_87 (by decide +kernel)
set_option maxRecDepth 100000 in
theorem dL_law_1420 : decode cL_law 1420 = .ok (.aload_n 2, 1) := dq_44 (by decide +kernel)
set_option maxRecDepth 100000 in
theorem dL_law_1421 : decode cL_law 1421 = .ok (.aload_n 0, 1) := dq_42 (by decide +kernel)
set_option maxRecDepth 100000 in
theorem dL_law_1422 : decode cL_law 1422 = .ok (.iload_n 3, 1) := dq_29 (by decide +kernel)
set_option maxRecDepth 100000 in
theorem dL_law_1423 : decode cL_law 1423 = .ok (.iconst 1, 1) := dq_4 (by decide +kernel)
set_option maxRecDepth 100000 in
theorem dL_law_1424 : decode cL_law 1424 = .ok (.iadd, 1) := dq_96 (by decide +kernel)
set_option maxRecDepth 100000 in
theorem dL_law_1425 : decode cL_law 1425 = .ok (.iaload, 1) := dq_46 (by decide +kernel)
set_option maxRecDepth 100000 in
theorem dL_law_1426 : decode cL_law 1426 = .ok (.invokevirtual 167, 3) := dq_182 (by decide +kernel)
set_option maxRecDepth 100000 in
theorem dL_law_1429 : decode cL_law 1429 = .ok (.pop, 1) := dq_87 (by decide +kernel)
set_option maxRecDepth 100000 in
theorem dL_law_1430 : decode cL_law 1430 = .ok (.goto 26, 3) := dq_167 (by decide +kernel)
set_option maxRecDepth 100000 in
theorem dL_law_1433 : decode cL_law 1433 = .ok (.aload_n 1, 1) := dq_43 (by decide +kernel)
set_option maxRecDepth 100000 in
theorem dL_law_1434 : decode cL_law 1434 = .ok (.aload_n 0, 1) := dq_42 (by decide +kernel)
set_option maxRecDepth 100000 in
theorem dL_law_1435 : decode cL_law 1435 = .ok (.iload_n 3, 1) := dq_29 (by decide +kernel)
set_option maxRecDepth 100000 in
theorem dL_law_1436 : decode cL_law 1436 = .ok (.iconst 1, 1) := dq_4 (by decide +kernel)
set_option maxRecDepth 100000 in
theorem dL_law_1437 : decode cL_law 1437 = .ok (.iadd, 1) := dq_96 (by decide +kernel)
set_option maxRecDepth 100000 in
theorem dL_law_1438 : decode cL_law 1438 = .ok (.iaload, 1) := dq_46 (by decide +kernel)
set_option maxRecDepth 100000 in
theorem dL_law_1439 : decode cL_law 1439 = .ok (.invokevirtual 168, 3) := dq_182 (by decide +kernel)
set_option maxRecDepth 100000 in
theorem dL_law_1442 : decode cL_law 1442 = .ok (.pop, 1) := dq_87 (by decide +kernel)
set_option maxRecDepth 100000 in
theorem dL_law_1443 : decode cL_law 1443 = .ok (.aload_n 2, 1) := dq_44 (by decide +kernel)
set_option maxRecDepth 100000 in
theorem dL_law_1444 : decode cL_law 1444 = .ok (.aload_n 0, 1) := dq_42 (by decide +kernel)
set_option maxRecDepth 100000 in
theorem dL_law_1445 : decode cL_law 1445 = .ok (.iload_n 3, 1) := dq_29 (by decide +kernel)
set_option maxRecDepth 100000 in
theorem dL_law_1446 : decode cL_law 1446 = .ok (.iconst 1, 1) := dq_4 (by decide +kernel)
set_option maxRecDepth 100000 in
theorem dL_law_1447 : decode cL_law 1447 = .ok (.iadd, 1) := dq_96 (by decide +kernel)
set_option maxRecDepth 100000 in
theorem dL_law_1448 : decode cL_law 1448 = .ok (.iaload, 1) := dq_46 (by decide +kernel)
set_option maxRecDepth 100000 in
theorem dL_law_1449 : decode cL_law 1449 = .ok (.invokevirtual 171, 3) := dq_182 (by decide +kernel)
set_option maxRecDepth 100000 in
theorem dL_law_1452 : decode cL_law 1452 = .ok (.pop, 1) := dq_87 (by decide +kernel)
set_option maxRecDepth 100000 in
theorem dL_law_1453 : decode cL_law 1453 = .ok (.goto 3, 3) := dq_167 (by decide +kernel)
set_option maxRecDepth 100000 in
theorem dL_law_1456 : decode cL_law 1456 = .ok (.iinc 3 7, 3) := dq_132 (by decide +kernel)
set_option maxRecDepth 100000 in
theorem dL_law_1459 : decode cL_law 1459 = .ok (.goto (-1441), 3) := dq_167 (by decide +kernel)
set_option maxRecDepth 100000 in
theorem dL_law_1462 : decode cL_law 1462 = .ok (.iconst 1, 1) := dq_4 (by decide +kernel)
set_option maxRecDepth 100000 in
theorem dL_law_1463 : decode cL_law 1463 = .ok (.ireturn, 1) := dq_172 (by decide +kernel)
