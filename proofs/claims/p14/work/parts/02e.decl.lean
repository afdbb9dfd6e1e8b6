theorem d_Z_law_0 : decode mZ_law.2.1 0 = .ok (.new 7, 3) := by decide +kernel
theorem d_Z_law_3 : decode mZ_law.2.1 3 = .ok (.dup, 1) := by decide +kernel
theorem d_Z_law_4 : decode mZ_law.2.1 4 = .ok (.invokespecial 9, 3) := by decide +kernel
theorem d_Z_law_7 : decode mZ_law.2.1 7 = .ok (.astore_n 1, 1) := by decide +kernel
theorem d_Z_law_8 : decode mZ_law.2.1 8 = .ok (.new 10, 3) := by decide +kernel
theorem d_Z_law_11 : decode mZ_law.2.1 11 = .ok (.dup, 1) := by decide +kernel
theorem d_Z_law_12 : decode mZ_law.2.1 12 = .ok (.invokespecial 12, 3) := by decide +kernel
theorem d_Z_law_15 : decode mZ_law.2.1 15 = .ok (.astore_n 2, 1) := by decide +kernel
theorem d_Z_law_16 : decode mZ_law.2.1 16 = .ok (.iconst 0, 1) := by decide +kernel
theorem d_Z_law_17 : decode mZ_law.2.1 17 = .ok (.istore_n 3, 1) := by decide +kernel
theorem d_Z_law_18 : decode mZ_law.2.1 18 = .ok (.iload_n 3, 1) := by decide +kernel
theorem d_Z_law_19 : decode mZ_law.2.1 19 = .ok (.aload_n 0, 1) := by decide +kernel
theorem d_Z_law_20 : decode mZ_law.2.1 20 = .ok (.arraylength, 1) := by decide +kernel
theorem d_Z_law_21 : decode mZ_law.2.1 21 = .ok (.bipush 6, 2) := by decide +kernel
theorem d_Z_law_23 : decode mZ_law.2.1 23 = .ok (.isub, 1) := by decide +kernel
theorem d_Z_law_24 : decode mZ_law.2.1 24 = .ok (.if_icmp .gt 1415, 3) := by decide +kernel
theorem d_Z_law_27 : decode mZ_law.2.1 27 = .ok (.aload_n 0, 1) := by decide +kernel
theorem d_Z_law_28 : decode mZ_law.2.1 28 = .ok (.iload_n 3, 1) := by decide +kernel
theorem d_Z_law_29 : decode mZ_law.2.1 29 = .ok (.iaload, 1) := by decide +kernel
theorem d_Z_law_30 : decode mZ_law.2.1 30 = .ok (.bipush 63, 2) := by decide +kernel
theorem d_Z_law_32 : decode mZ_law.2.1 32 = .ok (.iand, 1) := by decide +kernel
theorem d_Z_law_33 : decode mZ_law.2.1 33 = .ok (.tableswitch 1400 0 46 #[203, 266, 289, 302, 325, 358, 391, 424, 447, 470, 503, 536, 569, 602, 625, 638, 651, 664, 677, 700, 733, 766, 809, 842, 865, 888, 911, 924, 947, 960, 973, 996, 1009, 1032, 1055, 1068, 1091, 1114, 1173, 1196, 1219, 1242, 1275, 1308, 1331, 1354, 1377], 203) := by decide +kernel
theorem d_Z_law_236 : decode mZ_law.2.1 236 = .ok (.aload_n 1, 1) := by decide +kernel
theorem d_Z_law_237 : decode mZ_law.2.1 237 = .ok (.aload_n 0, 1) := by decide +kernel
theorem d_Z_law_238 : decode mZ_law.2.1 238 = .ok (.iload_n 3, 1) := by decide +kernel
theorem d_Z_law_239 : decode mZ_law.2.1 239 = .ok (.iconst 1, 1) := by decide +kernel
theorem d_Z_law_240 : decode mZ_law.2.1 240 = .ok (.iadd, 1) := by decide +kernel
theorem d_Z_law_241 : decode mZ_law.2.1 241 = .ok (.iaload, 1) := by decide +kernel
theorem d_Z_law_242 : decode mZ_law.2.1 242 = .ok (.aload_n 0, 1) := by decide +kernel
theorem d_Z_law_243 : decode mZ_law.2.1 243 = .ok (.iload_n 3, 1) := by decide +kernel
theorem d_Z_law_244 : decode mZ_law.2.1 244 = .ok (.iconst 2, 1) := by decide +kernel
theorem d_Z_law_245 : decode mZ_law.2.1 245 = .ok (.iadd, 1) := by decide +kernel
theorem d_Z_law_246 : decode mZ_law.2.1 246 = .ok (.iaload, 1) := by decide +kernel
theorem d_Z_law_247 : decode mZ_law.2.1 247 = .ok (.aload_n 0, 1) := by decide +kernel
theorem d_Z_law_248 : decode mZ_law.2.1 248 = .ok (.iload_n 3, 1) := by decide +kernel
theorem d_Z_law_249 : decode mZ_law.2.1 249 = .ok (.iconst 3, 1) := by decide +kernel
theorem d_Z_law_250 : decode mZ_law.2.1 250 = .ok (.iadd, 1) := by decide +kernel
theorem d_Z_law_251 : decode mZ_law.2.1 251 = .ok (.iaload, 1) := by decide +kernel
theorem d_Z_law_252 : decode mZ_law.2.1 252 = .ok (.aload_n 0, 1) := by decide +kernel
theorem d_Z_law_253 : decode mZ_law.2.1 253 = .ok (.iload_n 3, 1) := by decide +kernel
theorem d_Z_law_254 : decode mZ_law.2.1 254 = .ok (.iconst 4, 1) := by decide +kernel
theorem d_Z_law_255 : decode mZ_law.2.1 255 = .ok (.iadd, 1) := by decide +kernel
theorem d_Z_law_256 : decode mZ_law.2.1 256 = .ok (.iaload, 1) := by decide +kernel
theorem d_Z_law_257 : decode mZ_law.2.1 257 = .ok (.aload_n 0, 1) := by decide +kernel
theorem d_Z_law_258 : decode mZ_law.2.1 258 = .ok (.iload_n 3, 1) := by decide +kernel
theorem d_Z_law_259 : decode mZ_law.2.1 259 = .ok (.iconst 5, 1) := by decide +kernel
theorem d_Z_law_260 : decode mZ_law.2.1 260 = .ok (.iadd, 1) := by decide +kernel
theorem d_Z_law_261 : decode mZ_law.2.1 261 = .ok (.iaload, 1) := by decide +kernel
theorem d_Z_law_262 : decode mZ_law.2.1 262 = .ok (.invokevirtual 13, 3) := by decide +kernel
theorem d_Z_law_265 : decode mZ_law.2.1 265 = .ok (.pop, 1) := by decide +kernel
theorem d_Z_law_266 : decode mZ_law.2.1 266 = .ok (.aload_n 2, 1) := by decide +kernel
theorem d_Z_law_267 : decode mZ_law.2.1 267 = .ok (.aload_n 0, 1) := by decide +kernel
theorem d_Z_law_268 : decode mZ_law.2.1 268 = .ok (.iload_n 3, 1) := by decide +kernel
theorem d_Z_law_269 : decode mZ_law.2.1 269 = .ok (.iconst 1, 1) := by decide +kernel
theorem d_Z_law_270 : decode mZ_law.2.1 270 = .ok (.iadd, 1) := by decide +kernel
theorem d_Z_law_271 : decode mZ_law.2.1 271 = .ok (.iaload, 1) := by decide +kernel
theorem d_Z_law_272 : decode mZ_law.2.1 272 = .ok (.aload_n 0, 1) := by decide +kernel
theorem d_Z_law_273 : decode mZ_law.2.1 273 = .ok (.iload_n 3, 1) := by decide +kernel
theorem d_Z_law_274 : decode mZ_law.2.1 274 = .ok (.iconst 2, 1) := by decide +kernel
theorem d_Z_law_275 : decode mZ_law.2.1 275 = .ok (.iadd, 1) := by decide +kernel
theorem d_Z_law_276 : decode mZ_law.2.1 276 = .ok (.iaload, 1) := by decide +kernel
theorem d_Z_law_277 : decode mZ_law.2.1 277 = .ok (.aload_n 0, 1) := by decide +kernel
theorem d_Z_law_278 : decode mZ_law.2.1 278 = .ok (.iload_n 3, 1) := by decide +kernel
theorem d_Z_law_279 : decode mZ_law.2.1 279 = .ok (.iconst 3, 1) := by decide +kernel
theorem d_Z_law_280 : decode mZ_law.2.1 280 = .ok (.iadd, 1) := by decide +kernel
theorem d_Z_law_281 : decode mZ_law.2.1 281 = .ok (.iaload, 1) := by decide +kernel
theorem d_Z_law_282 : decode mZ_law.2.1 282 = .ok (.aload_n 0, 1) := by decide +kernel
theorem d_Z_law_283 : decode mZ_law.2.1 283 = .ok (.iload_n 3, 1) := by decide +kernel
theorem d_Z_law_284 : decode mZ_law.2.1 284 = .ok (.iconst 4, 1) := by decide +kernel
theorem d_Z_law_285 : decode mZ_law.2.1 285 = .ok (.iadd, 1) := by decide +kernel
theorem d_Z_law_286 : decode mZ_law.2.1 286 = .ok (.iaload, 1) := by decide +kernel
theorem d_Z_law_287 : decode mZ_law.2.1 287 = .ok (.aload_n 0, 1) := by decide +kernel
theorem d_Z_law_288 : decode mZ_law.2.1 288 = .ok (.iload_n 3, 1) := by decide +kernel
theorem d_Z_law_289 : decode mZ_law.2.1 289 = .ok (.iconst 5, 1) := by decide +kernel
theorem d_Z_law_290 : decode mZ_law.2.1 290 = .ok (.iadd, 1) := by decide +kernel
theorem d_Z_law_291 : decode mZ_law.2.1 291 = .ok (.iaload, 1) := by decide +kernel
theorem d_Z_law_292 : decode mZ_law.2.1 292 = .ok (.invokevirtual 17, 3) := by decide +kernel
theorem d_Z_law_295 : decode mZ_law.2.1 295 = .ok (.pop, 1) := by decide +kernel
theorem d_Z_law_296 : decode mZ_law.2.1 296 = .ok (.goto 1137, 3) := by decide +kernel
theorem d_Z_law_299 : decode mZ_law.2.1 299 = .ok (.aload_n 1, 1) := by decide +kernel
theorem d_Z_law_300 : decode mZ_law.2.1 300 = .ok (.aload_n 0, 1) := by decide +kernel
theorem d_Z_law_301 : decode mZ_law.2.1 301 = .ok (.iload_n 3, 1) := by decide +kernel
theorem d_Z_law_302 : decode mZ_law.2.1 302 = .ok (.iconst 1, 1) := by decide +kernel
theorem d_Z_law_303 : decode mZ_law.2.1 303 = .ok (.iadd, 1) := by decide +kernel
theorem d_Z_law_304 : decode mZ_law.2.1 304 = .ok (.iaload, 1) := by decide +kernel
theorem d_Z_law_305 : decode mZ_law.2.1 305 = .ok (.invokevirtual 18, 3) := by decide +kernel
theorem d_Z_law_308 : decode mZ_law.2.1 308 = .ok (.pop, 1) := by decide +kernel
theorem d_Z_law_309 : decode mZ_law.2.1 309 = .ok (.aload_n 2, 1) := by decide +kernel
theorem d_Z_law_310 : decode mZ_law.2.1 310 = .ok (.aload_n 0, 1) := by decide +kernel
theorem d_Z_law_311 : decode mZ_law.2.1 311 = .ok (.iload_n 3, 1) := by decide +kernel
theorem d_Z_law_312 : decode mZ_law.2.1 312 = .ok (.iconst 1, 1) := by decide +kernel
theorem d_Z_law_313 : decode mZ_law.2.1 313 = .ok (.iadd, 1) := by decide +kernel
theorem d_Z_law_314 : decode mZ_law.2.1 314 = .ok (.iaload, 1) := by decide +kernel
theorem d_Z_law_315 : decode mZ_law.2.1 315 = .ok (.invokevirtual 22, 3) := by decide +kernel
theorem d_Z_law_318 : decode mZ_law.2.1 318 = .ok (.pop, 1) := by decide +kernel
theorem d_Z_law_319 : decode mZ_law.2.1 319 = .ok (.goto 1114, 3) := by decide +kernel
theorem d_Z_law_322 : decode mZ_law.2.1 322 = .ok (.aload_n 1, 1) := by decide +kernel
theorem d_Z_law_323 : decode mZ_law.2.1 323 = .ok (.invokevirtual 23, 3) := by decide +kernel
theorem d_Z_law_326 : decode mZ_law.2.1 326 = .ok (.pop, 1) := by decide +kernel
theorem d_Z_law_327 : decode mZ_law.2.1 327 = .ok (.aload_n 2, 1) := by decide +kernel
theorem d_Z_law_328 : decode mZ_law.2.1 328 = .ok (.invokevirtual 27, 3) := by decide +kernel
theorem d_Z_law_331 : decode mZ_law.2.1 331 = .ok (.pop, 1) := by decide +kernel
theorem d_Z_law_332 : decode mZ_law.2.1 332 = .ok (.goto 1101, 3) := by decide +kernel
theorem d_Z_law_335 : decode mZ_law.2.1 335 = .ok (.aload_n 1, 1) := by decide +kernel
theorem d_Z_law_336 : decode mZ_law.2.1 336 = .ok (.aload_n 0, 1) := by decide +kernel
theorem d_Z_law_337 : decode mZ_law.2.1 337 = .ok (.iload_n 3, 1) := by decide +kernel
theorem d_Z_law_338 : decode mZ_law.2.1 338 = .ok (.iconst 1, 1) := by decide +kernel
theorem d_Z_law_339 : decode mZ_law.2.1 339 = .ok (.iadd, 1) := by decide +kernel
theorem d_Z_law_340 : decode mZ_law.2.1 340 = .ok (.iaload, 1) := by decide +kernel
theorem d_Z_law_341 : decode mZ_law.2.1 341 = .ok (.invokevirtual 28, 3) := by decide +kernel
theorem d_Z_law_344 : decode mZ_law.2.1 344 = .ok (.pop, 1) := by decide +kernel
theorem d_Z_law_345 : decode mZ_law.2.1 345 = .ok (.aload_n 2, 1) := by decide +kernel
theorem d_Z_law_346 : decode mZ_law.2.1 346 = .ok (.aload_n 0, 1) := by decide +kernel
theorem d_Z_law_347 : decode mZ_law.2.1 347 = .ok (.iload_n 3, 1) := by decide +kernel
theorem d_Z_law_348 : decode mZ_law.2.1 348 = .ok (.iconst 1, 1) := by decide +kernel
theorem d_Z_law_349 : decode mZ_law.2.1 349 = .ok (.iadd, 1) := by decide +kernel
theorem d_Z_law_350 : decode mZ_law.2.1 350 = .ok (.iaload, 1) := by decide +kernel
theorem d_Z_law_351 : decode mZ_law.2.1 351 = .ok (.invokevirtual 31, 3) := by decide +kernel
theorem d_Z_law_354 : decode mZ_law.2.1 354 = .ok (.pop, 1) := by decide +kernel
theorem d_Z_law_355 : decode mZ_law.2.1 355 = .ok (.goto 1078, 3) := by decide +kernel
theorem d_Z_law_358 : decode mZ_law.2.1 358 = .ok (.aload_n 1, 1) := by decide +kernel
theorem d_Z_law_359 : decode mZ_law.2.1 359 = .ok (.aload_n 0, 1) := by decide +kernel
theorem d_Z_law_360 : decode mZ_law.2.1 360 = .ok (.iload_n 3, 1) := by decide +kernel
theorem d_Z_law_361 : decode mZ_law.2.1 361 = .ok (.iconst 1, 1) := by decide +kernel
theorem d_Z_law_362 : decode mZ_law.2.1 362 = .ok (.iadd, 1) := by decide +kernel
theorem d_Z_law_363 : decode mZ_law.2.1 363 = .ok (.iaload, 1) := by decide +kernel
theorem d_Z_law_364 : decode mZ_law.2.1 364 = .ok (.aload_n 0, 1) := by decide +kernel
theorem d_Z_law_365 : decode mZ_law.2.1 365 = .ok (.iload_n 3, 1) := by decide +kernel
theorem d_Z_law_366 : decode mZ_law.2.1 366 = .ok (.iconst 2, 1) := by decide +kernel
theorem d_Z_law_367 : decode mZ_law.2.1 367 = .ok (.iadd, 1) := by decide +kernel
theorem d_Z_law_368 : decode mZ_law.2.1 368 = .ok (.iaload, 1) := by decide +kernel
theorem d_Z_law_369 : decode mZ_law.2.1 369 = .ok (.invokevirtual 32, 3) := by decide +kernel
theorem d_Z_law_372 : decode mZ_law.2.1 372 = .ok (.pop, 1) := by decide +kernel
theorem d_Z_law_373 : decode mZ_law.2.1 373 = .ok (.aload_n 2, 1) := by decide +kernel
theorem d_Z_law_374 : decode mZ_law.2.1 374 = .ok (.aload_n 0, 1) := by decide +kernel
theorem d_Z_law_375 : decode mZ_law.2.1 375 = .ok (.iload_n 3, 1) := by decide +kernel
theorem d_Z_law_376 : decode mZ_law.2.1 376 = .ok (.iconst 1, 1) := by decide +kernel
theorem d_Z_law_377 : decode mZ_law.2.1 377 = .ok (.iadd, 1) := by decide +kernel
theorem d_Z_law_378 : decode mZ_law.2.1 378 = .ok (.iaload, 1) := by decide +kernel
theorem d_Z_law_379 : decode mZ_law.2.1 379 = .ok (.aload_n 0, 1) := by decide +kernel
theorem d_Z_law_380 : decode mZ_law.2.1 380 = .ok (.iload_n 3, 1) := by decide +kernel
theorem d_Z_law_381 : decode mZ_law.2.1 381 = .ok (.iconst 2, 1) := by decide +kernel
theorem d_Z_law_382 : decode mZ_law.2.1 382 = .ok (.iadd, 1) := by decide +kernel
theorem d_Z_law_383 : decode mZ_law.2.1 383 = .ok (.iaload, 1) := by decide +kernel
theorem d_Z_law_384 : decode mZ_law.2.1 384 = .ok (.invokevirtual 36, 3) := by decide +kernel
theorem d_Z_law_387 : decode mZ_law.2.1 387 = .ok (.pop, 1) := by decide +kernel
theorem d_Z_law_388 : decode mZ_law.2.1 388 = .ok (.goto 1045, 3) := by decide +kernel
theorem d_Z_law_391 : decode mZ_law.2.1 391 = .ok (.aload_n 1, 1) := by decide +kernel
theorem d_Z_law_392 : decode mZ_law.2.1 392 = .ok (.aload_n 0, 1) := by decide +kernel
theorem d_Z_law_393 : decode mZ_law.2.1 393 = .ok (.iload_n 3, 1) := by decide +kernel
theorem d_Z_law_394 : decode mZ_law.2.1 394 = .ok (.iconst 1, 1) := by decide +kernel
theorem d_Z_law_395 : decode mZ_law.2.1 395 = .ok (.iadd, 1) := by decide +kernel
theorem d_Z_law_396 : decode mZ_law.2.1 396 = .ok (.iaload, 1) := by decide +kernel
theorem d_Z_law_397 : decode mZ_law.2.1 397 = .ok (.aload_n 0, 1) := by decide +kernel
theorem d_Z_law_398 : decode mZ_law.2.1 398 = .ok (.iload_n 3, 1) := by decide +kernel
theorem d_Z_law_399 : decode mZ_law.2.1 399 = .ok (.iconst 2, 1) := by decide +kernel
theorem d_Z_law_400 : decode mZ_law.2.1 400 = .ok (.iadd, 1) := by decide +kernel
theorem d_Z_law_401 : decode mZ_law.2.1 401 = .ok (.iaload, 1) := by decide +kernel
theorem d_Z_law_402 : decode mZ_law.2.1 402 = .ok (.invokevirtual 37, 3) := by decide +kernel
theorem d_Z_law_405 : decode mZ_law.2.1 405 = .ok (.pop, 1) := by decide +kernel
theorem d_Z_law_406 : decode mZ_law.2.1 406 = .ok (.aload_n 2, 1) := by decide +kernel
theorem d_Z_law_407 : decode mZ_law.2.1 407 = .ok (.aload_n 0, 1) := by decide +kernel
theorem d_Z_law_408 : decode mZ_law.2.1 408 = .ok (.iload_n 3, 1) := by decide +kernel
theorem d_Z_law_409 : decode mZ_law.2.1 409 = .ok (.iconst 1, 1) := by decide +kernel
theorem d_Z_law_410 : decode mZ_law.2.1 410 = .ok (.iadd, 1) := by decide +kernel
theorem d_Z_law_411 : decode mZ_law.2.1 411 = .ok (.iaload, 1) := by decide +kernel
theorem d_Z_law_412 : decode mZ_law.2.1 412 = .ok (.aload_n 0, 1) := by decide +kernel
theorem d_Z_law_413 : decode mZ_law.2.1 413 = .ok (.iload_n 3, 1) := by decide +kernel
theorem d_Z_law_414 : decode mZ_law.2.1 414 = .ok (.iconst 2, 1) := by decide +kernel
theorem d_Z_law_415 : decode mZ_law.2.1 415 = .ok (.iadd, 1) := by decide +kernel
theorem d_Z_law_416 : decode mZ_law.2.1 416 = .ok (.iaload, 1) := by decide +kernel
theorem d_Z_law_417 : decode mZ_law.2.1 417 = .ok (.invokevirtual 40, 3) := by decide +kernel
theorem d_Z_law_420 : decode mZ_law.2.1 420 = .ok (.pop, 1) := by decide +kernel
theorem d_Z_law_421 : decode mZ_law.2.1 421 = .ok (.goto 1012, 3) := by decide +kernel
theorem d_Z_law_424 : decode mZ_law.2.1 424 = .ok (.aload_n 1, 1) := by decide +kernel
theorem d_Z_law_425 : decode mZ_law.2.1 425 = .ok (.aload_n 0, 1) := by decide +kernel
theorem d_Z_law_426 : decode mZ_law.2.1 426 = .ok (.iload_n 3, 1) := by decide +kernel
theorem d_Z_law_427 : decode mZ_law.2.1 427 = .ok (.iconst 1, 1) := by decide +kernel
theorem d_Z_law_428 : decode mZ_law.2.1 428 = .ok (.iadd, 1) := by decide +kernel
theorem d_Z_law_429 : decode mZ_law.2.1 429 = .ok (.iaload, 1) := by decide +kernel
theorem d_Z_law_430 : decode mZ_law.2.1 430 = .ok (.aload_n 0, 1) := by decide +kernel
theorem d_Z_law_431 : decode mZ_law.2.1 431 = .ok (.iload_n 3, 1) := by decide +kernel
theorem d_Z_law_432 : decode mZ_law.2.1 432 = .ok (.iconst 2, 1) := by decide +kernel
theorem d_Z_law_433 : decode mZ_law.2.1 433 = .ok (.iadd, 1) := by decide +kernel
theorem d_Z_law_434 : decode mZ_law.2.1 434 = .ok (.iaload, 1) := by decide +kernel
theorem d_Z_law_435 : decode mZ_law.2.1 435 = .ok (.invokevirtual 41, 3) := by decide +kernel
theorem d_Z_law_438 : decode mZ_law.2.1 438 = .ok (.pop, 1) := by decide +kernel
theorem d_Z_law_439 : decode mZ_law.2.1 439 = .ok (.aload_n 2, 1) := by decide +kernel
theorem d_Z_law_440 : decode mZ_law.2.1 440 = .ok (.aload_n 0, 1) := by decide +kernel
theorem d_Z_law_441 : decode mZ_law.2.1 441 = .ok (.iload_n 3, 1) := by decide +kernel
theorem d_Z_law_442 : decode mZ_law.2.1 442 = .ok (.iconst 1, 1) := by decide +kernel
theorem d_Z_law_443 : decode mZ_law.2.1 443 = .ok (.iadd, 1) := by decide +kernel
theorem d_Z_law_444 : decode mZ_law.2.1 444 = .ok (.iaload, 1) := by decide +kernel
theorem d_Z_law_445 : decode mZ_law.2.1 445 = .ok (.aload_n 0, 1) := by decide +kernel
theorem d_Z_law_446 : decode mZ_law.2.1 446 = .ok (.iload_n 3, 1) := by decide +kernel
theorem d_Z_law_447 : decode mZ_law.2.1 447 = .ok (.iconst 2, 1) := by decide +kernel
theorem d_Z_law_448 : decode mZ_law.2.1 448 = .ok (.iadd, 1) := by decide +kernel
theorem d_Z_law_449 : decode mZ_law.2.1 449 = .ok (.iaload, 1) := by decide +kernel
theorem d_Z_law_450 : decode mZ_law.2.1 450 = .ok (.invokevirtual 44, 3) := by decide +kernel
theorem d_Z_law_453 : decode mZ_law.2.1 453 = .ok (.pop, 1) := by decide +kernel
theorem d_Z_law_454 : decode mZ_law.2.1 454 = .ok (.goto 979, 3) := by decide +kernel
theorem d_Z_law_457 : decode mZ_law.2.1 457 = .ok (.aload_n 1, 1) := by decide +kernel
theorem d_Z_law_458 : decode mZ_law.2.1 458 = .ok (.aload_n 0, 1) := by decide +kernel
theorem d_Z_law_459 : decode mZ_law.2.1 459 = .ok (.iload_n 3, 1) := by decide +kernel
theorem d_Z_law_460 : decode mZ_law.2.1 460 = .ok (.iconst 1, 1) := by decide +kernel
theorem d_Z_law_461 : decode mZ_law.2.1 461 = .ok (.iadd, 1) := by decide +kernel
theorem d_Z_law_462 : decode mZ_law.2.1 462 = .ok (.iaload, 1) := by decide +kernel
theorem d_Z_law_463 : decode mZ_law.2.1 463 = .ok (.invokevirtual 45, 3) := by decide +kernel
theorem d_Z_law_466 : decode mZ_law.2.1 466 = .ok (.pop, 1) := by decide +kernel
theorem d_Z_law_467 : decode mZ_law.2.1 467 = .ok (.aload_n 2, 1) := by decide +kernel
theorem d_Z_law_468 : decode mZ_law.2.1 468 = .ok (.aload_n 0, 1) := by decide +kernel
theorem d_Z_law_469 : decode mZ_law.2.1 469 = .ok (.iload_n 3, 1) := by decide +kernel
theorem d_Z_law_470 : decode mZ_law.2.1 470 = .ok (.iconst 1, 1) := by decide +kernel
theorem d_Z_law_471 : decode mZ_law.2.1 471 = .ok (.iadd, 1) := by decide +kernel
theorem d_Z_law_472 : decode mZ_law.2.1 472 = .ok (.iaload, 1) := by decide +kernel
theorem d_Z_law_473 : decode mZ_law.2.1 473 = .ok (.invokevirtual 48, 3) := by decide +kernel
theorem d_Z_law_476 : decode mZ_law.2.1 476 = .ok (.pop, 1) := by decide +kernel
theorem d_Z_law_477 : decode mZ_law.2.1 477 = .ok (.goto 956, 3) := by decide +kernel
theorem d_Z_law_480 : decode mZ_law.2.1 480 = .ok (.aload_n 1, 1) := by decide +kernel
theorem d_Z_law_481 : decode mZ_law.2.1 481 = .ok (.aload_n 0, 1) := by decide +kernel
theorem d_Z_law_482 : decode mZ_law.2.1 482 = .ok (.iload_n 3, 1) := by decide +kernel
theorem d_Z_law_483 : decode mZ_law.2.1 483 = .ok (.iconst 1, 1) := by decide +kernel
theorem d_Z_law_484 : decode mZ_law.2.1 484 = .ok (.iadd, 1) := by decide +kernel
theorem d_Z_law_485 : decode mZ_law.2.1 485 = .ok (.iaload, 1) := by decide +kernel
theorem d_Z_law_486 : decode mZ_law.2.1 486 = .ok (.invokevirtual 49, 3) := by decide +kernel
theorem d_Z_law_489 : decode mZ_law.2.1 489 = .ok (.pop, 1) := by decide +kernel
theorem d_Z_law_490 : decode mZ_law.2.1 490 = .ok (.aload_n 2, 1) := by decide +kernel
theorem d_Z_law_491 : decode mZ_law.2.1 491 = .ok (.aload_n 0, 1) := by decide +kernel
theorem d_Z_law_492 : decode mZ_law.2.1 492 = .ok (.iload_n 3, 1) := by decide +kernel
theorem d_Z_law_493 : decode mZ_law.2.1 493 = .ok (.iconst 1, 1) := by decide +kernel
theorem d_Z_law_494 : decode mZ_law.2.1 494 = .ok (.iadd, 1) := by decide +kernel
theorem d_Z_law_495 : decode mZ_law.2.1 495 = .ok (.iaload, 1) := by decide +kernel
theorem d_Z_law_496 : decode mZ_law.2.1 496 = .ok (.invokevirtual 52, 3) := by decide +kernel
theorem d_Z_law_499 : decode mZ_law.2.1 499 = .ok (.pop, 1) := by decide +kernel
theorem d_Z_law_500 : decode mZ_law.2.1 500 = .ok (.goto 933, 3) := by decide +kernel
theorem d_Z_law_503 : decode mZ_law.2.1 503 = .ok (.aload_n 1, 1) := by decide +kernel
theorem d_Z_law_504 : decode mZ_law.2.1 504 = .ok (.aload_n 0, 1) := by decide +kernel
theorem d_Z_law_505 : decode mZ_law.2.1 505 = .ok (.iload_n 3, 1) := by decide +kernel
theorem d_Z_law_506 : decode mZ_law.2.1 506 = .ok (.iconst 1, 1) := by decide +kernel
theorem d_Z_law_507 : decode mZ_law.2.1 507 = .ok (.iadd, 1) := by decide +kernel
theorem d_Z_law_508 : decode mZ_law.2.1 508 = .ok (.iaload, 1) := by decide +kernel
theorem d_Z_law_509 : decode mZ_law.2.1 509 = .ok (.aload_n 0, 1) := by decide +kernel
theorem d_Z_law_510 : decode mZ_law.2.1 510 = .ok (.iload_n 3, 1) := by decide +kernel
theorem d_Z_law_511 : decode mZ_law.2.1 511 = .ok (.iconst 2, 1) := by decide +kernel
theorem d_Z_law_512 : decode mZ_law.2.1 512 = .ok (.iadd, 1) := by decide +kernel
theorem d_Z_law_513 : decode mZ_law.2.1 513 = .ok (.iaload, 1) := by decide +kernel
theorem d_Z_law_514 : decode mZ_law.2.1 514 = .ok (.invokevirtual 53, 3) := by decide +kernel
theorem d_Z_law_517 : decode mZ_law.2.1 517 = .ok (.pop, 1) := by decide +kernel
theorem d_Z_law_518 : decode mZ_law.2.1 518 = .ok (.aload_n 2, 1) := by decide +kernel
theorem d_Z_law_519 : decode mZ_law.2.1 519 = .ok (.aload_n 0, 1) := by decide +kernel
theorem d_Z_law_520 : decode mZ_law.2.1 520 = .ok (.iload_n 3, 1) := by decide +kernel
theorem d_Z_law_521 : decode mZ_law.2.1 521 = .ok (.iconst 1, 1) := by decide +kernel
theorem d_Z_law_522 : decode mZ_law.2.1 522 = .ok (.iadd, 1) := by decide +kernel
theorem d_Z_law_523 : decode mZ_law.2.1 523 = .ok (.iaload, 1) := by decide +kernel
theorem d_Z_law_524 : decode mZ_law.2.1 524 = .ok (.aload_n 0, 1) := by decide +kernel
theorem d_Z_law_525 : decode mZ_law.2.1 525 = .ok (.iload_n 3, 1) := by decide +kernel
theorem d_Z_law_526 : decode mZ_law.2.1 526 = .ok (.iconst 2, 1) := by decide +kernel
theorem d_Z_law_527 : decode mZ_law.2.1 527 = .ok (.iadd, 1) := by decide +kernel
theorem d_Z_law_528 : decode mZ_law.2.1 528 = .ok (.iaload, 1) := by decide +kernel
theorem d_Z_law_529 : decode mZ_law.2.1 529 = .ok (.invokevirtual 56, 3) := by decide +kernel
theorem d_Z_law_532 : decode mZ_law.2.1 532 = .ok (.pop, 1) := by decide +kernel
theorem d_Z_law_533 : decode mZ_law.2.1 533 = .ok (.goto 900, 3) := by decide +kernel
theorem d_Z_law_536 : decode mZ_law.2.1 536 = .ok (.aload_n 1, 1) := by decide +kernel
theorem d_Z_law_537 : decode mZ_law.2.1 537 = .ok (.aload_n 0, 1) := by decide +kernel
theorem d_Z_law_538 : decode mZ_law.2.1 538 = .ok (.iload_n 3, 1) := by decide +kernel
theorem d_Z_law_539 : decode mZ_law.2.1 539 = .ok (.iconst 1, 1) := by decide +kernel
theorem d_Z_law_540 : decode mZ_law.2.1 540 = .ok (.iadd, 1) := by decide +kernel
theorem d_Z_law_541 : decode mZ_law.2.1 541 = .ok (.iaload, 1) := by decide +kernel
theorem d_Z_law_542 : decode mZ_law.2.1 542 = .ok (.aload_n 0, 1) := by decide +kernel
theorem d_Z_law_543 : decode mZ_law.2.1 543 = .ok (.iload_n 3, 1) := by decide +kernel
theorem d_Z_law_544 : decode mZ_law.2.1 544 = .ok (.iconst 2, 1) := by decide +kernel
theorem d_Z_law_545 : decode mZ_law.2.1 545 = .ok (.iadd, 1) := by decide +kernel
theorem d_Z_law_546 : decode mZ_law.2.1 546 = .ok (.iaload, 1) := by decide +kernel
theorem d_Z_law_547 : decode mZ_law.2.1 547 = .ok (.invokevirtual 57, 3) := by decide +kernel
theorem d_Z_law_550 : decode mZ_law.2.1 550 = .ok (.pop, 1) := by decide +kernel
theorem d_Z_law_551 : decode mZ_law.2.1 551 = .ok (.aload_n 2, 1) := by decide +kernel
theorem d_Z_law_552 : decode mZ_law.2.1 552 = .ok (.aload_n 0, 1) := by decide +kernel
theorem d_Z_law_553 : decode mZ_law.2.1 553 = .ok (.iload_n 3, 1) := by decide +kernel
theorem d_Z_law_554 : decode mZ_law.2.1 554 = .ok (.iconst 1, 1) := by decide +kernel
theorem d_Z_law_555 : decode mZ_law.2.1 555 = .ok (.iadd, 1) := by decide +kernel
theorem d_Z_law_556 : decode mZ_law.2.1 556 = .ok (.iaload, 1) := by decide +kernel
theorem d_Z_law_557 : decode mZ_law.2.1 557 = .ok (.aload_n 0, 1) := by decide +kernel
theorem d_Z_law_558 : decode mZ_law.2.1 558 = .ok (.iload_n 3, 1) := by decide +kernel
theorem d_Z_law_559 : decode mZ_law.2.1 559 = .ok (.iconst 2, 1) := by decide +kernel
theorem d_Z_law_560 : decode mZ_law.2.1 560 = .ok (.iadd, 1) := by decide +kernel
theorem d_Z_law_561 : decode mZ_law.2.1 561 = .ok (.iaload, 1) := by decide +kernel
theorem d_Z_law_562 : decode mZ_law.2.1 562 = .ok (.invokevirtual 60, 3) := by decide +kernel
theorem d_Z_law_565 : decode mZ_law.2.1 565 = .ok (.pop, 1) := by decide +kernel
theorem d_Z_law_566 : decode mZ_law.2.1 566 = .ok (.goto 867, 3) := by decide +kernel
theorem d_Z_law_569 : decode mZ_law.2.1 569 = .ok (.aload_n 1, 1) := by decide +kernel
theorem d_Z_law_570 : decode mZ_law.2.1 570 = .ok (.aload_n 0, 1) := by decide +kernel
theorem d_Z_law_571 : decode mZ_law.2.1 571 = .ok (.iload_n 3, 1) := by decide +kernel
theorem d_Z_law_572 : decode mZ_law.2.1 572 = .ok (.iconst 1, 1) := by decide +kernel
theorem d_Z_law_573 : decode mZ_law.2.1 573 = .ok (.iadd, 1) := by decide +kernel
theorem d_Z_law_574 : decode mZ_law.2.1 574 = .ok (.iaload, 1) := by decide +kernel
theorem d_Z_law_575 : decode mZ_law.2.1 575 = .ok (.aload_n 0, 1) := by decide +kernel
theorem d_Z_law_576 : decode mZ_law.2.1 576 = .ok (.iload_n 3, 1) := by decide +kernel
theorem d_Z_law_577 : decode mZ_law.2.1 577 = .ok (.iconst 2, 1) := by decide +kernel
theorem d_Z_law_578 : decode mZ_law.2.1 578 = .ok (.iadd, 1) := by decide +kernel
theorem d_Z_law_579 : decode mZ_law.2.1 579 = .ok (.iaload, 1) := by decide +kernel
theorem d_Z_law_580 : decode mZ_law.2.1 580 = .ok (.invokevirtual 61, 3) := by decide +kernel
theorem d_Z_law_583 : decode mZ_law.2.1 583 = .ok (.pop, 1) := by decide +kernel
theorem d_Z_law_584 : decode mZ_law.2.1 584 = .ok (.aload_n 2, 1) := by decide +kernel
theorem d_Z_law_585 : decode mZ_law.2.1 585 = .ok (.aload_n 0, 1) := by decide +kernel
theorem d_Z_law_586 : decode mZ_law.2.1 586 = .ok (.iload_n 3, 1) := by decide +kernel
theorem d_Z_law_587 : decode mZ_law.2.1 587 = .ok (.iconst 1, 1) := by decide +kernel
theorem d_Z_law_588 : decode mZ_law.2.1 588 = .ok (.iadd, 1) := by decide +kernel
theorem d_Z_law_589 : decode mZ_law.2.1 589 = .ok (.iaload, 1) := by decide +kernel
theorem d_Z_law_590 : decode mZ_law.2.1 590 = .ok (.aload_n 0, 1) := by decide +kernel
theorem d_Z_law_591 : decode mZ_law.2.1 591 = .ok (.iload_n 3, 1) := by decide +kernel
theorem d_Z_law_592 : decode mZ_law.2.1 592 = .ok (.iconst 2, 1) := by decide +kernel
theorem d_Z_law_593 : decode mZ_law.2.1 593 = .ok (.iadd, 1) := by decide +kernel
theorem d_Z_law_594 : decode mZ_law.2.1 594 = .ok (.iaload, 1) := by decide +kernel
theorem d_Z_law_595 : decode mZ_law.2.1 595 = .ok (.invokevirtual 64, 3) := by decide +kernel
theorem d_Z_law_598 : decode mZ_law.2.1 598 = .ok (.pop, 1) := by decide +kernel
theorem d_Z_law_599 : decode mZ_law.2.1 599 = .ok (.goto 834, 3) := by decide +kernel
theorem d_Z_law_602 : decode mZ_law.2.1 602 = .ok (.aload_n 1, 1) := by decide +kernel
theorem d_Z_law_603 : decode mZ_law.2.1 603 = .ok (.aload_n 0, 1) := by decide +kernel
theorem d_Z_law_604 : decode mZ_law.2.1 604 = .ok (.iload_n 3, 1) := by decide +kernel
theorem d_Z_law_605 : decode mZ_law.2.1 605 = .ok (.iconst 1, 1) := by decide +kernel
theorem d_Z_law_606 : decode mZ_law.2.1 606 = .ok (.iadd, 1) := by decide +kernel
theorem d_Z_law_607 : decode mZ_law.2.1 607 = .ok (.iaload, 1) := by decide +kernel
theorem d_Z_law_608 : decode mZ_law.2.1 608 = .ok (.aload_n 0, 1) := by decide +kernel
theorem d_Z_law_609 : decode mZ_law.2.1 609 = .ok (.iload_n 3, 1) := by decide +kernel
theorem d_Z_law_610 : decode mZ_law.2.1 610 = .ok (.iconst 2, 1) := by decide +kernel
theorem d_Z_law_611 : decode mZ_law.2.1 611 = .ok (.iadd, 1) := by decide +kernel
theorem d_Z_law_612 : decode mZ_law.2.1 612 = .ok (.iaload, 1) := by decide +kernel
theorem d_Z_law_613 : decode mZ_law.2.1 613 = .ok (.invokevirtual 65, 3) := by decide +kernel
theorem d_Z_law_616 : decode mZ_law.2.1 616 = .ok (.aload_n 2, 1) := by decide +kernel
theorem d_Z_law_617 : decode mZ_law.2.1 617 = .ok (.aload_n 0, 1) := by decide +kernel
theorem d_Z_law_618 : decode mZ_law.2.1 618 = .ok (.iload_n 3, 1) := by decide +kernel
theorem d_Z_law_619 : decode mZ_law.2.1 619 = .ok (.iconst 1, 1) := by decide +kernel
theorem d_Z_law_620 : decode mZ_law.2.1 620 = .ok (.iadd, 1) := by decide +kernel
theorem d_Z_law_621 : decode mZ_law.2.1 621 = .ok (.iaload, 1) := by decide +kernel
theorem d_Z_law_622 : decode mZ_law.2.1 622 = .ok (.aload_n 0, 1) := by decide +kernel
theorem d_Z_law_623 : decode mZ_law.2.1 623 = .ok (.iload_n 3, 1) := by decide +kernel
theorem d_Z_law_624 : decode mZ_law.2.1 624 = .ok (.iconst 2, 1) := by decide +kernel
theorem d_Z_law_625 : decode mZ_law.2.1 625 = .ok (.iadd, 1) := by decide +kernel
theorem d_Z_law_626 : decode mZ_law.2.1 626 = .ok (.iaload, 1) := by decide +kernel
theorem d_Z_law_627 : decode mZ_law.2.1 627 = .ok (.invokevirtual 68, 3) := by decide +kernel
theorem d_Z_law_630 : decode mZ_law.2.1 630 = .ok (.if_icmp .eq 803, 3) := by decide +kernel
theorem d_Z_law_633 : decode mZ_law.2.1 633 = .ok (.iconst 0, 1) := by decide +kernel
theorem d_Z_law_634 : decode mZ_law.2.1 634 = .ok (.ireturn, 1) := by decide +kernel
theorem d_Z_law_635 : decode mZ_law.2.1 635 = .ok (.aload_n 1, 1) := by decide +kernel
theorem d_Z_law_636 : decode mZ_law.2.1 636 = .ok (.aload_n 0, 1) := by decide +kernel
theorem d_Z_law_637 : decode mZ_law.2.1 637 = .ok (.iload_n 3, 1) := by decide +kernel
theorem d_Z_law_638 : decode mZ_law.2.1 638 = .ok (.iconst 1, 1) := by decide +kernel
theorem d_Z_law_639 : decode mZ_law.2.1 639 = .ok (.iadd, 1) := by decide +kernel
theorem d_Z_law_640 : decode mZ_law.2.1 640 = .ok (.iaload, 1) := by decide +kernel
theorem d_Z_law_641 : decode mZ_law.2.1 641 = .ok (.invokevirtual 69, 3) := by decide +kernel
theorem d_Z_law_644 : decode mZ_law.2.1 644 = .ok (.pop, 1) := by decide +kernel
theorem d_Z_law_645 : decode mZ_law.2.1 645 = .ok (.aload_n 2, 1) := by decide +kernel
theorem d_Z_law_646 : decode mZ_law.2.1 646 = .ok (.aload_n 0, 1) := by decide +kernel
theorem d_Z_law_647 : decode mZ_law.2.1 647 = .ok (.iload_n 3, 1) := by decide +kernel
theorem d_Z_law_648 : decode mZ_law.2.1 648 = .ok (.iconst 1, 1) := by decide +kernel
theorem d_Z_law_649 : decode mZ_law.2.1 649 = .ok (.iadd, 1) := by decide +kernel
theorem d_Z_law_650 : decode mZ_law.2.1 650 = .ok (.iaload, 1) := by decide +kernel
theorem d_Z_law_651 : decode mZ_law.2.1 651 = .ok (.invokevirtual 72, 3) := by decide +kernel
theorem d_Z_law_654 : decode mZ_law.2.1 654 = .ok (.pop, 1) := by decide +kernel
theorem d_Z_law_655 : decode mZ_law.2.1 655 = .ok (.goto 778, 3) := by decide +kernel
theorem d_Z_law_658 : decode mZ_law.2.1 658 = .ok (.aload_n 1, 1) := by decide +kernel
theorem d_Z_law_659 : decode mZ_law.2.1 659 = .ok (.invokevirtual 73, 3) := by decide +kernel
theorem d_Z_law_662 : decode mZ_law.2.1 662 = .ok (.pop, 1) := by decide +kernel
theorem d_Z_law_663 : decode mZ_law.2.1 663 = .ok (.aload_n 2, 1) := by decide +kernel
theorem d_Z_law_664 : decode mZ_law.2.1 664 = .ok (.invokevirtual 77, 3) := by decide +kernel
theorem d_Z_law_667 : decode mZ_law.2.1 667 = .ok (.pop, 1) := by decide +kernel
theorem d_Z_law_668 : decode mZ_law.2.1 668 = .ok (.goto 765, 3) := by decide +kernel
theorem d_Z_law_671 : decode mZ_law.2.1 671 = .ok (.aload_n 1, 1) := by decide +kernel
theorem d_Z_law_672 : decode mZ_law.2.1 672 = .ok (.invokevirtual 78, 3) := by decide +kernel
theorem d_Z_law_675 : decode mZ_law.2.1 675 = .ok (.pop, 1) := by decide +kernel
theorem d_Z_law_676 : decode mZ_law.2.1 676 = .ok (.aload_n 2, 1) := by decide +kernel
theorem d_Z_law_677 : decode mZ_law.2.1 677 = .ok (.invokevirtual 81, 3) := by decide +kernel
theorem d_Z_law_680 : decode mZ_law.2.1 680 = .ok (.pop, 1) := by decide +kernel
theorem d_Z_law_681 : decode mZ_law.2.1 681 = .ok (.goto 752, 3) := by decide +kernel
theorem d_Z_law_684 : decode mZ_law.2.1 684 = .ok (.aload_n 1, 1) := by decide +kernel
theorem d_Z_law_685 : decode mZ_law.2.1 685 = .ok (.invokevirtual 82, 3) := by decide +kernel
theorem d_Z_law_688 : decode mZ_law.2.1 688 = .ok (.pop, 1) := by decide +kernel
theorem d_Z_law_689 : decode mZ_law.2.1 689 = .ok (.aload_n 2, 1) := by decide +kernel
theorem d_Z_law_690 : decode mZ_law.2.1 690 = .ok (.invokevirtual 85, 3) := by decide +kernel
theorem d_Z_law_693 : decode mZ_law.2.1 693 = .ok (.pop, 1) := by decide +kernel
theorem d_Z_law_694 : decode mZ_law.2.1 694 = .ok (.goto 739, 3) := by decide +kernel
theorem d_Z_law_697 : decode mZ_law.2.1 697 = .ok (.aload_n 1, 1) := by decide +kernel
theorem d_Z_law_698 : decode mZ_law.2.1 698 = .ok (.invokevirtual 86, 3) := by decide +kernel
theorem d_Z_law_701 : decode mZ_law.2.1 701 = .ok (.pop, 1) := by decide +kernel
theorem d_Z_law_702 : decode mZ_law.2.1 702 = .ok (.aload_n 2, 1) := by decide +kernel
theorem d_Z_law_703 : decode mZ_law.2.1 703 = .ok (.invokevirtual 89, 3) := by decide +kernel
theorem d_Z_law_706 : decode mZ_law.2.1 706 = .ok (.pop, 1) := by decide +kernel
theorem d_Z_law_707 : decode mZ_law.2.1 707 = .ok (.goto 726, 3) := by decide +kernel
theorem d_Z_law_710 : decode mZ_law.2.1 710 = .ok (.aload_n 1, 1) := by decide +kernel
theorem d_Z_law_711 : decode mZ_law.2.1 711 = .ok (.aload_n 0, 1) := by decide +kernel
theorem d_Z_law_712 : decode mZ_law.2.1 712 = .ok (.iload_n 3, 1) := by decide +kernel
theorem d_Z_law_713 : decode mZ_law.2.1 713 = .ok (.iconst 1, 1) := by decide +kernel
theorem d_Z_law_714 : decode mZ_law.2.1 714 = .ok (.iadd, 1) := by decide +kernel
theorem d_Z_law_715 : decode mZ_law.2.1 715 = .ok (.iaload, 1) := by decide +kernel
theorem d_Z_law_716 : decode mZ_law.2.1 716 = .ok (.invokevirtual 90, 3) := by decide +kernel
theorem d_Z_law_719 : decode mZ_law.2.1 719 = .ok (.pop, 1) := by decide +kernel
theorem d_Z_law_720 : decode mZ_law.2.1 720 = .ok (.aload_n 2, 1) := by decide +kernel
theorem d_Z_law_721 : decode mZ_law.2.1 721 = .ok (.aload_n 0, 1) := by decide +kernel
theorem d_Z_law_722 : decode mZ_law.2.1 722 = .ok (.iload_n 3, 1) := by decide +kernel
theorem d_Z_law_723 : decode mZ_law.2.1 723 = .ok (.iconst 1, 1) := by decide +kernel
theorem d_Z_law_724 : decode mZ_law.2.1 724 = .ok (.iadd, 1) := by decide +kernel
theorem d_Z_law_725 : decode mZ_law.2.1 725 = .ok (.iaload, 1) := by decide +kernel
theorem d_Z_law_726 : decode mZ_law.2.1 726 = .ok (.invokevirtual 93, 3) := by decide +kernel
theorem d_Z_law_729 : decode mZ_law.2.1 729 = .ok (.pop, 1) := by decide +kernel
theorem d_Z_law_730 : decode mZ_law.2.1 730 = .ok (.goto 703, 3) := by decide +kernel
theorem d_Z_law_733 : decode mZ_law.2.1 733 = .ok (.aload_n 1, 1) := by decide +kernel
theorem d_Z_law_734 : decode mZ_law.2.1 734 = .ok (.aload_n 0, 1) := by decide +kernel
theorem d_Z_law_735 : decode mZ_law.2.1 735 = .ok (.iload_n 3, 1) := by decide +kernel
theorem d_Z_law_736 : decode mZ_law.2.1 736 = .ok (.iconst 1, 1) := by decide +kernel
theorem d_Z_law_737 : decode mZ_law.2.1 737 = .ok (.iadd, 1) := by decide +kernel
theorem d_Z_law_738 : decode mZ_law.2.1 738 = .ok (.iaload, 1) := by decide +kernel
theorem d_Z_law_739 : decode mZ_law.2.1 739 = .ok (.aload_n 0, 1) := by decide +kernel
theorem d_Z_law_740 : decode mZ_law.2.1 740 = .ok (.iload_n 3, 1) := by decide +kernel
theorem d_Z_law_741 : decode mZ_law.2.1 741 = .ok (.iconst 2, 1) := by decide +kernel
theorem d_Z_law_742 : decode mZ_law.2.1 742 = .ok (.iadd, 1) := by decide +kernel
theorem d_Z_law_743 : decode mZ_law.2.1 743 = .ok (.iaload, 1) := by decide +kernel
theorem d_Z_law_744 : decode mZ_law.2.1 744 = .ok (.invokevirtual 94, 3) := by decide +kernel
theorem d_Z_law_747 : decode mZ_law.2.1 747 = .ok (.pop, 1) := by decide +kernel
theorem d_Z_law_748 : decode mZ_law.2.1 748 = .ok (.aload_n 2, 1) := by decide +kernel
theorem d_Z_law_749 : decode mZ_law.2.1 749 = .ok (.aload_n 0, 1) := by decide +kernel
theorem d_Z_law_750 : decode mZ_law.2.1 750 = .ok (.iload_n 3, 1) := by decide +kernel
theorem d_Z_law_751 : decode mZ_law.2.1 751 = .ok (.iconst 1, 1) := by decide +kernel
theorem d_Z_law_752 : decode mZ_law.2.1 752 = .ok (.iadd, 1) := by decide +kernel
theorem d_Z_law_753 : decode mZ_law.2.1 753 = .ok (.iaload, 1) := by decide +kernel
theorem d_Z_law_754 : decode mZ_law.2.1 754 = .ok (.aload_n 0, 1) := by decide +kernel
theorem d_Z_law_755 : decode mZ_law.2.1 755 = .ok (.iload_n 3, 1) := by decide +kernel
theorem d_Z_law_756 : decode mZ_law.2.1 756 = .ok (.iconst 2, 1) := by decide +kernel
theorem d_Z_law_757 : decode mZ_law.2.1 757 = .ok (.iadd, 1) := by decide +kernel
theorem d_Z_law_758 : decode mZ_law.2.1 758 = .ok (.iaload, 1) := by decide +kernel
theorem d_Z_law_759 : decode mZ_law.2.1 759 = .ok (.invokevirtual 97, 3) := by decide +kernel
theorem d_Z_law_762 : decode mZ_law.2.1 762 = .ok (.pop, 1) := by decide +kernel
theorem d_Z_law_763 : decode mZ_law.2.1 763 = .ok (.goto 670, 3) := by decide +kernel
theorem d_Z_law_766 : decode mZ_law.2.1 766 = .ok (.aload_n 1, 1) := by decide +kernel
theorem d_Z_law_767 : decode mZ_law.2.1 767 = .ok (.aload_n 0, 1) := by decide +kernel
theorem d_Z_law_768 : decode mZ_law.2.1 768 = .ok (.iload_n 3, 1) := by decide +kernel
theorem d_Z_law_769 : decode mZ_law.2.1 769 = .ok (.iconst 1, 1) := by decide +kernel
theorem d_Z_law_770 : decode mZ_law.2.1 770 = .ok (.iadd, 1) := by decide +kernel
theorem d_Z_law_771 : decode mZ_law.2.1 771 = .ok (.iaload, 1) := by decide +kernel
theorem d_Z_law_772 : decode mZ_law.2.1 772 = .ok (.aload_n 0, 1) := by decide +kernel
theorem d_Z_law_773 : decode mZ_law.2.1 773 = .ok (.iload_n 3, 1) := by decide +kernel
theorem d_Z_law_774 : decode mZ_law.2.1 774 = .ok (.iconst 2, 1) := by decide +kernel
theorem d_Z_law_775 : decode mZ_law.2.1 775 = .ok (.iadd, 1) := by decide +kernel
theorem d_Z_law_776 : decode mZ_law.2.1 776 = .ok (.iaload, 1) := by decide +kernel
theorem d_Z_law_777 : decode mZ_law.2.1 777 = .ok (.invokevirtual 98, 3) := by decide +kernel
theorem d_Z_law_780 : decode mZ_law.2.1 780 = .ok (.pop, 1) := by decide +kernel
theorem d_Z_law_781 : decode mZ_law.2.1 781 = .ok (.aload_n 2, 1) := by decide +kernel
theorem d_Z_law_782 : decode mZ_law.2.1 782 = .ok (.aload_n 0, 1) := by decide +kernel
theorem d_Z_law_783 : decode mZ_law.2.1 783 = .ok (.iload_n 3, 1) := by decide +kernel
theorem d_Z_law_784 : decode mZ_law.2.1 784 = .ok (.iconst 1, 1) := by decide +kernel
theorem d_Z_law_785 : decode mZ_law.2.1 785 = .ok (.iadd, 1) := by decide +kernel
theorem d_Z_law_786 : decode mZ_law.2.1 786 = .ok (.iaload, 1) := by decide +kernel
theorem d_Z_law_787 : decode mZ_law.2.1 787 = .ok (.aload_n 0, 1) := by decide +kernel
theorem d_Z_law_788 : decode mZ_law.2.1 788 = .ok (.iload_n 3, 1) := by decide +kernel
theorem d_Z_law_789 : decode mZ_law.2.1 789 = .ok (.iconst 2, 1) := by decide +kernel
theorem d_Z_law_790 : decode mZ_law.2.1 790 = .ok (.iadd, 1) := by decide +kernel
theorem d_Z_law_791 : decode mZ_law.2.1 791 = .ok (.iaload, 1) := by decide +kernel
theorem d_Z_law_792 : decode mZ_law.2.1 792 = .ok (.invokevirtual 101, 3) := by decide +kernel
theorem d_Z_law_795 : decode mZ_law.2.1 795 = .ok (.pop, 1) := by decide +kernel
theorem d_Z_law_796 : decode mZ_law.2.1 796 = .ok (.goto 637, 3) := by decide +kernel
theorem d_Z_law_799 : decode mZ_law.2.1 799 = .ok (.aload_n 1, 1) := by decide +kernel
theorem d_Z_law_800 : decode mZ_law.2.1 800 = .ok (.aload_n 0, 1) := by decide +kernel
theorem d_Z_law_801 : decode mZ_law.2.1 801 = .ok (.iload_n 3, 1) := by decide +kernel
theorem d_Z_law_802 : decode mZ_law.2.1 802 = .ok (.iconst 1, 1) := by decide +kernel
theorem d_Z_law_803 : decode mZ_law.2.1 803 = .ok (.iadd, 1) := by decide +kernel
theorem d_Z_law_804 : decode mZ_law.2.1 804 = .ok (.iaload, 1) := by decide +kernel
theorem d_Z_law_805 : decode mZ_law.2.1 805 = .ok (.aload_n 0, 1) := by decide +kernel
theorem d_Z_law_806 : decode mZ_law.2.1 806 = .ok (.iload_n 3, 1) := by decide +kernel
theorem d_Z_law_807 : decode mZ_law.2.1 807 = .ok (.iconst 2, 1) := by decide +kernel
theorem d_Z_law_808 : decode mZ_law.2.1 808 = .ok (.iadd, 1) := by decide +kernel
theorem d_Z_law_809 : decode mZ_law.2.1 809 = .ok (.iaload, 1) := by decide +kernel
theorem d_Z_law_810 : decode mZ_law.2.1 810 = .ok (.aload_n 0, 1) := by decide +kernel
theorem d_Z_law_811 : decode mZ_law.2.1 811 = .ok (.iload_n 3, 1) := by decide +kernel
theorem d_Z_law_812 : decode mZ_law.2.1 812 = .ok (.iconst 3, 1) := by decide +kernel
theorem d_Z_law_813 : decode mZ_law.2.1 813 = .ok (.iadd, 1) := by decide +kernel
theorem d_Z_law_814 : decode mZ_law.2.1 814 = .ok (.iaload, 1) := by decide +kernel
theorem d_Z_law_815 : decode mZ_law.2.1 815 = .ok (.invokevirtual 102, 3) := by decide +kernel
theorem d_Z_law_818 : decode mZ_law.2.1 818 = .ok (.pop, 1) := by decide +kernel
theorem d_Z_law_819 : decode mZ_law.2.1 819 = .ok (.aload_n 2, 1) := by decide +kernel
theorem d_Z_law_820 : decode mZ_law.2.1 820 = .ok (.aload_n 0, 1) := by decide +kernel
theorem d_Z_law_821 : decode mZ_law.2.1 821 = .ok (.iload_n 3, 1) := by decide +kernel
theorem d_Z_law_822 : decode mZ_law.2.1 822 = .ok (.iconst 1, 1) := by decide +kernel
theorem d_Z_law_823 : decode mZ_law.2.1 823 = .ok (.iadd, 1) := by decide +kernel
theorem d_Z_law_824 : decode mZ_law.2.1 824 = .ok (.iaload, 1) := by decide +kernel
theorem d_Z_law_825 : decode mZ_law.2.1 825 = .ok (.aload_n 0, 1) := by decide +kernel
theorem d_Z_law_826 : decode mZ_law.2.1 826 = .ok (.iload_n 3, 1) := by decide +kernel
theorem d_Z_law_827 : decode mZ_law.2.1 827 = .ok (.iconst 2, 1) := by decide +kernel
theorem d_Z_law_828 : decode mZ_law.2.1 828 = .ok (.iadd, 1) := by decide +kernel
theorem d_Z_law_829 : decode mZ_law.2.1 829 = .ok (.iaload, 1) := by decide +kernel
theorem d_Z_law_830 : decode mZ_law.2.1 830 = .ok (.aload_n 0, 1) := by decide +kernel
theorem d_Z_law_831 : decode mZ_law.2.1 831 = .ok (.iload_n 3, 1) := by decide +kernel
theorem d_Z_law_832 : decode mZ_law.2.1 832 = .ok (.iconst 3, 1) := by decide +kernel
theorem d_Z_law_833 : decode mZ_law.2.1 833 = .ok (.iadd, 1) := by decide +kernel
theorem d_Z_law_834 : decode mZ_law.2.1 834 = .ok (.iaload, 1) := by decide +kernel
theorem d_Z_law_835 : decode mZ_law.2.1 835 = .ok (.invokevirtual 106, 3) := by decide +kernel
theorem d_Z_law_838 : decode mZ_law.2.1 838 = .ok (.pop, 1) := by decide +kernel
theorem d_Z_law_839 : decode mZ_law.2.1 839 = .ok (.goto 594, 3) := by decide +kernel
theorem d_Z_law_842 : decode mZ_law.2.1 842 = .ok (.aload_n 1, 1) := by decide +kernel
theorem d_Z_law_843 : decode mZ_law.2.1 843 = .ok (.aload_n 0, 1) := by decide +kernel
theorem d_Z_law_844 : decode mZ_law.2.1 844 = .ok (.iload_n 3, 1) := by decide +kernel
theorem d_Z_law_845 : decode mZ_law.2.1 845 = .ok (.iconst 1, 1) := by decide +kernel
theorem d_Z_law_846 : decode mZ_law.2.1 846 = .ok (.iadd, 1) := by decide +kernel
theorem d_Z_law_847 : decode mZ_law.2.1 847 = .ok (.iaload, 1) := by decide +kernel
theorem d_Z_law_848 : decode mZ_law.2.1 848 = .ok (.aload_n 0, 1) := by decide +kernel
theorem d_Z_law_849 : decode mZ_law.2.1 849 = .ok (.iload_n 3, 1) := by decide +kernel
theorem d_Z_law_850 : decode mZ_law.2.1 850 = .ok (.iconst 2, 1) := by decide +kernel
theorem d_Z_law_851 : decode mZ_law.2.1 851 = .ok (.iadd, 1) := by decide +kernel
theorem d_Z_law_852 : decode mZ_law.2.1 852 = .ok (.iaload, 1) := by decide +kernel
theorem d_Z_law_853 : decode mZ_law.2.1 853 = .ok (.invokevirtual 107, 3) := by decide +kernel
theorem d_Z_law_856 : decode mZ_law.2.1 856 = .ok (.pop, 1) := by decide +kernel
theorem d_Z_law_857 : decode mZ_law.2.1 857 = .ok (.aload_n 2, 1) := by decide +kernel
theorem d_Z_law_858 : decode mZ_law.2.1 858 = .ok (.aload_n 0, 1) := by decide +kernel
theorem d_Z_law_859 : decode mZ_law.2.1 859 = .ok (.iload_n 3, 1) := by decide +kernel
theorem d_Z_law_860 : decode mZ_law.2.1 860 = .ok (.iconst 1, 1) := by decide +kernel
theorem d_Z_law_861 : decode mZ_law.2.1 861 = .ok (.iadd, 1) := by decide +kernel
theorem d_Z_law_862 : decode mZ_law.2.1 862 = .ok (.iaload, 1) := by decide +kernel
theorem d_Z_law_863 : decode mZ_law.2.1 863 = .ok (.aload_n 0, 1) := by decide +kernel
theorem d_Z_law_864 : decode mZ_law.2.1 864 = .ok (.iload_n 3, 1) := by decide +kernel
theorem d_Z_law_865 : decode mZ_law.2.1 865 = .ok (.iconst 2, 1) := by decide +kernel
theorem d_Z_law_866 : decode mZ_law.2.1 866 = .ok (.iadd, 1) := by decide +kernel
theorem d_Z_law_867 : decode mZ_law.2.1 867 = .ok (.iaload, 1) := by decide +kernel
theorem d_Z_law_868 : decode mZ_law.2.1 868 = .ok (.invokevirtual 110, 3) := by decide +kernel
theorem d_Z_law_871 : decode mZ_law.2.1 871 = .ok (.pop, 1) := by decide +kernel
theorem d_Z_law_872 : decode mZ_law.2.1 872 = .ok (.goto 561, 3) := by decide +kernel
theorem d_Z_law_875 : decode mZ_law.2.1 875 = .ok (.aload_n 1, 1) := by decide +kernel
theorem d_Z_law_876 : decode mZ_law.2.1 876 = .ok (.aload_n 0, 1) := by decide +kernel
theorem d_Z_law_877 : decode mZ_law.2.1 877 = .ok (.iload_n 3, 1) := by decide +kernel
theorem d_Z_law_878 : decode mZ_law.2.1 878 = .ok (.iconst 1, 1) := by decide +kernel
theorem d_Z_law_879 : decode mZ_law.2.1 879 = .ok (.iadd, 1) := by decide +kernel
theorem d_Z_law_880 : decode mZ_law.2.1 880 = .ok (.iaload, 1) := by decide +kernel
theorem d_Z_law_881 : decode mZ_law.2.1 881 = .ok (.invokevirtual 111, 3) := by decide +kernel
theorem d_Z_law_884 : decode mZ_law.2.1 884 = .ok (.pop, 1) := by decide +kernel
theorem d_Z_law_885 : decode mZ_law.2.1 885 = .ok (.aload_n 2, 1) := by decide +kernel
theorem d_Z_law_886 : decode mZ_law.2.1 886 = .ok (.aload_n 0, 1) := by decide +kernel
theorem d_Z_law_887 : decode mZ_law.2.1 887 = .ok (.iload_n 3, 1) := by decide +kernel
theorem d_Z_law_888 : decode mZ_law.2.1 888 = .ok (.iconst 1, 1) := by decide +kernel
theorem d_Z_law_889 : decode mZ_law.2.1 889 = .ok (.iadd, 1) := by decide +kernel
theorem d_Z_law_890 : decode mZ_law.2.1 890 = .ok (.iaload, 1) := by decide +kernel
theorem d_Z_law_891 : decode mZ_law.2.1 891 = .ok (.invokevirtual 114, 3) := by decide +kernel
theorem d_Z_law_894 : decode mZ_law.2.1 894 = .ok (.pop, 1) := by decide +kernel
theorem d_Z_law_895 : decode mZ_law.2.1 895 = .ok (.goto 538, 3) := by decide +kernel
theorem d_Z_law_898 : decode mZ_law.2.1 898 = .ok (.aload_n 1, 1) := by decide +kernel
theorem d_Z_law_899 : decode mZ_law.2.1 899 = .ok (.aload_n 0, 1) := by decide +kernel
theorem d_Z_law_900 : decode mZ_law.2.1 900 = .ok (.iload_n 3, 1) := by decide +kernel
theorem d_Z_law_901 : decode mZ_law.2.1 901 = .ok (.iconst 1, 1) := by decide +kernel
theorem d_Z_law_902 : decode mZ_law.2.1 902 = .ok (.iadd, 1) := by decide +kernel
theorem d_Z_law_903 : decode mZ_law.2.1 903 = .ok (.iaload, 1) := by decide +kernel
theorem d_Z_law_904 : decode mZ_law.2.1 904 = .ok (.invokevirtual 115, 3) := by decide +kernel
theorem d_Z_law_907 : decode mZ_law.2.1 907 = .ok (.pop, 1) := by decide +kernel
theorem d_Z_law_908 : decode mZ_law.2.1 908 = .ok (.aload_n 2, 1) := by decide +kernel
theorem d_Z_law_909 : decode mZ_law.2.1 909 = .ok (.aload_n 0, 1) := by decide +kernel
theorem d_Z_law_910 : decode mZ_law.2.1 910 = .ok (.iload_n 3, 1) := by decide +kernel
theorem d_Z_law_911 : decode mZ_law.2.1 911 = .ok (.iconst 1, 1) := by decide +kernel
theorem d_Z_law_912 : decode mZ_law.2.1 912 = .ok (.iadd, 1) := by decide +kernel
theorem d_Z_law_913 : decode mZ_law.2.1 913 = .ok (.iaload, 1) := by decide +kernel
theorem d_Z_law_914 : decode mZ_law.2.1 914 = .ok (.invokevirtual 118, 3) := by decide +kernel
theorem d_Z_law_917 : decode mZ_law.2.1 917 = .ok (.pop, 1) := by decide +kernel
theorem d_Z_law_918 : decode mZ_law.2.1 918 = .ok (.goto 515, 3) := by decide +kernel
theorem d_Z_law_921 : decode mZ_law.2.1 921 = .ok (.aload_n 1, 1) := by decide +kernel
theorem d_Z_law_922 : decode mZ_law.2.1 922 = .ok (.aload_n 0, 1) := by decide +kernel
theorem d_Z_law_923 : decode mZ_law.2.1 923 = .ok (.iload_n 3, 1) := by decide +kernel
theorem d_Z_law_924 : decode mZ_law.2.1 924 = .ok (.iconst 1, 1) := by decide +kernel
theorem d_Z_law_925 : decode mZ_law.2.1 925 = .ok (.iadd, 1) := by decide +kernel
theorem d_Z_law_926 : decode mZ_law.2.1 926 = .ok (.iaload, 1) := by decide +kernel
theorem d_Z_law_927 : decode mZ_law.2.1 927 = .ok (.invokevirtual 119, 3) := by decide +kernel
theorem d_Z_law_930 : decode mZ_law.2.1 930 = .ok (.pop, 1) := by decide +kernel
theorem d_Z_law_931 : decode mZ_law.2.1 931 = .ok (.aload_n 2, 1) := by decide +kernel
theorem d_Z_law_932 : decode mZ_law.2.1 932 = .ok (.aload_n 0, 1) := by decide +kernel
theorem d_Z_law_933 : decode mZ_law.2.1 933 = .ok (.iload_n 3, 1) := by decide +kernel
theorem d_Z_law_934 : decode mZ_law.2.1 934 = .ok (.iconst 1, 1) := by decide +kernel
theorem d_Z_law_935 : decode mZ_law.2.1 935 = .ok (.iadd, 1) := by decide +kernel
theorem d_Z_law_936 : decode mZ_law.2.1 936 = .ok (.iaload, 1) := by decide +kernel
theorem d_Z_law_937 : decode mZ_law.2.1 937 = .ok (.invokevirtual 122, 3) := by decide +kernel
theorem d_Z_law_940 : decode mZ_law.2.1 940 = .ok (.pop, 1) := by decide +kernel
theorem d_Z_law_941 : decode mZ_law.2.1 941 = .ok (.goto 492, 3) := by decide +kernel
theorem d_Z_law_944 : decode mZ_law.2.1 944 = .ok (.aload_n 1, 1) := by decide +kernel
theorem d_Z_law_945 : decode mZ_law.2.1 945 = .ok (.invokevirtual 123, 3) := by decide +kernel
theorem d_Z_law_948 : decode mZ_law.2.1 948 = .ok (.pop, 1) := by decide +kernel
theorem d_Z_law_949 : decode mZ_law.2.1 949 = .ok (.aload_n 2, 1) := by decide +kernel
theorem d_Z_law_950 : decode mZ_law.2.1 950 = .ok (.invokevirtual 126, 3) := by decide +kernel
theorem d_Z_law_953 : decode mZ_law.2.1 953 = .ok (.pop, 1) := by decide +kernel
theorem d_Z_law_954 : decode mZ_law.2.1 954 = .ok (.goto 479, 3) := by decide +kernel
theorem d_Z_law_957 : decode mZ_law.2.1 957 = .ok (.aload_n 1, 1) := by decide +kernel
theorem d_Z_law_958 : decode mZ_law.2.1 958 = .ok (.aload_n 0, 1) := by decide +kernel
theorem d_Z_law_959 : decode mZ_law.2.1 959 = .ok (.iload_n 3, 1) := by decide +kernel
theorem d_Z_law_960 : decode mZ_law.2.1 960 = .ok (.iconst 1, 1) := by decide +kernel
theorem d_Z_law_961 : decode mZ_law.2.1 961 = .ok (.iadd, 1) := by decide +kernel
theorem d_Z_law_962 : decode mZ_law.2.1 962 = .ok (.iaload, 1) := by decide +kernel
theorem d_Z_law_963 : decode mZ_law.2.1 963 = .ok (.invokevirtual 127, 3) := by decide +kernel
theorem d_Z_law_966 : decode mZ_law.2.1 966 = .ok (.pop, 1) := by decide +kernel
theorem d_Z_law_967 : decode mZ_law.2.1 967 = .ok (.aload_n 2, 1) := by decide +kernel
theorem d_Z_law_968 : decode mZ_law.2.1 968 = .ok (.aload_n 0, 1) := by decide +kernel
theorem d_Z_law_969 : decode mZ_law.2.1 969 = .ok (.iload_n 3, 1) := by decide +kernel
theorem d_Z_law_970 : decode mZ_law.2.1 970 = .ok (.iconst 1, 1) := by decide +kernel
theorem d_Z_law_971 : decode mZ_law.2.1 971 = .ok (.iadd, 1) := by decide +kernel
theorem d_Z_law_972 : decode mZ_law.2.1 972 = .ok (.iaload, 1) := by decide +kernel
theorem d_Z_law_973 : decode mZ_law.2.1 973 = .ok (.invokevirtual 130, 3) := by decide +kernel
theorem d_Z_law_976 : decode mZ_law.2.1 976 = .ok (.pop, 1) := by decide +kernel
theorem d_Z_law_977 : decode mZ_law.2.1 977 = .ok (.goto 456, 3) := by decide +kernel
theorem d_Z_law_980 : decode mZ_law.2.1 980 = .ok (.aload_n 1, 1) := by decide +kernel
theorem d_Z_law_981 : decode mZ_law.2.1 981 = .ok (.invokevirtual 131, 3) := by decide +kernel
theorem d_Z_law_984 : decode mZ_law.2.1 984 = .ok (.pop, 1) := by decide +kernel
theorem d_Z_law_985 : decode mZ_law.2.1 985 = .ok (.aload_n 2, 1) := by decide +kernel
theorem d_Z_law_986 : decode mZ_law.2.1 986 = .ok (.invokevirtual 134, 3) := by decide +kernel
theorem d_Z_law_989 : decode mZ_law.2.1 989 = .ok (.pop, 1) := by decide +kernel
theorem d_Z_law_990 : decode mZ_law.2.1 990 = .ok (.goto 443, 3) := by decide +kernel
theorem d_Z_law_993 : decode mZ_law.2.1 993 = .ok (.aload_n 1, 1) := by decide +kernel
theorem d_Z_law_994 : decode mZ_law.2.1 994 = .ok (.invokevirtual 135, 3) := by decide +kernel
theorem d_Z_law_997 : decode mZ_law.2.1 997 = .ok (.pop, 1) := by decide +kernel
theorem d_Z_law_998 : decode mZ_law.2.1 998 = .ok (.aload_n 2, 1) := by decide +kernel
theorem d_Z_law_999 : decode mZ_law.2.1 999 = .ok (.invokevirtual 138, 3) := by decide +kernel
theorem d_Z_law_1002 : decode mZ_law.2.1 1002 = .ok (.pop, 1) := by decide +kernel
theorem d_Z_law_1003 : decode mZ_law.2.1 1003 = .ok (.goto 430, 3) := by decide +kernel
theorem d_Z_law_1006 : decode mZ_law.2.1 1006 = .ok (.aload_n 1, 1) := by decide +kernel
theorem d_Z_law_1007 : decode mZ_law.2.1 1007 = .ok (.aload_n 0, 1) := by decide +kernel
theorem d_Z_law_1008 : decode mZ_law.2.1 1008 = .ok (.iload_n 3, 1) := by decide +kernel
theorem d_Z_law_1009 : decode mZ_law.2.1 1009 = .ok (.iconst 1, 1) := by decide +kernel
theorem d_Z_law_1010 : decode mZ_law.2.1 1010 = .ok (.iadd, 1) := by decide +kernel
theorem d_Z_law_1011 : decode mZ_law.2.1 1011 = .ok (.iaload, 1) := by decide +kernel
theorem d_Z_law_1012 : decode mZ_law.2.1 1012 = .ok (.invokevirtual 139, 3) := by decide +kernel
theorem d_Z_law_1015 : decode mZ_law.2.1 1015 = .ok (.pop, 1) := by decide +kernel
theorem d_Z_law_1016 : decode mZ_law.2.1 1016 = .ok (.aload_n 2, 1) := by decide +kernel
theorem d_Z_law_1017 : decode mZ_law.2.1 1017 = .ok (.aload_n 0, 1) := by decide +kernel
theorem d_Z_law_1018 : decode mZ_law.2.1 1018 = .ok (.iload_n 3, 1) := by decide +kernel
theorem d_Z_law_1019 : decode mZ_law.2.1 1019 = .ok (.iconst 1, 1) := by decide +kernel
theorem d_Z_law_1020 : decode mZ_law.2.1 1020 = .ok (.iadd, 1) := by decide +kernel
theorem d_Z_law_1021 : decode mZ_law.2.1 1021 = .ok (.iaload, 1) := by decide +kernel
theorem d_Z_law_1022 : decode mZ_law.2.1 1022 = .ok (.invokevirtual 142, 3) := by decide +kernel
theorem d_Z_law_1025 : decode mZ_law.2.1 1025 = .ok (.pop, 1) := by decide +kernel
theorem d_Z_law_1026 : decode mZ_law.2.1 1026 = .ok (.goto 407, 3) := by decide +kernel
theorem d_Z_law_1029 : decode mZ_law.2.1 1029 = .ok (.aload_n 1, 1) := by decide +kernel
theorem d_Z_law_1030 : decode mZ_law.2.1 1030 = .ok (.invokevirtual 143, 3) := by decide +kernel
theorem d_Z_law_1033 : decode mZ_law.2.1 1033 = .ok (.pop, 1) := by decide +kernel
theorem d_Z_law_1034 : decode mZ_law.2.1 1034 = .ok (.aload_n 2, 1) := by decide +kernel
theorem d_Z_law_1035 : decode mZ_law.2.1 1035 = .ok (.invokevirtual 146, 3) := by decide +kernel
theorem d_Z_law_1038 : decode mZ_law.2.1 1038 = .ok (.pop, 1) := by decide +kernel
theorem d_Z_law_1039 : decode mZ_law.2.1 1039 = .ok (.goto 394, 3) := by decide +kernel
theorem d_Z_law_1042 : decode mZ_law.2.1 1042 = .ok (.aload_n 1, 1) := by decide +kernel
theorem d_Z_law_1043 : decode mZ_law.2.1 1043 = .ok (.aload_n 0, 1) := by decide +kernel
theorem d_Z_law_1044 : decode mZ_law.2.1 1044 = .ok (.iload_n 3, 1) := by decide +kernel
theorem d_Z_law_1045 : decode mZ_law.2.1 1045 = .ok (.iconst 1, 1) := by decide +kernel
theorem d_Z_law_1046 : decode mZ_law.2.1 1046 = .ok (.iadd, 1) := by decide +kernel
theorem d_Z_law_1047 : decode mZ_law.2.1 1047 = .ok (.iaload, 1) := by decide +kernel
theorem d_Z_law_1048 : decode mZ_law.2.1 1048 = .ok (.invokevirtual 147, 3) := by decide +kernel
theorem d_Z_law_1051 : decode mZ_law.2.1 1051 = .ok (.pop, 1) := by decide +kernel
theorem d_Z_law_1052 : decode mZ_law.2.1 1052 = .ok (.aload_n 2, 1) := by decide +kernel
theorem d_Z_law_1053 : decode mZ_law.2.1 1053 = .ok (.aload_n 0, 1) := by decide +kernel
theorem d_Z_law_1054 : decode mZ_law.2.1 1054 = .ok (.iload_n 3, 1) := by decide +kernel
theorem d_Z_law_1055 : decode mZ_law.2.1 1055 = .ok (.iconst 1, 1) := by decide +kernel
theorem d_Z_law_1056 : decode mZ_law.2.1 1056 = .ok (.iadd, 1) := by decide +kernel
theorem d_Z_law_1057 : decode mZ_law.2.1 1057 = .ok (.iaload, 1) := by decide +kernel
theorem d_Z_law_1058 : decode mZ_law.2.1 1058 = .ok (.invokevirtual 150, 3) := by decide +kernel
theorem d_Z_law_1061 : decode mZ_law.2.1 1061 = .ok (.pop, 1) := by decide +kernel
theorem d_Z_law_1062 : decode mZ_law.2.1 1062 = .ok (.goto 371, 3) := by decide +kernel
theorem d_Z_law_1065 : decode mZ_law.2.1 1065 = .ok (.aload_n 1, 1) := by decide +kernel
theorem d_Z_law_1066 : decode mZ_law.2.1 1066 = .ok (.aload_n 0, 1) := by decide +kernel
theorem d_Z_law_1067 : decode mZ_law.2.1 1067 = .ok (.iload_n 3, 1) := by decide +kernel
theorem d_Z_law_1068 : decode mZ_law.2.1 1068 = .ok (.iconst 1, 1) := by decide +kernel
theorem d_Z_law_1069 : decode mZ_law.2.1 1069 = .ok (.iadd, 1) := by decide +kernel
theorem d_Z_law_1070 : decode mZ_law.2.1 1070 = .ok (.iaload, 1) := by decide +kernel
theorem d_Z_law_1071 : decode mZ_law.2.1 1071 = .ok (.invokevirtual 151, 3) := by decide +kernel
theorem d_Z_law_1074 : decode mZ_law.2.1 1074 = .ok (.pop, 1) := by decide +kernel
theorem d_Z_law_1075 : decode mZ_law.2.1 1075 = .ok (.aload_n 2, 1) := by decide +kernel
theorem d_Z_law_1076 : decode mZ_law.2.1 1076 = .ok (.aload_n 0, 1) := by decide +kernel
theorem d_Z_law_1077 : decode mZ_law.2.1 1077 = .ok (.iload_n 3, 1) := by decide +kernel
theorem d_Z_law_1078 : decode mZ_law.2.1 1078 = .ok (.iconst 1, 1) := by decide +kernel
theorem d_Z_law_1079 : decode mZ_law.2.1 1079 = .ok (.iadd, 1) := by decide +kernel
theorem d_Z_law_1080 : decode mZ_law.2.1 1080 = .ok (.iaload, 1) := by decide +kernel
theorem d_Z_law_1081 : decode mZ_law.2.1 1081 = .ok (.invokevirtual 154, 3) := by decide +kernel
theorem d_Z_law_1084 : decode mZ_law.2.1 1084 = .ok (.pop, 1) := by decide +kernel
theorem d_Z_law_1085 : decode mZ_law.2.1 1085 = .ok (.goto 348, 3) := by decide +kernel
theorem d_Z_law_1088 : decode mZ_law.2.1 1088 = .ok (.aload_n 1, 1) := by decide +kernel
theorem d_Z_law_1089 : decode mZ_law.2.1 1089 = .ok (.invokevirtual 155, 3) := by decide +kernel
theorem d_Z_law_1092 : decode mZ_law.2.1 1092 = .ok (.pop, 1) := by decide +kernel
theorem d_Z_law_1093 : decode mZ_law.2.1 1093 = .ok (.aload_n 2, 1) := by decide +kernel
theorem d_Z_law_1094 : decode mZ_law.2.1 1094 = .ok (.invokevirtual 158, 3) := by decide +kernel
theorem d_Z_law_1097 : decode mZ_law.2.1 1097 = .ok (.pop, 1) := by decide +kernel
theorem d_Z_law_1098 : decode mZ_law.2.1 1098 = .ok (.goto 335, 3) := by decide +kernel
theorem d_Z_law_1101 : decode mZ_law.2.1 1101 = .ok (.aload_n 1, 1) := by decide +kernel
theorem d_Z_law_1102 : decode mZ_law.2.1 1102 = .ok (.aload_n 0, 1) := by decide +kernel
theorem d_Z_law_1103 : decode mZ_law.2.1 1103 = .ok (.iload_n 3, 1) := by decide +kernel
theorem d_Z_law_1104 : decode mZ_law.2.1 1104 = .ok (.iconst 1, 1) := by decide +kernel
theorem d_Z_law_1105 : decode mZ_law.2.1 1105 = .ok (.iadd, 1) := by decide +kernel
theorem d_Z_law_1106 : decode mZ_law.2.1 1106 = .ok (.iaload, 1) := by decide +kernel
theorem d_Z_law_1107 : decode mZ_law.2.1 1107 = .ok (.invokevirtual 159, 3) := by decide +kernel
theorem d_Z_law_1110 : decode mZ_law.2.1 1110 = .ok (.pop, 1) := by decide +kernel
theorem d_Z_law_1111 : decode mZ_law.2.1 1111 = .ok (.aload_n 2, 1) := by decide +kernel
theorem d_Z_law_1112 : decode mZ_law.2.1 1112 = .ok (.aload_n 0, 1) := by decide +kernel
theorem d_Z_law_1113 : decode mZ_law.2.1 1113 = .ok (.iload_n 3, 1) := by decide +kernel
theorem d_Z_law_1114 : decode mZ_law.2.1 1114 = .ok (.iconst 1, 1) := by decide +kernel
theorem d_Z_law_1115 : decode mZ_law.2.1 1115 = .ok (.iadd, 1) := by decide +kernel
theorem d_Z_law_1116 : decode mZ_law.2.1 1116 = .ok (.iaload, 1) := by decide +kernel
theorem d_Z_law_1117 : decode mZ_law.2.1 1117 = .ok (.invokevirtual 162, 3) := by decide +kernel
theorem d_Z_law_1120 : decode mZ_law.2.1 1120 = .ok (.pop, 1) := by decide +kernel
theorem d_Z_law_1121 : decode mZ_law.2.1 1121 = .ok (.goto 312, 3) := by decide +kernel
theorem d_Z_law_1124 : decode mZ_law.2.1 1124 = .ok (.aload_n 1, 1) := by decide +kernel
theorem d_Z_law_1125 : decode mZ_law.2.1 1125 = .ok (.aload_n 0, 1) := by decide +kernel
theorem d_Z_law_1126 : decode mZ_law.2.1 1126 = .ok (.iload_n 3, 1) := by decide +kernel
theorem d_Z_law_1127 : decode mZ_law.2.1 1127 = .ok (.iconst 1, 1) := by decide +kernel
theorem d_Z_law_1128 : decode mZ_law.2.1 1128 = .ok (.iadd, 1) := by decide +kernel
theorem d_Z_law_1129 : decode mZ_law.2.1 1129 = .ok (.iaload, 1) := by decide +kernel
theorem d_Z_law_1130 : decode mZ_law.2.1 1130 = .ok (.invokevirtual 163, 3) := by decide +kernel
theorem d_Z_law_1133 : decode mZ_law.2.1 1133 = .ok (.pop, 1) := by decide +kernel
theorem d_Z_law_1134 : decode mZ_law.2.1 1134 = .ok (.aload_n 2, 1) := by decide +kernel
theorem d_Z_law_1135 : decode mZ_law.2.1 1135 = .ok (.aload_n 0, 1) := by decide +kernel
theorem d_Z_law_1136 : decode mZ_law.2.1 1136 = .ok (.iload_n 3, 1) := by decide +kernel
theorem d_Z_law_1137 : decode mZ_law.2.1 1137 = .ok (.iconst 1, 1) := by decide +kernel
theorem d_Z_law_1138 : decode mZ_law.2.1 1138 = .ok (.iadd, 1) := by decide +kernel
theorem d_Z_law_1139 : decode mZ_law.2.1 1139 = .ok (.iaload, 1) := by decide +kernel
theorem d_Z_law_1140 : decode mZ_law.2.1 1140 = .ok (.invokevirtual 166, 3) := by decide +kernel
theorem d_Z_law_1143 : decode mZ_law.2.1 1143 = .ok (.pop, 1) := by decide +kernel
theorem d_Z_law_1144 : decode mZ_law.2.1 1144 = .ok (.goto 289, 3) := by decide +kernel
theorem d_Z_law_1147 : decode mZ_law.2.1 1147 = .ok (.aload_n 1, 1) := by decide +kernel
theorem d_Z_law_1148 : decode mZ_law.2.1 1148 = .ok (.aload_n 0, 1) := by decide +kernel
theorem d_Z_law_1149 : decode mZ_law.2.1 1149 = .ok (.iload_n 3, 1) := by decide +kernel
theorem d_Z_law_1150 : decode mZ_law.2.1 1150 = .ok (.iconst 1, 1) := by decide +kernel
theorem d_Z_law_1151 : decode mZ_law.2.1 1151 = .ok (.iadd, 1) := by decide +kernel
theorem d_Z_law_1152 : decode mZ_law.2.1 1152 = .ok (.iaload, 1) := by decide +kernel
theorem d_Z_law_1153 : decode mZ_law.2.1 1153 = .ok (.aload_n 0, 1) := by decide +kernel
theorem d_Z_law_1154 : decode mZ_law.2.1 1154 = .ok (.iload_n 3, 1) := by decide +kernel
theorem d_Z_law_1155 : decode mZ_law.2.1 1155 = .ok (.iconst 2, 1) := by decide +kernel
theorem d_Z_law_1156 : decode mZ_law.2.1 1156 = .ok (.iadd, 1) := by decide +kernel
theorem d_Z_law_1157 : decode mZ_law.2.1 1157 = .ok (.iaload, 1) := by decide +kernel
theorem d_Z_law_1158 : decode mZ_law.2.1 1158 = .ok (.aload_n 0, 1) := by decide +kernel
theorem d_Z_law_1159 : decode mZ_law.2.1 1159 = .ok (.iload_n 3, 1) := by decide +kernel
theorem d_Z_law_1160 : decode mZ_law.2.1 1160 = .ok (.iconst 3, 1) := by decide +kernel
theorem d_Z_law_1161 : decode mZ_law.2.1 1161 = .ok (.iadd, 1) := by decide +kernel
theorem d_Z_law_1162 : decode mZ_law.2.1 1162 = .ok (.iaload, 1) := by decide +kernel
theorem d_Z_law_1163 : decode mZ_law.2.1 1163 = .ok (.ifCond .eq 7, 3) := by decide +kernel
theorem d_Z_law_1166 : decode mZ_law.2.1 1166 = .ok (.iconst 1, 1) := by decide +kernel
theorem d_Z_law_1167 : decode mZ_law.2.1 1167 = .ok (.goto 4, 3) := by decide +kernel
theorem d_Z_law_1170 : decode mZ_law.2.1 1170 = .ok (.iconst 0, 1) := by decide +kernel
theorem d_Z_law_1171 : decode mZ_law.2.1 1171 = .ok (.invokevirtual 167, 3) := by decide +kernel
theorem d_Z_law_1174 : decode mZ_law.2.1 1174 = .ok (.pop, 1) := by decide +kernel
theorem d_Z_law_1175 : decode mZ_law.2.1 1175 = .ok (.aload_n 2, 1) := by decide +kernel
theorem d_Z_law_1176 : decode mZ_law.2.1 1176 = .ok (.aload_n 0, 1) := by decide +kernel
theorem d_Z_law_1177 : decode mZ_law.2.1 1177 = .ok (.iload_n 3, 1) := by decide +kernel
theorem d_Z_law_1178 : decode mZ_law.2.1 1178 = .ok (.iconst 1, 1) := by decide +kernel
theorem d_Z_law_1179 : decode mZ_law.2.1 1179 = .ok (.iadd, 1) := by decide +kernel
theorem d_Z_law_1180 : decode mZ_law.2.1 1180 = .ok (.iaload, 1) := by decide +kernel
theorem d_Z_law_1181 : decode mZ_law.2.1 1181 = .ok (.aload_n 0, 1) := by decide +kernel
theorem d_Z_law_1182 : decode mZ_law.2.1 1182 = .ok (.iload_n 3, 1) := by decide +kernel
theorem d_Z_law_1183 : decode mZ_law.2.1 1183 = .ok (.iconst 2, 1) := by decide +kernel
theorem d_Z_law_1184 : decode mZ_law.2.1 1184 = .ok (.iadd, 1) := by decide +kernel
theorem d_Z_law_1185 : decode mZ_law.2.1 1185 = .ok (.iaload, 1) := by decide +kernel
theorem d_Z_law_1186 : decode mZ_law.2.1 1186 = .ok (.aload_n 0, 1) := by decide +kernel
theorem d_Z_law_1187 : decode mZ_law.2.1 1187 = .ok (.iload_n 3, 1) := by decide +kernel
theorem d_Z_law_1188 : decode mZ_law.2.1 1188 = .ok (.iconst 3, 1) := by decide +kernel
theorem d_Z_law_1189 : decode mZ_law.2.1 1189 = .ok (.iadd, 1) := by decide +kernel
theorem d_Z_law_1190 : decode mZ_law.2.1 1190 = .ok (.iaload, 1) := by decide +kernel
theorem d_Z_law_1191 : decode mZ_law.2.1 1191 = .ok (.ifCond .eq 7, 3) := by decide +kernel
theorem d_Z_law_1194 : decode mZ_law.2.1 1194 = .ok (.iconst 1, 1) := by decide +kernel
theorem d_Z_law_1195 : decode mZ_law.2.1 1195 = .ok (.goto 4, 3) := by decide +kernel
theorem d_Z_law_1198 : decode mZ_law.2.1 1198 = .ok (.iconst 0, 1) := by decide +kernel
theorem d_Z_law_1199 : decode mZ_law.2.1 1199 = .ok (.invokevirtual 171, 3) := by decide +kernel
theorem d_Z_law_1202 : decode mZ_law.2.1 1202 = .ok (.pop, 1) := by decide +kernel
theorem d_Z_law_1203 : decode mZ_law.2.1 1203 = .ok (.goto 230, 3) := by decide +kernel
theorem d_Z_law_1206 : decode mZ_law.2.1 1206 = .ok (.aload_n 1, 1) := by decide +kernel
theorem d_Z_law_1207 : decode mZ_law.2.1 1207 = .ok (.aload_n 0, 1) := by decide +kernel
theorem d_Z_law_1208 : decode mZ_law.2.1 1208 = .ok (.iload_n 3, 1) := by decide +kernel
theorem d_Z_law_1209 : decode mZ_law.2.1 1209 = .ok (.iconst 1, 1) := by decide +kernel
theorem d_Z_law_1210 : decode mZ_law.2.1 1210 = .ok (.iadd, 1) := by decide +kernel
theorem d_Z_law_1211 : decode mZ_law.2.1 1211 = .ok (.iaload, 1) := by decide +kernel
theorem d_Z_law_1212 : decode mZ_law.2.1 1212 = .ok (.invokevirtual 172, 3) := by decide +kernel
theorem d_Z_law_1215 : decode mZ_law.2.1 1215 = .ok (.pop, 1) := by decide +kernel
theorem d_Z_law_1216 : decode mZ_law.2.1 1216 = .ok (.aload_n 2, 1) := by decide +kernel
theorem d_Z_law_1217 : decode mZ_law.2.1 1217 = .ok (.aload_n 0, 1) := by decide +kernel
theorem d_Z_law_1218 : decode mZ_law.2.1 1218 = .ok (.iload_n 3, 1) := by decide +kernel
theorem d_Z_law_1219 : decode mZ_law.2.1 1219 = .ok (.iconst 1, 1) := by decide +kernel
theorem d_Z_law_1220 : decode mZ_law.2.1 1220 = .ok (.iadd, 1) := by decide +kernel
theorem d_Z_law_1221 : decode mZ_law.2.1 1221 = .ok (.iaload, 1) := by decide +kernel
theorem d_Z_law_1222 : decode mZ_law.2.1 1222 = .ok (.invokevirtual 176, 3) := by decide +kernel
theorem d_Z_law_1225 : decode mZ_law.2.1 1225 = .ok (.pop, 1) := by decide +kernel
theorem d_Z_law_1226 : decode mZ_law.2.1 1226 = .ok (.goto 207, 3) := by decide +kernel
theorem d_Z_law_1229 : decode mZ_law.2.1 1229 = .ok (.aload_n 1, 1) := by decide +kernel
theorem d_Z_law_1230 : decode mZ_law.2.1 1230 = .ok (.aload_n 0, 1) := by decide +kernel
theorem d_Z_law_1231 : decode mZ_law.2.1 1231 = .ok (.iload_n 3, 1) := by decide +kernel
theorem d_Z_law_1232 : decode mZ_law.2.1 1232 = .ok (.iconst 1, 1) := by decide +kernel
theorem d_Z_law_1233 : decode mZ_law.2.1 1233 = .ok (.iadd, 1) := by decide +kernel
theorem d_Z_law_1234 : decode mZ_law.2.1 1234 = .ok (.iaload, 1) := by decide +kernel
theorem d_Z_law_1235 : decode mZ_law.2.1 1235 = .ok (.invokevirtual 177, 3) := by decide +kernel
theorem d_Z_law_1238 : decode mZ_law.2.1 1238 = .ok (.pop, 1) := by decide +kernel
theorem d_Z_law_1239 : decode mZ_law.2.1 1239 = .ok (.aload_n 2, 1) := by decide +kernel
theorem d_Z_law_1240 : decode mZ_law.2.1 1240 = .ok (.aload_n 0, 1) := by decide +kernel
theorem d_Z_law_1241 : decode mZ_law.2.1 1241 = .ok (.iload_n 3, 1) := by decide +kernel
theorem d_Z_law_1242 : decode mZ_law.2.1 1242 = .ok (.iconst 1, 1) := by decide +kernel
theorem d_Z_law_1243 : decode mZ_law.2.1 1243 = .ok (.iadd, 1) := by decide +kernel
theorem d_Z_law_1244 : decode mZ_law.2.1 1244 = .ok (.iaload, 1) := by decide +kernel
theorem d_Z_law_1245 : decode mZ_law.2.1 1245 = .ok (.invokevirtual 180, 3) := by decide +kernel
theorem d_Z_law_1248 : decode mZ_law.2.1 1248 = .ok (.pop, 1) := by decide +kernel
theorem d_Z_law_1249 : decode mZ_law.2.1 1249 = .ok (.goto 184, 3) := by decide +kernel
theorem d_Z_law_1252 : decode mZ_law.2.1 1252 = .ok (.aload_n 1, 1) := by decide +kernel
theorem d_Z_law_1253 : decode mZ_law.2.1 1253 = .ok (.aload_n 0, 1) := by decide +kernel
theorem d_Z_law_1254 : decode mZ_law.2.1 1254 = .ok (.iload_n 3, 1) := by decide +kernel
theorem d_Z_law_1255 : decode mZ_law.2.1 1255 = .ok (.iconst 1, 1) := by decide +kernel
theorem d_Z_law_1256 : decode mZ_law.2.1 1256 = .ok (.iadd, 1) := by decide +kernel
theorem d_Z_law_1257 : decode mZ_law.2.1 1257 = .ok (.iaload, 1) := by decide +kernel
theorem d_Z_law_1258 : decode mZ_law.2.1 1258 = .ok (.invokevirtual 181, 3) := by decide +kernel
theorem d_Z_law_1261 : decode mZ_law.2.1 1261 = .ok (.pop, 1) := by decide +kernel
theorem d_Z_law_1262 : decode mZ_law.2.1 1262 = .ok (.aload_n 2, 1) := by decide +kernel
theorem d_Z_law_1263 : decode mZ_law.2.1 1263 = .ok (.aload_n 0, 1) := by decide +kernel
theorem d_Z_law_1264 : decode mZ_law.2.1 1264 = .ok (.iload_n 3, 1) := by decide +kernel
theorem d_Z_law_1265 : decode mZ_law.2.1 1265 = .ok (.iconst 1, 1) := by decide +kernel
theorem d_Z_law_1266 : decode mZ_law.2.1 1266 = .ok (.iadd, 1) := by decide +kernel
theorem d_Z_law_1267 : decode mZ_law.2.1 1267 = .ok (.iaload, 1) := by decide +kernel
theorem d_Z_law_1268 : decode mZ_law.2.1 1268 = .ok (.invokevirtual 184, 3) := by decide +kernel
theorem d_Z_law_1271 : decode mZ_law.2.1 1271 = .ok (.pop, 1) := by decide +kernel
theorem d_Z_law_1272 : decode mZ_law.2.1 1272 = .ok (.goto 161, 3) := by decide +kernel
theorem d_Z_law_1275 : decode mZ_law.2.1 1275 = .ok (.aload_n 1, 1) := by decide +kernel
theorem d_Z_law_1276 : decode mZ_law.2.1 1276 = .ok (.aload_n 0, 1) := by decide +kernel
theorem d_Z_law_1277 : decode mZ_law.2.1 1277 = .ok (.iload_n 3, 1) := by decide +kernel
theorem d_Z_law_1278 : decode mZ_law.2.1 1278 = .ok (.iconst 1, 1) := by decide +kernel
theorem d_Z_law_1279 : decode mZ_law.2.1 1279 = .ok (.iadd, 1) := by decide +kernel
theorem d_Z_law_1280 : decode mZ_law.2.1 1280 = .ok (.iaload, 1) := by decide +kernel
theorem d_Z_law_1281 : decode mZ_law.2.1 1281 = .ok (.aload_n 0, 1) := by decide +kernel
theorem d_Z_law_1282 : decode mZ_law.2.1 1282 = .ok (.iload_n 3, 1) := by decide +kernel
theorem d_Z_law_1283 : decode mZ_law.2.1 1283 = .ok (.iconst 2, 1) := by decide +kernel
theorem d_Z_law_1284 : decode mZ_law.2.1 1284 = .ok (.iadd, 1) := by decide +kernel
theorem d_Z_law_1285 : decode mZ_law.2.1 1285 = .ok (.iaload, 1) := by decide +kernel
theorem d_Z_law_1286 : decode mZ_law.2.1 1286 = .ok (.invokevirtual 185, 3) := by decide +kernel
theorem d_Z_law_1289 : decode mZ_law.2.1 1289 = .ok (.pop, 1) := by decide +kernel
theorem d_Z_law_1290 : decode mZ_law.2.1 1290 = .ok (.aload_n 2, 1) := by decide +kernel
theorem d_Z_law_1291 : decode mZ_law.2.1 1291 = .ok (.aload_n 0, 1) := by decide +kernel
theorem d_Z_law_1292 : decode mZ_law.2.1 1292 = .ok (.iload_n 3, 1) := by decide +kernel
theorem d_Z_law_1293 : decode mZ_law.2.1 1293 = .ok (.iconst 1, 1) := by decide +kernel
theorem d_Z_law_1294 : decode mZ_law.2.1 1294 = .ok (.iadd, 1) := by decide +kernel
theorem d_Z_law_1295 : decode mZ_law.2.1 1295 = .ok (.iaload, 1) := by decide +kernel
theorem d_Z_law_1296 : decode mZ_law.2.1 1296 = .ok (.aload_n 0, 1) := by decide +kernel
theorem d_Z_law_1297 : decode mZ_law.2.1 1297 = .ok (.iload_n 3, 1) := by decide +kernel
theorem d_Z_law_1298 : decode mZ_law.2.1 1298 = .ok (.iconst 2, 1) := by decide +kernel
theorem d_Z_law_1299 : decode mZ_law.2.1 1299 = .ok (.iadd, 1) := by decide +kernel
theorem d_Z_law_1300 : decode mZ_law.2.1 1300 = .ok (.iaload, 1) := by decide +kernel
theorem d_Z_law_1301 : decode mZ_law.2.1 1301 = .ok (.invokevirtual 188, 3) := by decide +kernel
theorem d_Z_law_1304 : decode mZ_law.2.1 1304 = .ok (.pop, 1) := by decide +kernel
theorem d_Z_law_1305 : decode mZ_law.2.1 1305 = .ok (.goto 128, 3) := by decide +kernel
theorem d_Z_law_1308 : decode mZ_law.2.1 1308 = .ok (.aload_n 1, 1) := by decide +kernel
theorem d_Z_law_1309 : decode mZ_law.2.1 1309 = .ok (.aload_n 0, 1) := by decide +kernel
theorem d_Z_law_1310 : decode mZ_law.2.1 1310 = .ok (.iload_n 3, 1) := by decide +kernel
theorem d_Z_law_1311 : decode mZ_law.2.1 1311 = .ok (.iconst 1, 1) := by decide +kernel
theorem d_Z_law_1312 : decode mZ_law.2.1 1312 = .ok (.iadd, 1) := by decide +kernel
theorem d_Z_law_1313 : decode mZ_law.2.1 1313 = .ok (.iaload, 1) := by decide +kernel
theorem d_Z_law_1314 : decode mZ_law.2.1 1314 = .ok (.aload_n 0, 1) := by decide +kernel
theorem d_Z_law_1315 : decode mZ_law.2.1 1315 = .ok (.iload_n 3, 1) := by decide +kernel
theorem d_Z_law_1316 : decode mZ_law.2.1 1316 = .ok (.iconst 2, 1) := by decide +kernel
theorem d_Z_law_1317 : decode mZ_law.2.1 1317 = .ok (.iadd, 1) := by decide +kernel
theorem d_Z_law_1318 : decode mZ_law.2.1 1318 = .ok (.iaload, 1) := by decide +kernel
theorem d_Z_law_1319 : decode mZ_law.2.1 1319 = .ok (.invokevirtual 189, 3) := by decide +kernel
theorem d_Z_law_1322 : decode mZ_law.2.1 1322 = .ok (.pop, 1) := by decide +kernel
theorem d_Z_law_1323 : decode mZ_law.2.1 1323 = .ok (.aload_n 2, 1) := by decide +kernel
theorem d_Z_law_1324 : decode mZ_law.2.1 1324 = .ok (.aload_n 0, 1) := by decide +kernel
theorem d_Z_law_1325 : decode mZ_law.2.1 1325 = .ok (.iload_n 3, 1) := by decide +kernel
theorem d_Z_law_1326 : decode mZ_law.2.1 1326 = .ok (.iconst 1, 1) := by decide +kernel
theorem d_Z_law_1327 : decode mZ_law.2.1 1327 = .ok (.iadd, 1) := by decide +kernel
theorem d_Z_law_1328 : decode mZ_law.2.1 1328 = .ok (.iaload, 1) := by decide +kernel
theorem d_Z_law_1329 : decode mZ_law.2.1 1329 = .ok (.aload_n 0, 1) := by decide +kernel
theorem d_Z_law_1330 : decode mZ_law.2.1 1330 = .ok (.iload_n 3, 1) := by decide +kernel
theorem d_Z_law_1331 : decode mZ_law.2.1 1331 = .ok (.iconst 2, 1) := by decide +kernel
theorem d_Z_law_1332 : decode mZ_law.2.1 1332 = .ok (.iadd, 1) := by decide +kernel
theorem d_Z_law_1333 : decode mZ_law.2.1 1333 = .ok (.iaload, 1) := by decide +kernel
theorem d_Z_law_1334 : decode mZ_law.2.1 1334 = .ok (.invokevirtual 192, 3) := by decide +kernel
theorem d_Z_law_1337 : decode mZ_law.2.1 1337 = .ok (.pop, 1) := by decide +kernel
theorem d_Z_law_1338 : decode mZ_law.2.1 1338 = .ok (.goto 95, 3) := by decide +kernel
theorem d_Z_law_1341 : decode mZ_law.2.1 1341 = .ok (.aload_n 1, 1) := by decide +kernel
theorem d_Z_law_1342 : decode mZ_law.2.1 1342 = .ok (.aload_n 0, 1) := by decide +kernel
theorem d_Z_law_1343 : decode mZ_law.2.1 1343 = .ok (.iload_n 3, 1) := by decide +kernel
theorem d_Z_law_1344 : decode mZ_law.2.1 1344 = .ok (.iconst 1, 1) := by decide +kernel
theorem d_Z_law_1345 : decode mZ_law.2.1 1345 = .ok (.iadd, 1) := by decide +kernel
theorem d_Z_law_1346 : decode mZ_law.2.1 1346 = .ok (.iaload, 1) := by decide +kernel
theorem d_Z_law_1347 : decode mZ_law.2.1 1347 = .ok (.invokevirtual 193, 3) := by decide +kernel
theorem d_Z_law_1350 : decode mZ_law.2.1 1350 = .ok (.pop, 1) := by decide +kernel
theorem d_Z_law_1351 : decode mZ_law.2.1 1351 = .ok (.aload_n 2, 1) := by decide +kernel
theorem d_Z_law_1352 : decode mZ_law.2.1 1352 = .ok (.aload_n 0, 1) := by decide +kernel
theorem d_Z_law_1353 : decode mZ_law.2.1 1353 = .ok (.iload_n 3, 1) := by decide +kernel
theorem d_Z_law_1354 : decode mZ_law.2.1 1354 = .ok (.iconst 1, 1) := by decide +kernel
theorem d_Z_law_1355 : decode mZ_law.2.1 1355 = .ok (.iadd, 1) := by decide +kernel
theorem d_Z_law_1356 : decode mZ_law.2.1 1356 = .ok (.iaload, 1) := by decide +kernel
theorem d_Z_law_1357 : decode mZ_law.2.1 1357 = .ok (.invokevirtual 196, 3) := by decide +kernel
theorem d_Z_law_1360 : decode mZ_law.2.1 1360 = .ok (.pop, 1) := by decide +kernel
theorem d_Z_law_1361 : decode mZ_law.2.1 1361 = .ok (.goto 72, 3) := by decide +kernel
theorem d_Z_law_1364 : decode mZ_law.2.1 1364 = .ok (.aload_n 1, 1) := by decide +kernel
theorem d_Z_law_1365 : decode mZ_law.2.1 1365 = .ok (.aload_n 0, 1) := by decide +kernel
theorem d_Z_law_1366 : decode mZ_law.2.1 1366 = .ok (.iload_n 3, 1) := by decide +kernel
theorem d_Z_law_1367 : decode mZ_law.2.1 1367 = .ok (.iconst 1, 1) := by decide +kernel
theorem d_Z_law_1368 : decode mZ_law.2.1 1368 = .ok (.iadd, 1) := by decide +kernel
theorem d_Z_law_1369 : decode mZ_law.2.1 1369 = .ok (.iaload, 1) := by decide +kernel
theorem d_Z_law_1370 : decode mZ_law.2.1 1370 = .ok (.invokevirtual 197, 3) := by decide +kernel
theorem d_Z_law_1373 : decode mZ_law.2.1 1373 = .ok (.pop, 1) := by decide +kernel
theorem d_Z_law_1374 : decode mZ_law.2.1 1374 = .ok (.aload_n 2, 1) := by decide +kernel
theorem d_Z_law_1375 : decode mZ_law.2.1 1375 = .ok (.aload_n 0, 1) := by decide +kernel
theorem d_Z_law_1376 : decode mZ_law.2.1 1376 = .ok (.iload_n 3, 1) := by decide +kernel
theorem d_Z_law_1377 : decode mZ_law.2.1 1377 = .ok (.iconst 1, 1) := by decide +kernel
theorem d_Z_law_1378 : decode mZ_law.2.1 1378 = .ok (.iadd, 1) := by decide +kernel
theorem d_Z_law_1379 : decode mZ_law.2.1 1379 = .ok (.iaload, 1) := by decide +kernel
theorem d_Z_law_1380 : decode mZ_law.2.1 1380 = .ok (.invokevirtual 200, 3) := by decide +kernel
theorem d_Z_law_1383 : decode mZ_law.2.1 1383 = .ok (.pop, 1) := by decide +kernel
theorem d_Z_law_1384 : decode mZ_law.2.1 1384 = .ok (.goto 49, 3) := by decide +kernel
theorem d_Z_law_1387 : decode mZ_law.2.1 1387 = .ok (.aload_n 1, 1) := by decide +kernel
theorem d_Z_law_1388 : decode mZ_law.2.1 1388 = .ok (.aload_n 0, 1) := by decide +kernel
theorem d_Z_law_1389 : decode mZ_law.2.1 1389 = .ok (.iload_n 3, 1) := by decide +kernel
theorem d_Z_law_1390 : decode mZ_law.2.1 1390 = .ok (.iconst 1, 1) := by decide +kernel
theorem d_Z_law_1391 : decode mZ_law.2.1 1391 = .ok (.iadd, 1) := by decide +kernel
theorem d_Z_law_1392 : decode mZ_law.2.1 1392 = .ok (.iaload, 1) := by decide +kernel
theorem d_Z_law_1393 : decode mZ_law.2.1 1393 = .ok (.invokevirtual 201, 3) := by decide +kernel
theorem d_Z_law_1396 : decode mZ_law.2.1 1396 = .ok (.pop, 1) := by decide +kernel
theorem d_Z_law_1397 : decode mZ_law.2.1 1397 = .ok (.aload_n 2, 1) := by decide +kernel
theorem d_Z_law_1398 : decode mZ_law.2.1 1398 = .ok (.aload_n 0, 1) := by decide +kernel
theorem d_Z_law_1399 : decode mZ_law.2.1 1399 = .ok (.iload_n 3, 1) := by decide +kernel
theorem d_Z_law_1400 : decode mZ_law.2.1 1400 = .ok (.iconst 1, 1) := by decide +kernel
theorem d_Z_law_1401 : decode mZ_law.2.1 1401 = .ok (.iadd, 1) := by decide +kernel
theorem d_Z_law_1402 : decode mZ_law.2.1 1402 = .ok (.iaload, 1) := by decide +kernel
theorem d_Z_law_1403 : decode mZ_law.2.1 1403 = .ok (.invokevirtual 204, 3) := by decide +kernel
theorem d_Z_law_1406 : decode mZ_law.2.1 1406 = .ok (.pop, 1) := by decide +kernel
theorem d_Z_law_1407 : decode mZ_law.2.1 1407 = .ok (.goto 26, 3) := by decide +kernel
theorem d_Z_law_1410 : decode mZ_law.2.1 1410 = .ok (.aload_n 1, 1) := by decide +kernel
theorem d_Z_law_1411 : decode mZ_law.2.1 1411 = .ok (.aload_n 0, 1) := by decide +kernel
theorem d_Z_law_1412 : decode mZ_law.2.1 1412 = .ok (.iload_n 3, 1) := by decide +kernel
theorem d_Z_law_1413 : decode mZ_law.2.1 1413 = .ok (.iconst 1, 1) := by decide +kernel
theorem d_Z_law_1414 : decode mZ_law.2.1 1414 = .ok (.iadd, 1) := by decide +kernel
theorem d_Z_law_1415 : decode mZ_law.2.1 1415 = .ok (.iaload, 1) := by decide +kernel
theorem d_Z_law_1416 : decode mZ_law.2.1 1416 = .ok (.invokevirtual 205, 3) := by decide +kernel
theorem d_Z_law_1419 : decode mZ_law.2.1 1419 = .ok (.pop, 1) := by decide +kernel
theorem d_Z_law_1420 : decode mZ_law.2.1 1420 = .ok (.aload_n 2, 1) := by decide +kernel
theorem d_Z_law_1421 : decode mZ_law.2.1 1421 = .ok (.aload_n 0, 1) := by decide +kernel
theorem d_Z_law_1422 : decode mZ_law.2.1 1422 = .ok (.iload_n 3, 1) := by decide +kernel
theorem d_Z_law_1423 : decode mZ_law.2.1 1423 = .ok (.iconst 1, 1) := by decide +kernel
theorem d_Z_law_1424 : decode mZ_law.2.1 1424 = .ok (.iadd, 1) := by decide +kernel
theorem d_Z_law_1425 : decode mZ_law.2.1 1425 = .ok (.iaload, 1) := by decide +kernel
theorem d_Z_law_1426 : decode mZ_law.2.1 1426 = .ok (.invokevirtual 208, 3) := by decide +kernel
theorem d_Z_law_1429 : decode mZ_law.2.1 1429 = .ok (.pop, 1) := by decide +kernel
theorem d_Z_law_1430 : decode mZ_law.2.1 1430 = .ok (.goto 3, 3) := by decide +kernel
theorem d_Z_law_1433 : decode mZ_law.2.1 1433 = .ok (.iinc 3 6, 3) := by decide +kernel
theorem d_Z_law_1436 : decode mZ_law.2.1 1436 = .ok (.goto (-1418), 3) := by decide +kernel
theorem d_Z_law_1439 : decode mZ_law.2.1 1439 = .ok (.iconst 1, 1) := by decide +kernel
theorem d_Z_law_1440 : decode mZ_law.2.1 1440 = .ok (.ireturn, 1) := by decide +kernel
