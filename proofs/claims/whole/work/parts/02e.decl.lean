theorem d_0_0 : decode m0.2.1 0 = .ok (.new 7, 3) := by decide +kernel
theorem d_0_3 : decode m0.2.1 3 = .ok (.dup, 1) := by decide +kernel
theorem d_0_4 : decode m0.2.1 4 = .ok (.invokespecial 9, 3) := by decide +kernel
theorem d_0_7 : decode m0.2.1 7 = .ok (.astore_n 1, 1) := by decide +kernel
theorem d_0_8 : decode m0.2.1 8 = .ok (.new 10, 3) := by decide +kernel
theorem d_0_11 : decode m0.2.1 11 = .ok (.dup, 1) := by decide +kernel
theorem d_0_12 : decode m0.2.1 12 = .ok (.invokespecial 12, 3) := by decide +kernel
theorem d_0_15 : decode m0.2.1 15 = .ok (.astore_n 2, 1) := by decide +kernel
theorem d_0_16 : decode m0.2.1 16 = .ok (.iconst 0, 1) := by decide +kernel
theorem d_0_17 : decode m0.2.1 17 = .ok (.istore_n 3, 1) := by decide +kernel
theorem d_0_18 : decode m0.2.1 18 = .ok (.iload_n 3, 1) := by decide +kernel
theorem d_0_19 : decode m0.2.1 19 = .ok (.aload_n 0, 1) := by decide +kernel
theorem d_0_20 : decode m0.2.1 20 = .ok (.arraylength, 1) := by decide +kernel
theorem d_0_21 : decode m0.2.1 21 = .ok (.bipush 6, 2) := by decide +kernel
theorem d_0_23 : decode m0.2.1 23 = .ok (.isub, 1) := by decide +kernel
theorem d_0_24 : decode m0.2.1 24 = .ok (.if_icmp .gt 1415, 3) := by decide +kernel
theorem d_0_27 : decode m0.2.1 27 = .ok (.aload_n 0, 1) := by decide +kernel
theorem d_0_28 : decode m0.2.1 28 = .ok (.iload_n 3, 1) := by decide +kernel
theorem d_0_29 : decode m0.2.1 29 = .ok (.iaload, 1) := by decide +kernel
theorem d_0_30 : decode m0.2.1 30 = .ok (.bipush 63, 2) := by decide +kernel
theorem d_0_32 : decode m0.2.1 32 = .ok (.iand, 1) := by decide +kernel
theorem d_0_33 : decode m0.2.1 33 = .ok (.tableswitch 1400 0 46 #[203, 266, 289, 302, 325, 358, 391, 424, 447, 470, 503, 536, 569, 602, 625, 638, 651, 664, 677, 700, 733, 766, 809, 842, 865, 888, 911, 924, 947, 960, 973, 996, 1009, 1032, 1055, 1068, 1091, 1114, 1173, 1196, 1219, 1242, 1275, 1308, 1331, 1354, 1377], 203) := by decide +kernel
theorem d_0_236 : decode m0.2.1 236 = .ok (.aload_n 1, 1) := by decide +kernel
theorem d_0_237 : decode m0.2.1 237 = .ok (.aload_n 0, 1) := by decide +kernel
theorem d_0_238 : decode m0.2.1 238 = .ok (.iload_n 3, 1) := by decide +kernel
theorem d_0_239 : decode m0.2.1 239 = .ok (.iconst 1, 1) := by decide +kernel
theorem d_0_240 : decode m0.2.1 240 = .ok (.iadd, 1) := by decide +kernel
theorem d_0_241 : decode m0.2.1 241 = .ok (.iaload, 1) := by decide +kernel
theorem d_0_242 : decode m0.2.1 242 = .ok (.aload_n 0, 1) := by decide +kernel
theorem d_0_243 : decode m0.2.1 243 = .ok (.iload_n 3, 1) := by decide +kernel
theorem d_0_244 : decode m0.2.1 244 = .ok (.iconst 2, 1) := by decide +kernel
theorem d_0_245 : decode m0.2.1 245 = .ok (.iadd, 1) := by decide +kernel
theorem d_0_246 : decode m0.2.1 246 = .ok (.iaload, 1) := by decide +kernel
theorem d_0_247 : decode m0.2.1 247 = .ok (.aload_n 0, 1) := by decide +kernel
theorem d_0_248 : decode m0.2.1 248 = .ok (.iload_n 3, 1) := by decide +kernel
theorem d_0_249 : decode m0.2.1 249 = .ok (.iconst 3, 1) := by decide +kernel
theorem d_0_250 : decode m0.2.1 250 = .ok (.iadd, 1) := by decide +kernel
theorem d_0_251 : decode m0.2.1 251 = .ok (.iaload, 1) := by decide +kernel
theorem d_0_252 : decode m0.2.1 252 = .ok (.aload_n 0, 1) := by decide +kernel
theorem d_0_253 : decode m0.2.1 253 = .ok (.iload_n 3, 1) := by decide +kernel
theorem d_0_254 : decode m0.2.1 254 = .ok (.iconst 4, 1) := by decide +kernel
theorem d_0_255 : decode m0.2.1 255 = .ok (.iadd, 1) := by decide +kernel
theorem d_0_256 : decode m0.2.1 256 = .ok (.iaload, 1) := by decide +kernel
theorem d_0_257 : decode m0.2.1 257 = .ok (.aload_n 0, 1) := by decide +kernel
theorem d_0_258 : decode m0.2.1 258 = .ok (.iload_n 3, 1) := by decide +kernel
theorem d_0_259 : decode m0.2.1 259 = .ok (.iconst 5, 1) := by decide +kernel
theorem d_0_260 : decode m0.2.1 260 = .ok (.iadd, 1) := by decide +kernel
theorem d_0_261 : decode m0.2.1 261 = .ok (.iaload, 1) := by decide +kernel
theorem d_0_262 : decode m0.2.1 262 = .ok (.invokevirtual 13, 3) := by decide +kernel
theorem d_0_265 : decode m0.2.1 265 = .ok (.aload_n 2, 1) := by decide +kernel
theorem d_0_266 : decode m0.2.1 266 = .ok (.aload_n 0, 1) := by decide +kernel
theorem d_0_267 : decode m0.2.1 267 = .ok (.iload_n 3, 1) := by decide +kernel
theorem d_0_268 : decode m0.2.1 268 = .ok (.iconst 1, 1) := by decide +kernel
theorem d_0_269 : decode m0.2.1 269 = .ok (.iadd, 1) := by decide +kernel
theorem d_0_270 : decode m0.2.1 270 = .ok (.iaload, 1) := by decide +kernel
theorem d_0_271 : decode m0.2.1 271 = .ok (.aload_n 0, 1) := by decide +kernel
theorem d_0_272 : decode m0.2.1 272 = .ok (.iload_n 3, 1) := by decide +kernel
theorem d_0_273 : decode m0.2.1 273 = .ok (.iconst 2, 1) := by decide +kernel
theorem d_0_274 : decode m0.2.1 274 = .ok (.iadd, 1) := by decide +kernel
theorem d_0_275 : decode m0.2.1 275 = .ok (.iaload, 1) := by decide +kernel
theorem d_0_276 : decode m0.2.1 276 = .ok (.aload_n 0, 1) := by decide +kernel
theorem d_0_277 : decode m0.2.1 277 = .ok (.iload_n 3, 1) := by decide +kernel
theorem d_0_278 : decode m0.2.1 278 = .ok (.iconst 3, 1) := by decide +kernel
theorem d_0_279 : decode m0.2.1 279 = .ok (.iadd, 1) := by decide +kernel
theorem d_0_280 : decode m0.2.1 280 = .ok (.iaload, 1) := by decide +kernel
theorem d_0_281 : decode m0.2.1 281 = .ok (.aload_n 0, 1) := by decide +kernel
theorem d_0_282 : decode m0.2.1 282 = .ok (.iload_n 3, 1) := by decide +kernel
theorem d_0_283 : decode m0.2.1 283 = .ok (.iconst 4, 1) := by decide +kernel
theorem d_0_284 : decode m0.2.1 284 = .ok (.iadd, 1) := by decide +kernel
theorem d_0_285 : decode m0.2.1 285 = .ok (.iaload, 1) := by decide +kernel
theorem d_0_286 : decode m0.2.1 286 = .ok (.aload_n 0, 1) := by decide +kernel
theorem d_0_287 : decode m0.2.1 287 = .ok (.iload_n 3, 1) := by decide +kernel
theorem d_0_288 : decode m0.2.1 288 = .ok (.iconst 5, 1) := by decide +kernel
theorem d_0_289 : decode m0.2.1 289 = .ok (.iadd, 1) := by decide +kernel
theorem d_0_290 : decode m0.2.1 290 = .ok (.iaload, 1) := by decide +kernel
theorem d_0_291 : decode m0.2.1 291 = .ok (.invokevirtual 17, 3) := by decide +kernel
theorem d_0_294 : decode m0.2.1 294 = .ok (.if_icmp .eq 1139, 3) := by decide +kernel
theorem d_0_297 : decode m0.2.1 297 = .ok (.iconst 0, 1) := by decide +kernel
theorem d_0_298 : decode m0.2.1 298 = .ok (.ireturn, 1) := by decide +kernel
theorem d_0_299 : decode m0.2.1 299 = .ok (.aload_n 1, 1) := by decide +kernel
theorem d_0_300 : decode m0.2.1 300 = .ok (.aload_n 0, 1) := by decide +kernel
theorem d_0_301 : decode m0.2.1 301 = .ok (.iload_n 3, 1) := by decide +kernel
theorem d_0_302 : decode m0.2.1 302 = .ok (.iconst 1, 1) := by decide +kernel
theorem d_0_303 : decode m0.2.1 303 = .ok (.iadd, 1) := by decide +kernel
theorem d_0_304 : decode m0.2.1 304 = .ok (.iaload, 1) := by decide +kernel
theorem d_0_305 : decode m0.2.1 305 = .ok (.invokevirtual 18, 3) := by decide +kernel
theorem d_0_308 : decode m0.2.1 308 = .ok (.aload_n 2, 1) := by decide +kernel
theorem d_0_309 : decode m0.2.1 309 = .ok (.aload_n 0, 1) := by decide +kernel
theorem d_0_310 : decode m0.2.1 310 = .ok (.iload_n 3, 1) := by decide +kernel
theorem d_0_311 : decode m0.2.1 311 = .ok (.iconst 1, 1) := by decide +kernel
theorem d_0_312 : decode m0.2.1 312 = .ok (.iadd, 1) := by decide +kernel
theorem d_0_313 : decode m0.2.1 313 = .ok (.iaload, 1) := by decide +kernel
theorem d_0_314 : decode m0.2.1 314 = .ok (.invokevirtual 22, 3) := by decide +kernel
theorem d_0_317 : decode m0.2.1 317 = .ok (.if_icmp .eq 1116, 3) := by decide +kernel
theorem d_0_320 : decode m0.2.1 320 = .ok (.iconst 0, 1) := by decide +kernel
theorem d_0_321 : decode m0.2.1 321 = .ok (.ireturn, 1) := by decide +kernel
theorem d_0_322 : decode m0.2.1 322 = .ok (.aload_n 1, 1) := by decide +kernel
theorem d_0_323 : decode m0.2.1 323 = .ok (.invokevirtual 23, 3) := by decide +kernel
theorem d_0_326 : decode m0.2.1 326 = .ok (.aload_n 2, 1) := by decide +kernel
theorem d_0_327 : decode m0.2.1 327 = .ok (.invokevirtual 27, 3) := by decide +kernel
theorem d_0_330 : decode m0.2.1 330 = .ok (.if_icmp .eq 1103, 3) := by decide +kernel
theorem d_0_333 : decode m0.2.1 333 = .ok (.iconst 0, 1) := by decide +kernel
theorem d_0_334 : decode m0.2.1 334 = .ok (.ireturn, 1) := by decide +kernel
theorem d_0_335 : decode m0.2.1 335 = .ok (.aload_n 1, 1) := by decide +kernel
theorem d_0_336 : decode m0.2.1 336 = .ok (.aload_n 0, 1) := by decide +kernel
theorem d_0_337 : decode m0.2.1 337 = .ok (.iload_n 3, 1) := by decide +kernel
theorem d_0_338 : decode m0.2.1 338 = .ok (.iconst 1, 1) := by decide +kernel
theorem d_0_339 : decode m0.2.1 339 = .ok (.iadd, 1) := by decide +kernel
theorem d_0_340 : decode m0.2.1 340 = .ok (.iaload, 1) := by decide +kernel
theorem d_0_341 : decode m0.2.1 341 = .ok (.invokevirtual 28, 3) := by decide +kernel
theorem d_0_344 : decode m0.2.1 344 = .ok (.aload_n 2, 1) := by decide +kernel
theorem d_0_345 : decode m0.2.1 345 = .ok (.aload_n 0, 1) := by decide +kernel
theorem d_0_346 : decode m0.2.1 346 = .ok (.iload_n 3, 1) := by decide +kernel
theorem d_0_347 : decode m0.2.1 347 = .ok (.iconst 1, 1) := by decide +kernel
theorem d_0_348 : decode m0.2.1 348 = .ok (.iadd, 1) := by decide +kernel
theorem d_0_349 : decode m0.2.1 349 = .ok (.iaload, 1) := by decide +kernel
theorem d_0_350 : decode m0.2.1 350 = .ok (.invokevirtual 31, 3) := by decide +kernel
theorem d_0_353 : decode m0.2.1 353 = .ok (.if_icmp .eq 1080, 3) := by decide +kernel
theorem d_0_356 : decode m0.2.1 356 = .ok (.iconst 0, 1) := by decide +kernel
theorem d_0_357 : decode m0.2.1 357 = .ok (.ireturn, 1) := by decide +kernel
theorem d_0_358 : decode m0.2.1 358 = .ok (.aload_n 1, 1) := by decide +kernel
theorem d_0_359 : decode m0.2.1 359 = .ok (.aload_n 0, 1) := by decide +kernel
theorem d_0_360 : decode m0.2.1 360 = .ok (.iload_n 3, 1) := by decide +kernel
theorem d_0_361 : decode m0.2.1 361 = .ok (.iconst 1, 1) := by decide +kernel
theorem d_0_362 : decode m0.2.1 362 = .ok (.iadd, 1) := by decide +kernel
theorem d_0_363 : decode m0.2.1 363 = .ok (.iaload, 1) := by decide +kernel
theorem d_0_364 : decode m0.2.1 364 = .ok (.aload_n 0, 1) := by decide +kernel
theorem d_0_365 : decode m0.2.1 365 = .ok (.iload_n 3, 1) := by decide +kernel
theorem d_0_366 : decode m0.2.1 366 = .ok (.iconst 2, 1) := by decide +kernel
theorem d_0_367 : decode m0.2.1 367 = .ok (.iadd, 1) := by decide +kernel
theorem d_0_368 : decode m0.2.1 368 = .ok (.iaload, 1) := by decide +kernel
theorem d_0_369 : decode m0.2.1 369 = .ok (.invokevirtual 32, 3) := by decide +kernel
theorem d_0_372 : decode m0.2.1 372 = .ok (.aload_n 2, 1) := by decide +kernel
theorem d_0_373 : decode m0.2.1 373 = .ok (.aload_n 0, 1) := by decide +kernel
theorem d_0_374 : decode m0.2.1 374 = .ok (.iload_n 3, 1) := by decide +kernel
theorem d_0_375 : decode m0.2.1 375 = .ok (.iconst 1, 1) := by decide +kernel
theorem d_0_376 : decode m0.2.1 376 = .ok (.iadd, 1) := by decide +kernel
theorem d_0_377 : decode m0.2.1 377 = .ok (.iaload, 1) := by decide +kernel
theorem d_0_378 : decode m0.2.1 378 = .ok (.aload_n 0, 1) := by decide +kernel
theorem d_0_379 : decode m0.2.1 379 = .ok (.iload_n 3, 1) := by decide +kernel
theorem d_0_380 : decode m0.2.1 380 = .ok (.iconst 2, 1) := by decide +kernel
theorem d_0_381 : decode m0.2.1 381 = .ok (.iadd, 1) := by decide +kernel
theorem d_0_382 : decode m0.2.1 382 = .ok (.iaload, 1) := by decide +kernel
theorem d_0_383 : decode m0.2.1 383 = .ok (.invokevirtual 36, 3) := by decide +kernel
theorem d_0_386 : decode m0.2.1 386 = .ok (.if_icmp .eq 1047, 3) := by decide +kernel
theorem d_0_389 : decode m0.2.1 389 = .ok (.iconst 0, 1) := by decide +kernel
theorem d_0_390 : decode m0.2.1 390 = .ok (.ireturn, 1) := by decide +kernel
theorem d_0_391 : decode m0.2.1 391 = .ok (.aload_n 1, 1) := by decide +kernel
theorem d_0_392 : decode m0.2.1 392 = .ok (.aload_n 0, 1) := by decide +kernel
theorem d_0_393 : decode m0.2.1 393 = .ok (.iload_n 3, 1) := by decide +kernel
theorem d_0_394 : decode m0.2.1 394 = .ok (.iconst 1, 1) := by decide +kernel
theorem d_0_395 : decode m0.2.1 395 = .ok (.iadd, 1) := by decide +kernel
theorem d_0_396 : decode m0.2.1 396 = .ok (.iaload, 1) := by decide +kernel
theorem d_0_397 : decode m0.2.1 397 = .ok (.aload_n 0, 1) := by decide +kernel
theorem d_0_398 : decode m0.2.1 398 = .ok (.iload_n 3, 1) := by decide +kernel
theorem d_0_399 : decode m0.2.1 399 = .ok (.iconst 2, 1) := by decide +kernel
theorem d_0_400 : decode m0.2.1 400 = .ok (.iadd, 1) := by decide +kernel
theorem d_0_401 : decode m0.2.1 401 = .ok (.iaload, 1) := by decide +kernel
theorem d_0_402 : decode m0.2.1 402 = .ok (.invokevirtual 37, 3) := by decide +kernel
theorem d_0_405 : decode m0.2.1 405 = .ok (.aload_n 2, 1) := by decide +kernel
theorem d_0_406 : decode m0.2.1 406 = .ok (.aload_n 0, 1) := by decide +kernel
theorem d_0_407 : decode m0.2.1 407 = .ok (.iload_n 3, 1) := by decide +kernel
theorem d_0_408 : decode m0.2.1 408 = .ok (.iconst 1, 1) := by decide +kernel
theorem d_0_409 : decode m0.2.1 409 = .ok (.iadd, 1) := by decide +kernel
theorem d_0_410 : decode m0.2.1 410 = .ok (.iaload, 1) := by decide +kernel
theorem d_0_411 : decode m0.2.1 411 = .ok (.aload_n 0, 1) := by decide +kernel
theorem d_0_412 : decode m0.2.1 412 = .ok (.iload_n 3, 1) := by decide +kernel
theorem d_0_413 : decode m0.2.1 413 = .ok (.iconst 2, 1) := by decide +kernel
theorem d_0_414 : decode m0.2.1 414 = .ok (.iadd, 1) := by decide +kernel
theorem d_0_415 : decode m0.2.1 415 = .ok (.iaload, 1) := by decide +kernel
theorem d_0_416 : decode m0.2.1 416 = .ok (.invokevirtual 40, 3) := by decide +kernel
theorem d_0_419 : decode m0.2.1 419 = .ok (.if_icmp .eq 1014, 3) := by decide +kernel
theorem d_0_422 : decode m0.2.1 422 = .ok (.iconst 0, 1) := by decide +kernel
theorem d_0_423 : decode m0.2.1 423 = .ok (.ireturn, 1) := by decide +kernel
theorem d_0_424 : decode m0.2.1 424 = .ok (.aload_n 1, 1) := by decide +kernel
theorem d_0_425 : decode m0.2.1 425 = .ok (.aload_n 0, 1) := by decide +kernel
theorem d_0_426 : decode m0.2.1 426 = .ok (.iload_n 3, 1) := by decide +kernel
theorem d_0_427 : decode m0.2.1 427 = .ok (.iconst 1, 1) := by decide +kernel
theorem d_0_428 : decode m0.2.1 428 = .ok (.iadd, 1) := by decide +kernel
theorem d_0_429 : decode m0.2.1 429 = .ok (.iaload, 1) := by decide +kernel
theorem d_0_430 : decode m0.2.1 430 = .ok (.aload_n 0, 1) := by decide +kernel
theorem d_0_431 : decode m0.2.1 431 = .ok (.iload_n 3, 1) := by decide +kernel
theorem d_0_432 : decode m0.2.1 432 = .ok (.iconst 2, 1) := by decide +kernel
theorem d_0_433 : decode m0.2.1 433 = .ok (.iadd, 1) := by decide +kernel
theorem d_0_434 : decode m0.2.1 434 = .ok (.iaload, 1) := by decide +kernel
theorem d_0_435 : decode m0.2.1 435 = .ok (.invokevirtual 41, 3) := by decide +kernel
theorem d_0_438 : decode m0.2.1 438 = .ok (.aload_n 2, 1) := by decide +kernel
theorem d_0_439 : decode m0.2.1 439 = .ok (.aload_n 0, 1) := by decide +kernel
theorem d_0_440 : decode m0.2.1 440 = .ok (.iload_n 3, 1) := by decide +kernel
theorem d_0_441 : decode m0.2.1 441 = .ok (.iconst 1, 1) := by decide +kernel
theorem d_0_442 : decode m0.2.1 442 = .ok (.iadd, 1) := by decide +kernel
theorem d_0_443 : decode m0.2.1 443 = .ok (.iaload, 1) := by decide +kernel
theorem d_0_444 : decode m0.2.1 444 = .ok (.aload_n 0, 1) := by decide +kernel
theorem d_0_445 : decode m0.2.1 445 = .ok (.iload_n 3, 1) := by decide +kernel
theorem d_0_446 : decode m0.2.1 446 = .ok (.iconst 2, 1) := by decide +kernel
theorem d_0_447 : decode m0.2.1 447 = .ok (.iadd, 1) := by decide +kernel
theorem d_0_448 : decode m0.2.1 448 = .ok (.iaload, 1) := by decide +kernel
theorem d_0_449 : decode m0.2.1 449 = .ok (.invokevirtual 44, 3) := by decide +kernel
theorem d_0_452 : decode m0.2.1 452 = .ok (.if_icmp .eq 981, 3) := by decide +kernel
theorem d_0_455 : decode m0.2.1 455 = .ok (.iconst 0, 1) := by decide +kernel
theorem d_0_456 : decode m0.2.1 456 = .ok (.ireturn, 1) := by decide +kernel
theorem d_0_457 : decode m0.2.1 457 = .ok (.aload_n 1, 1) := by decide +kernel
theorem d_0_458 : decode m0.2.1 458 = .ok (.aload_n 0, 1) := by decide +kernel
theorem d_0_459 : decode m0.2.1 459 = .ok (.iload_n 3, 1) := by decide +kernel
theorem d_0_460 : decode m0.2.1 460 = .ok (.iconst 1, 1) := by decide +kernel
theorem d_0_461 : decode m0.2.1 461 = .ok (.iadd, 1) := by decide +kernel
theorem d_0_462 : decode m0.2.1 462 = .ok (.iaload, 1) := by decide +kernel
theorem d_0_463 : decode m0.2.1 463 = .ok (.invokevirtual 45, 3) := by decide +kernel
theorem d_0_466 : decode m0.2.1 466 = .ok (.aload_n 2, 1) := by decide +kernel
theorem d_0_467 : decode m0.2.1 467 = .ok (.aload_n 0, 1) := by decide +kernel
theorem d_0_468 : decode m0.2.1 468 = .ok (.iload_n 3, 1) := by decide +kernel
theorem d_0_469 : decode m0.2.1 469 = .ok (.iconst 1, 1) := by decide +kernel
theorem d_0_470 : decode m0.2.1 470 = .ok (.iadd, 1) := by decide +kernel
theorem d_0_471 : decode m0.2.1 471 = .ok (.iaload, 1) := by decide +kernel
theorem d_0_472 : decode m0.2.1 472 = .ok (.invokevirtual 48, 3) := by decide +kernel
theorem d_0_475 : decode m0.2.1 475 = .ok (.if_icmp .eq 958, 3) := by decide +kernel
theorem d_0_478 : decode m0.2.1 478 = .ok (.iconst 0, 1) := by decide +kernel
theorem d_0_479 : decode m0.2.1 479 = .ok (.ireturn, 1) := by decide +kernel
theorem d_0_480 : decode m0.2.1 480 = .ok (.aload_n 1, 1) := by decide +kernel
theorem d_0_481 : decode m0.2.1 481 = .ok (.aload_n 0, 1) := by decide +kernel
theorem d_0_482 : decode m0.2.1 482 = .ok (.iload_n 3, 1) := by decide +kernel
theorem d_0_483 : decode m0.2.1 483 = .ok (.iconst 1, 1) := by decide +kernel
theorem d_0_484 : decode m0.2.1 484 = .ok (.iadd, 1) := by decide +kernel
theorem d_0_485 : decode m0.2.1 485 = .ok (.iaload, 1) := by decide +kernel
theorem d_0_486 : decode m0.2.1 486 = .ok (.invokevirtual 49, 3) := by decide +kernel
theorem d_0_489 : decode m0.2.1 489 = .ok (.aload_n 2, 1) := by decide +kernel
theorem d_0_490 : decode m0.2.1 490 = .ok (.aload_n 0, 1) := by decide +kernel
theorem d_0_491 : decode m0.2.1 491 = .ok (.iload_n 3, 1) := by decide +kernel
theorem d_0_492 : decode m0.2.1 492 = .ok (.iconst 1, 1) := by decide +kernel
theorem d_0_493 : decode m0.2.1 493 = .ok (.iadd, 1) := by decide +kernel
theorem d_0_494 : decode m0.2.1 494 = .ok (.iaload, 1) := by decide +kernel
theorem d_0_495 : decode m0.2.1 495 = .ok (.invokevirtual 52, 3) := by decide +kernel
theorem d_0_498 : decode m0.2.1 498 = .ok (.if_icmp .eq 935, 3) := by decide +kernel
theorem d_0_501 : decode m0.2.1 501 = .ok (.iconst 0, 1) := by decide +kernel
theorem d_0_502 : decode m0.2.1 502 = .ok (.ireturn, 1) := by decide +kernel
theorem d_0_503 : decode m0.2.1 503 = .ok (.aload_n 1, 1) := by decide +kernel
theorem d_0_504 : decode m0.2.1 504 = .ok (.aload_n 0, 1) := by decide +kernel
theorem d_0_505 : decode m0.2.1 505 = .ok (.iload_n 3, 1) := by decide +kernel
theorem d_0_506 : decode m0.2.1 506 = .ok (.iconst 1, 1) := by decide +kernel
theorem d_0_507 : decode m0.2.1 507 = .ok (.iadd, 1) := by decide +kernel
theorem d_0_508 : decode m0.2.1 508 = .ok (.iaload, 1) := by decide +kernel
theorem d_0_509 : decode m0.2.1 509 = .ok (.aload_n 0, 1) := by decide +kernel
theorem d_0_510 : decode m0.2.1 510 = .ok (.iload_n 3, 1) := by decide +kernel
theorem d_0_511 : decode m0.2.1 511 = .ok (.iconst 2, 1) := by decide +kernel
theorem d_0_512 : decode m0.2.1 512 = .ok (.iadd, 1) := by decide +kernel
theorem d_0_513 : decode m0.2.1 513 = .ok (.iaload, 1) := by decide +kernel
theorem d_0_514 : decode m0.2.1 514 = .ok (.invokevirtual 53, 3) := by decide +kernel
theorem d_0_517 : decode m0.2.1 517 = .ok (.aload_n 2, 1) := by decide +kernel
theorem d_0_518 : decode m0.2.1 518 = .ok (.aload_n 0, 1) := by decide +kernel
theorem d_0_519 : decode m0.2.1 519 = .ok (.iload_n 3, 1) := by decide +kernel
theorem d_0_520 : decode m0.2.1 520 = .ok (.iconst 1, 1) := by decide +kernel
theorem d_0_521 : decode m0.2.1 521 = .ok (.iadd, 1) := by decide +kernel
theorem d_0_522 : decode m0.2.1 522 = .ok (.iaload, 1) := by decide +kernel
theorem d_0_523 : decode m0.2.1 523 = .ok (.aload_n 0, 1) := by decide +kernel
theorem d_0_524 : decode m0.2.1 524 = .ok (.iload_n 3, 1) := by decide +kernel
theorem d_0_525 : decode m0.2.1 525 = .ok (.iconst 2, 1) := by decide +kernel
theorem d_0_526 : decode m0.2.1 526 = .ok (.iadd, 1) := by decide +kernel
theorem d_0_527 : decode m0.2.1 527 = .ok (.iaload, 1) := by decide +kernel
theorem d_0_528 : decode m0.2.1 528 = .ok (.invokevirtual 56, 3) := by decide +kernel
theorem d_0_531 : decode m0.2.1 531 = .ok (.if_icmp .eq 902, 3) := by decide +kernel
theorem d_0_534 : decode m0.2.1 534 = .ok (.iconst 0, 1) := by decide +kernel
theorem d_0_535 : decode m0.2.1 535 = .ok (.ireturn, 1) := by decide +kernel
theorem d_0_536 : decode m0.2.1 536 = .ok (.aload_n 1, 1) := by decide +kernel
theorem d_0_537 : decode m0.2.1 537 = .ok (.aload_n 0, 1) := by decide +kernel
theorem d_0_538 : decode m0.2.1 538 = .ok (.iload_n 3, 1) := by decide +kernel
theorem d_0_539 : decode m0.2.1 539 = .ok (.iconst 1, 1) := by decide +kernel
theorem d_0_540 : decode m0.2.1 540 = .ok (.iadd, 1) := by decide +kernel
theorem d_0_541 : decode m0.2.1 541 = .ok (.iaload, 1) := by decide +kernel
theorem d_0_542 : decode m0.2.1 542 = .ok (.aload_n 0, 1) := by decide +kernel
theorem d_0_543 : decode m0.2.1 543 = .ok (.iload_n 3, 1) := by decide +kernel
theorem d_0_544 : decode m0.2.1 544 = .ok (.iconst 2, 1) := by decide +kernel
theorem d_0_545 : decode m0.2.1 545 = .ok (.iadd, 1) := by decide +kernel
theorem d_0_546 : decode m0.2.1 546 = .ok (.iaload, 1) := by decide +kernel
theorem d_0_547 : decode m0.2.1 547 = .ok (.invokevirtual 57, 3) := by decide +kernel
theorem d_0_550 : decode m0.2.1 550 = .ok (.aload_n 2, 1) := by decide +kernel
theorem d_0_551 : decode m0.2.1 551 = .ok (.aload_n 0, 1) := by decide +kernel
theorem d_0_552 : decode m0.2.1 552 = .ok (.iload_n 3, 1) := by decide +kernel
theorem d_0_553 : decode m0.2.1 553 = .ok (.iconst 1, 1) := by decide +kernel
theorem d_0_554 : decode m0.2.1 554 = .ok (.iadd, 1) := by decide +kernel
theorem d_0_555 : decode m0.2.1 555 = .ok (.iaload, 1) := by decide +kernel
theorem d_0_556 : decode m0.2.1 556 = .ok (.aload_n 0, 1) := by decide +kernel
theorem d_0_557 : decode m0.2.1 557 = .ok (.iload_n 3, 1) := by decide +kernel
theorem d_0_558 : decode m0.2.1 558 = .ok (.iconst 2, 1) := by decide +kernel
theorem d_0_559 : decode m0.2.1 559 = .ok (.iadd, 1) := by decide +kernel
theorem d_0_560 : decode m0.2.1 560 = .ok (.iaload, 1) := by decide +kernel
theorem d_0_561 : decode m0.2.1 561 = .ok (.invokevirtual 60, 3) := by decide +kernel
theorem d_0_564 : decode m0.2.1 564 = .ok (.if_icmp .eq 869, 3) := by decide +kernel
theorem d_0_567 : decode m0.2.1 567 = .ok (.iconst 0, 1) := by decide +kernel
theorem d_0_568 : decode m0.2.1 568 = .ok (.ireturn, 1) := by decide +kernel
theorem d_0_569 : decode m0.2.1 569 = .ok (.aload_n 1, 1) := by decide +kernel
theorem d_0_570 : decode m0.2.1 570 = .ok (.aload_n 0, 1) := by decide +kernel
theorem d_0_571 : decode m0.2.1 571 = .ok (.iload_n 3, 1) := by decide +kernel
theorem d_0_572 : decode m0.2.1 572 = .ok (.iconst 1, 1) := by decide +kernel
theorem d_0_573 : decode m0.2.1 573 = .ok (.iadd, 1) := by decide +kernel
theorem d_0_574 : decode m0.2.1 574 = .ok (.iaload, 1) := by decide +kernel
theorem d_0_575 : decode m0.2.1 575 = .ok (.aload_n 0, 1) := by decide +kernel
theorem d_0_576 : decode m0.2.1 576 = .ok (.iload_n 3, 1) := by decide +kernel
theorem d_0_577 : decode m0.2.1 577 = .ok (.iconst 2, 1) := by decide +kernel
theorem d_0_578 : decode m0.2.1 578 = .ok (.iadd, 1) := by decide +kernel
theorem d_0_579 : decode m0.2.1 579 = .ok (.iaload, 1) := by decide +kernel
theorem d_0_580 : decode m0.2.1 580 = .ok (.invokevirtual 61, 3) := by decide +kernel
theorem d_0_583 : decode m0.2.1 583 = .ok (.aload_n 2, 1) := by decide +kernel
theorem d_0_584 : decode m0.2.1 584 = .ok (.aload_n 0, 1) := by decide +kernel
theorem d_0_585 : decode m0.2.1 585 = .ok (.iload_n 3, 1) := by decide +kernel
theorem d_0_586 : decode m0.2.1 586 = .ok (.iconst 1, 1) := by decide +kernel
theorem d_0_587 : decode m0.2.1 587 = .ok (.iadd, 1) := by decide +kernel
theorem d_0_588 : decode m0.2.1 588 = .ok (.iaload, 1) := by decide +kernel
theorem d_0_589 : decode m0.2.1 589 = .ok (.aload_n 0, 1) := by decide +kernel
theorem d_0_590 : decode m0.2.1 590 = .ok (.iload_n 3, 1) := by decide +kernel
theorem d_0_591 : decode m0.2.1 591 = .ok (.iconst 2, 1) := by decide +kernel
theorem d_0_592 : decode m0.2.1 592 = .ok (.iadd, 1) := by decide +kernel
theorem d_0_593 : decode m0.2.1 593 = .ok (.iaload, 1) := by decide +kernel
theorem d_0_594 : decode m0.2.1 594 = .ok (.invokevirtual 64, 3) := by decide +kernel
theorem d_0_597 : decode m0.2.1 597 = .ok (.if_icmp .eq 836, 3) := by decide +kernel
theorem d_0_600 : decode m0.2.1 600 = .ok (.iconst 0, 1) := by decide +kernel
theorem d_0_601 : decode m0.2.1 601 = .ok (.ireturn, 1) := by decide +kernel
theorem d_0_602 : decode m0.2.1 602 = .ok (.aload_n 1, 1) := by decide +kernel
theorem d_0_603 : decode m0.2.1 603 = .ok (.aload_n 0, 1) := by decide +kernel
theorem d_0_604 : decode m0.2.1 604 = .ok (.iload_n 3, 1) := by decide +kernel
theorem d_0_605 : decode m0.2.1 605 = .ok (.iconst 1, 1) := by decide +kernel
theorem d_0_606 : decode m0.2.1 606 = .ok (.iadd, 1) := by decide +kernel
theorem d_0_607 : decode m0.2.1 607 = .ok (.iaload, 1) := by decide +kernel
theorem d_0_608 : decode m0.2.1 608 = .ok (.aload_n 0, 1) := by decide +kernel
theorem d_0_609 : decode m0.2.1 609 = .ok (.iload_n 3, 1) := by decide +kernel
theorem d_0_610 : decode m0.2.1 610 = .ok (.iconst 2, 1) := by decide +kernel
theorem d_0_611 : decode m0.2.1 611 = .ok (.iadd, 1) := by decide +kernel
theorem d_0_612 : decode m0.2.1 612 = .ok (.iaload, 1) := by decide +kernel
theorem d_0_613 : decode m0.2.1 613 = .ok (.invokevirtual 65, 3) := by decide +kernel
theorem d_0_616 : decode m0.2.1 616 = .ok (.aload_n 2, 1) := by decide +kernel
theorem d_0_617 : decode m0.2.1 617 = .ok (.aload_n 0, 1) := by decide +kernel
theorem d_0_618 : decode m0.2.1 618 = .ok (.iload_n 3, 1) := by decide +kernel
theorem d_0_619 : decode m0.2.1 619 = .ok (.iconst 1, 1) := by decide +kernel
theorem d_0_620 : decode m0.2.1 620 = .ok (.iadd, 1) := by decide +kernel
theorem d_0_621 : decode m0.2.1 621 = .ok (.iaload, 1) := by decide +kernel
theorem d_0_622 : decode m0.2.1 622 = .ok (.aload_n 0, 1) := by decide +kernel
theorem d_0_623 : decode m0.2.1 623 = .ok (.iload_n 3, 1) := by decide +kernel
theorem d_0_624 : decode m0.2.1 624 = .ok (.iconst 2, 1) := by decide +kernel
theorem d_0_625 : decode m0.2.1 625 = .ok (.iadd, 1) := by decide +kernel
theorem d_0_626 : decode m0.2.1 626 = .ok (.iaload, 1) := by decide +kernel
theorem d_0_627 : decode m0.2.1 627 = .ok (.invokevirtual 68, 3) := by decide +kernel
theorem d_0_630 : decode m0.2.1 630 = .ok (.if_icmp .eq 803, 3) := by decide +kernel
theorem d_0_633 : decode m0.2.1 633 = .ok (.iconst 0, 1) := by decide +kernel
theorem d_0_634 : decode m0.2.1 634 = .ok (.ireturn, 1) := by decide +kernel
theorem d_0_635 : decode m0.2.1 635 = .ok (.aload_n 1, 1) := by decide +kernel
theorem d_0_636 : decode m0.2.1 636 = .ok (.aload_n 0, 1) := by decide +kernel
theorem d_0_637 : decode m0.2.1 637 = .ok (.iload_n 3, 1) := by decide +kernel
theorem d_0_638 : decode m0.2.1 638 = .ok (.iconst 1, 1) := by decide +kernel
theorem d_0_639 : decode m0.2.1 639 = .ok (.iadd, 1) := by decide +kernel
theorem d_0_640 : decode m0.2.1 640 = .ok (.iaload, 1) := by decide +kernel
theorem d_0_641 : decode m0.2.1 641 = .ok (.invokevirtual 69, 3) := by decide +kernel
theorem d_0_644 : decode m0.2.1 644 = .ok (.aload_n 2, 1) := by decide +kernel
theorem d_0_645 : decode m0.2.1 645 = .ok (.aload_n 0, 1) := by decide +kernel
theorem d_0_646 : decode m0.2.1 646 = .ok (.iload_n 3, 1) := by decide +kernel
theorem d_0_647 : decode m0.2.1 647 = .ok (.iconst 1, 1) := by decide +kernel
theorem d_0_648 : decode m0.2.1 648 = .ok (.iadd, 1) := by decide +kernel
theorem d_0_649 : decode m0.2.1 649 = .ok (.iaload, 1) := by decide +kernel
theorem d_0_650 : decode m0.2.1 650 = .ok (.invokevirtual 72, 3) := by decide +kernel
theorem d_0_653 : decode m0.2.1 653 = .ok (.if_icmp .eq 780, 3) := by decide +kernel
theorem d_0_656 : decode m0.2.1 656 = .ok (.iconst 0, 1) := by decide +kernel
theorem d_0_657 : decode m0.2.1 657 = .ok (.ireturn, 1) := by decide +kernel
theorem d_0_658 : decode m0.2.1 658 = .ok (.aload_n 1, 1) := by decide +kernel
theorem d_0_659 : decode m0.2.1 659 = .ok (.invokevirtual 73, 3) := by decide +kernel
theorem d_0_662 : decode m0.2.1 662 = .ok (.aload_n 2, 1) := by decide +kernel
theorem d_0_663 : decode m0.2.1 663 = .ok (.invokevirtual 77, 3) := by decide +kernel
theorem d_0_666 : decode m0.2.1 666 = .ok (.if_icmp .eq 767, 3) := by decide +kernel
theorem d_0_669 : decode m0.2.1 669 = .ok (.iconst 0, 1) := by decide +kernel
theorem d_0_670 : decode m0.2.1 670 = .ok (.ireturn, 1) := by decide +kernel
theorem d_0_671 : decode m0.2.1 671 = .ok (.aload_n 1, 1) := by decide +kernel
theorem d_0_672 : decode m0.2.1 672 = .ok (.invokevirtual 78, 3) := by decide +kernel
theorem d_0_675 : decode m0.2.1 675 = .ok (.aload_n 2, 1) := by decide +kernel
theorem d_0_676 : decode m0.2.1 676 = .ok (.invokevirtual 81, 3) := by decide +kernel
theorem d_0_679 : decode m0.2.1 679 = .ok (.if_icmp .eq 754, 3) := by decide +kernel
theorem d_0_682 : decode m0.2.1 682 = .ok (.iconst 0, 1) := by decide +kernel
theorem d_0_683 : decode m0.2.1 683 = .ok (.ireturn, 1) := by decide +kernel
theorem d_0_684 : decode m0.2.1 684 = .ok (.aload_n 1, 1) := by decide +kernel
theorem d_0_685 : decode m0.2.1 685 = .ok (.invokevirtual 82, 3) := by decide +kernel
theorem d_0_688 : decode m0.2.1 688 = .ok (.aload_n 2, 1) := by decide +kernel
theorem d_0_689 : decode m0.2.1 689 = .ok (.invokevirtual 85, 3) := by decide +kernel
theorem d_0_692 : decode m0.2.1 692 = .ok (.if_icmp .eq 741, 3) := by decide +kernel
theorem d_0_695 : decode m0.2.1 695 = .ok (.iconst 0, 1) := by decide +kernel
theorem d_0_696 : decode m0.2.1 696 = .ok (.ireturn, 1) := by decide +kernel
theorem d_0_697 : decode m0.2.1 697 = .ok (.aload_n 1, 1) := by decide +kernel
theorem d_0_698 : decode m0.2.1 698 = .ok (.invokevirtual 86, 3) := by decide +kernel
theorem d_0_701 : decode m0.2.1 701 = .ok (.aload_n 2, 1) := by decide +kernel
theorem d_0_702 : decode m0.2.1 702 = .ok (.invokevirtual 89, 3) := by decide +kernel
theorem d_0_705 : decode m0.2.1 705 = .ok (.if_icmp .eq 728, 3) := by decide +kernel
theorem d_0_708 : decode m0.2.1 708 = .ok (.iconst 0, 1) := by decide +kernel
theorem d_0_709 : decode m0.2.1 709 = .ok (.ireturn, 1) := by decide +kernel
theorem d_0_710 : decode m0.2.1 710 = .ok (.aload_n 1, 1) := by decide +kernel
theorem d_0_711 : decode m0.2.1 711 = .ok (.aload_n 0, 1) := by decide +kernel
theorem d_0_712 : decode m0.2.1 712 = .ok (.iload_n 3, 1) := by decide +kernel
theorem d_0_713 : decode m0.2.1 713 = .ok (.iconst 1, 1) := by decide +kernel
theorem d_0_714 : decode m0.2.1 714 = .ok (.iadd, 1) := by decide +kernel
theorem d_0_715 : decode m0.2.1 715 = .ok (.iaload, 1) := by decide +kernel
theorem d_0_716 : decode m0.2.1 716 = .ok (.invokevirtual 90, 3) := by decide +kernel
theorem d_0_719 : decode m0.2.1 719 = .ok (.aload_n 2, 1) := by decide +kernel
theorem d_0_720 : decode m0.2.1 720 = .ok (.aload_n 0, 1) := by decide +kernel
theorem d_0_721 : decode m0.2.1 721 = .ok (.iload_n 3, 1) := by decide +kernel
theorem d_0_722 : decode m0.2.1 722 = .ok (.iconst 1, 1) := by decide +kernel
theorem d_0_723 : decode m0.2.1 723 = .ok (.iadd, 1) := by decide +kernel
theorem d_0_724 : decode m0.2.1 724 = .ok (.iaload, 1) := by decide +kernel
theorem d_0_725 : decode m0.2.1 725 = .ok (.invokevirtual 93, 3) := by decide +kernel
theorem d_0_728 : decode m0.2.1 728 = .ok (.if_icmp .eq 705, 3) := by decide +kernel
theorem d_0_731 : decode m0.2.1 731 = .ok (.iconst 0, 1) := by decide +kernel
theorem d_0_732 : decode m0.2.1 732 = .ok (.ireturn, 1) := by decide +kernel
theorem d_0_733 : decode m0.2.1 733 = .ok (.aload_n 1, 1) := by decide +kernel
theorem d_0_734 : decode m0.2.1 734 = .ok (.aload_n 0, 1) := by decide +kernel
theorem d_0_735 : decode m0.2.1 735 = .ok (.iload_n 3, 1) := by decide +kernel
theorem d_0_736 : decode m0.2.1 736 = .ok (.iconst 1, 1) := by decide +kernel
theorem d_0_737 : decode m0.2.1 737 = .ok (.iadd, 1) := by decide +kernel
theorem d_0_738 : decode m0.2.1 738 = .ok (.iaload, 1) := by decide +kernel
theorem d_0_739 : decode m0.2.1 739 = .ok (.aload_n 0, 1) := by decide +kernel
theorem d_0_740 : decode m0.2.1 740 = .ok (.iload_n 3, 1) := by decide +kernel
theorem d_0_741 : decode m0.2.1 741 = .ok (.iconst 2, 1) := by decide +kernel
theorem d_0_742 : decode m0.2.1 742 = .ok (.iadd, 1) := by decide +kernel
theorem d_0_743 : decode m0.2.1 743 = .ok (.iaload, 1) := by decide +kernel
theorem d_0_744 : decode m0.2.1 744 = .ok (.invokevirtual 94, 3) := by decide +kernel
theorem d_0_747 : decode m0.2.1 747 = .ok (.aload_n 2, 1) := by decide +kernel
theorem d_0_748 : decode m0.2.1 748 = .ok (.aload_n 0, 1) := by decide +kernel
theorem d_0_749 : decode m0.2.1 749 = .ok (.iload_n 3, 1) := by decide +kernel
theorem d_0_750 : decode m0.2.1 750 = .ok (.iconst 1, 1) := by decide +kernel
theorem d_0_751 : decode m0.2.1 751 = .ok (.iadd, 1) := by decide +kernel
theorem d_0_752 : decode m0.2.1 752 = .ok (.iaload, 1) := by decide +kernel
theorem d_0_753 : decode m0.2.1 753 = .ok (.aload_n 0, 1) := by decide +kernel
theorem d_0_754 : decode m0.2.1 754 = .ok (.iload_n 3, 1) := by decide +kernel
theorem d_0_755 : decode m0.2.1 755 = .ok (.iconst 2, 1) := by decide +kernel
theorem d_0_756 : decode m0.2.1 756 = .ok (.iadd, 1) := by decide +kernel
theorem d_0_757 : decode m0.2.1 757 = .ok (.iaload, 1) := by decide +kernel
theorem d_0_758 : decode m0.2.1 758 = .ok (.invokevirtual 97, 3) := by decide +kernel
theorem d_0_761 : decode m0.2.1 761 = .ok (.if_icmp .eq 672, 3) := by decide +kernel
theorem d_0_764 : decode m0.2.1 764 = .ok (.iconst 0, 1) := by decide +kernel
theorem d_0_765 : decode m0.2.1 765 = .ok (.ireturn, 1) := by decide +kernel
theorem d_0_766 : decode m0.2.1 766 = .ok (.aload_n 1, 1) := by decide +kernel
theorem d_0_767 : decode m0.2.1 767 = .ok (.aload_n 0, 1) := by decide +kernel
theorem d_0_768 : decode m0.2.1 768 = .ok (.iload_n 3, 1) := by decide +kernel
theorem d_0_769 : decode m0.2.1 769 = .ok (.iconst 1, 1) := by decide +kernel
theorem d_0_770 : decode m0.2.1 770 = .ok (.iadd, 1) := by decide +kernel
theorem d_0_771 : decode m0.2.1 771 = .ok (.iaload, 1) := by decide +kernel
theorem d_0_772 : decode m0.2.1 772 = .ok (.aload_n 0, 1) := by decide +kernel
theorem d_0_773 : decode m0.2.1 773 = .ok (.iload_n 3, 1) := by decide +kernel
theorem d_0_774 : decode m0.2.1 774 = .ok (.iconst 2, 1) := by decide +kernel
theorem d_0_775 : decode m0.2.1 775 = .ok (.iadd, 1) := by decide +kernel
theorem d_0_776 : decode m0.2.1 776 = .ok (.iaload, 1) := by decide +kernel
theorem d_0_777 : decode m0.2.1 777 = .ok (.invokevirtual 98, 3) := by decide +kernel
theorem d_0_780 : decode m0.2.1 780 = .ok (.aload_n 2, 1) := by decide +kernel
theorem d_0_781 : decode m0.2.1 781 = .ok (.aload_n 0, 1) := by decide +kernel
theorem d_0_782 : decode m0.2.1 782 = .ok (.iload_n 3, 1) := by decide +kernel
theorem d_0_783 : decode m0.2.1 783 = .ok (.iconst 1, 1) := by decide +kernel
theorem d_0_784 : decode m0.2.1 784 = .ok (.iadd, 1) := by decide +kernel
theorem d_0_785 : decode m0.2.1 785 = .ok (.iaload, 1) := by decide +kernel
theorem d_0_786 : decode m0.2.1 786 = .ok (.aload_n 0, 1) := by decide +kernel
theorem d_0_787 : decode m0.2.1 787 = .ok (.iload_n 3, 1) := by decide +kernel
theorem d_0_788 : decode m0.2.1 788 = .ok (.iconst 2, 1) := by decide +kernel
theorem d_0_789 : decode m0.2.1 789 = .ok (.iadd, 1) := by decide +kernel
theorem d_0_790 : decode m0.2.1 790 = .ok (.iaload, 1) := by decide +kernel
theorem d_0_791 : decode m0.2.1 791 = .ok (.invokevirtual 101, 3) := by decide +kernel
theorem d_0_794 : decode m0.2.1 794 = .ok (.if_icmp .eq 639, 3) := by decide +kernel
theorem d_0_797 : decode m0.2.1 797 = .ok (.iconst 0, 1) := by decide +kernel
theorem d_0_798 : decode m0.2.1 798 = .ok (.ireturn, 1) := by decide +kernel
theorem d_0_799 : decode m0.2.1 799 = .ok (.aload_n 1, 1) := by decide +kernel
theorem d_0_800 : decode m0.2.1 800 = .ok (.aload_n 0, 1) := by decide +kernel
theorem d_0_801 : decode m0.2.1 801 = .ok (.iload_n 3, 1) := by decide +kernel
theorem d_0_802 : decode m0.2.1 802 = .ok (.iconst 1, 1) := by decide +kernel
theorem d_0_803 : decode m0.2.1 803 = .ok (.iadd, 1) := by decide +kernel
theorem d_0_804 : decode m0.2.1 804 = .ok (.iaload, 1) := by decide +kernel
theorem d_0_805 : decode m0.2.1 805 = .ok (.aload_n 0, 1) := by decide +kernel
theorem d_0_806 : decode m0.2.1 806 = .ok (.iload_n 3, 1) := by decide +kernel
theorem d_0_807 : decode m0.2.1 807 = .ok (.iconst 2, 1) := by decide +kernel
theorem d_0_808 : decode m0.2.1 808 = .ok (.iadd, 1) := by decide +kernel
theorem d_0_809 : decode m0.2.1 809 = .ok (.iaload, 1) := by decide +kernel
theorem d_0_810 : decode m0.2.1 810 = .ok (.aload_n 0, 1) := by decide +kernel
theorem d_0_811 : decode m0.2.1 811 = .ok (.iload_n 3, 1) := by decide +kernel
theorem d_0_812 : decode m0.2.1 812 = .ok (.iconst 3, 1) := by decide +kernel
theorem d_0_813 : decode m0.2.1 813 = .ok (.iadd, 1) := by decide +kernel
theorem d_0_814 : decode m0.2.1 814 = .ok (.iaload, 1) := by decide +kernel
theorem d_0_815 : decode m0.2.1 815 = .ok (.invokevirtual 102, 3) := by decide +kernel
theorem d_0_818 : decode m0.2.1 818 = .ok (.aload_n 2, 1) := by decide +kernel
theorem d_0_819 : decode m0.2.1 819 = .ok (.aload_n 0, 1) := by decide +kernel
theorem d_0_820 : decode m0.2.1 820 = .ok (.iload_n 3, 1) := by decide +kernel
theorem d_0_821 : decode m0.2.1 821 = .ok (.iconst 1, 1) := by decide +kernel
theorem d_0_822 : decode m0.2.1 822 = .ok (.iadd, 1) := by decide +kernel
theorem d_0_823 : decode m0.2.1 823 = .ok (.iaload, 1) := by decide +kernel
theorem d_0_824 : decode m0.2.1 824 = .ok (.aload_n 0, 1) := by decide +kernel
theorem d_0_825 : decode m0.2.1 825 = .ok (.iload_n 3, 1) := by decide +kernel
theorem d_0_826 : decode m0.2.1 826 = .ok (.iconst 2, 1) := by decide +kernel
theorem d_0_827 : decode m0.2.1 827 = .ok (.iadd, 1) := by decide +kernel
theorem d_0_828 : decode m0.2.1 828 = .ok (.iaload, 1) := by decide +kernel
theorem d_0_829 : decode m0.2.1 829 = .ok (.aload_n 0, 1) := by decide +kernel
theorem d_0_830 : decode m0.2.1 830 = .ok (.iload_n 3, 1) := by decide +kernel
theorem d_0_831 : decode m0.2.1 831 = .ok (.iconst 3, 1) := by decide +kernel
theorem d_0_832 : decode m0.2.1 832 = .ok (.iadd, 1) := by decide +kernel
theorem d_0_833 : decode m0.2.1 833 = .ok (.iaload, 1) := by decide +kernel
theorem d_0_834 : decode m0.2.1 834 = .ok (.invokevirtual 106, 3) := by decide +kernel
theorem d_0_837 : decode m0.2.1 837 = .ok (.if_icmp .eq 596, 3) := by decide +kernel
theorem d_0_840 : decode m0.2.1 840 = .ok (.iconst 0, 1) := by decide +kernel
theorem d_0_841 : decode m0.2.1 841 = .ok (.ireturn, 1) := by decide +kernel
theorem d_0_842 : decode m0.2.1 842 = .ok (.aload_n 1, 1) := by decide +kernel
theorem d_0_843 : decode m0.2.1 843 = .ok (.aload_n 0, 1) := by decide +kernel
theorem d_0_844 : decode m0.2.1 844 = .ok (.iload_n 3, 1) := by decide +kernel
theorem d_0_845 : decode m0.2.1 845 = .ok (.iconst 1, 1) := by decide +kernel
theorem d_0_846 : decode m0.2.1 846 = .ok (.iadd, 1) := by decide +kernel
theorem d_0_847 : decode m0.2.1 847 = .ok (.iaload, 1) := by decide +kernel
theorem d_0_848 : decode m0.2.1 848 = .ok (.aload_n 0, 1) := by decide +kernel
theorem d_0_849 : decode m0.2.1 849 = .ok (.iload_n 3, 1) := by decide +kernel
theorem d_0_850 : decode m0.2.1 850 = .ok (.iconst 2, 1) := by decide +kernel
theorem d_0_851 : decode m0.2.1 851 = .ok (.iadd, 1) := by decide +kernel
theorem d_0_852 : decode m0.2.1 852 = .ok (.iaload, 1) := by decide +kernel
theorem d_0_853 : decode m0.2.1 853 = .ok (.invokevirtual 107, 3) := by decide +kernel
theorem d_0_856 : decode m0.2.1 856 = .ok (.aload_n 2, 1) := by decide +kernel
theorem d_0_857 : decode m0.2.1 857 = .ok (.aload_n 0, 1) := by decide +kernel
theorem d_0_858 : decode m0.2.1 858 = .ok (.iload_n 3, 1) := by decide +kernel
theorem d_0_859 : decode m0.2.1 859 = .ok (.iconst 1, 1) := by decide +kernel
theorem d_0_860 : decode m0.2.1 860 = .ok (.iadd, 1) := by decide +kernel
theorem d_0_861 : decode m0.2.1 861 = .ok (.iaload, 1) := by decide +kernel
theorem d_0_862 : decode m0.2.1 862 = .ok (.aload_n 0, 1) := by decide +kernel
theorem d_0_863 : decode m0.2.1 863 = .ok (.iload_n 3, 1) := by decide +kernel
theorem d_0_864 : decode m0.2.1 864 = .ok (.iconst 2, 1) := by decide +kernel
theorem d_0_865 : decode m0.2.1 865 = .ok (.iadd, 1) := by decide +kernel
theorem d_0_866 : decode m0.2.1 866 = .ok (.iaload, 1) := by decide +kernel
theorem d_0_867 : decode m0.2.1 867 = .ok (.invokevirtual 110, 3) := by decide +kernel
theorem d_0_870 : decode m0.2.1 870 = .ok (.if_icmp .eq 563, 3) := by decide +kernel
theorem d_0_873 : decode m0.2.1 873 = .ok (.iconst 0, 1) := by decide +kernel
theorem d_0_874 : decode m0.2.1 874 = .ok (.ireturn, 1) := by decide +kernel
theorem d_0_875 : decode m0.2.1 875 = .ok (.aload_n 1, 1) := by decide +kernel
theorem d_0_876 : decode m0.2.1 876 = .ok (.aload_n 0, 1) := by decide +kernel
theorem d_0_877 : decode m0.2.1 877 = .ok (.iload_n 3, 1) := by decide +kernel
theorem d_0_878 : decode m0.2.1 878 = .ok (.iconst 1, 1) := by decide +kernel
theorem d_0_879 : decode m0.2.1 879 = .ok (.iadd, 1) := by decide +kernel
theorem d_0_880 : decode m0.2.1 880 = .ok (.iaload, 1) := by decide +kernel
theorem d_0_881 : decode m0.2.1 881 = .ok (.invokevirtual 111, 3) := by decide +kernel
theorem d_0_884 : decode m0.2.1 884 = .ok (.aload_n 2, 1) := by decide +kernel
theorem d_0_885 : decode m0.2.1 885 = .ok (.aload_n 0, 1) := by decide +kernel
theorem d_0_886 : decode m0.2.1 886 = .ok (.iload_n 3, 1) := by decide +kernel
theorem d_0_887 : decode m0.2.1 887 = .ok (.iconst 1, 1) := by decide +kernel
theorem d_0_888 : decode m0.2.1 888 = .ok (.iadd, 1) := by decide +kernel
theorem d_0_889 : decode m0.2.1 889 = .ok (.iaload, 1) := by decide +kernel
theorem d_0_890 : decode m0.2.1 890 = .ok (.invokevirtual 114, 3) := by decide +kernel
theorem d_0_893 : decode m0.2.1 893 = .ok (.if_icmp .eq 540, 3) := by decide +kernel
theorem d_0_896 : decode m0.2.1 896 = .ok (.iconst 0, 1) := by decide +kernel
theorem d_0_897 : decode m0.2.1 897 = .ok (.ireturn, 1) := by decide +kernel
theorem d_0_898 : decode m0.2.1 898 = .ok (.aload_n 1, 1) := by decide +kernel
theorem d_0_899 : decode m0.2.1 899 = .ok (.aload_n 0, 1) := by decide +kernel
theorem d_0_900 : decode m0.2.1 900 = .ok (.iload_n 3, 1) := by decide +kernel
theorem d_0_901 : decode m0.2.1 901 = .ok (.iconst 1, 1) := by decide +kernel
theorem d_0_902 : decode m0.2.1 902 = .ok (.iadd, 1) := by decide +kernel
theorem d_0_903 : decode m0.2.1 903 = .ok (.iaload, 1) := by decide +kernel
theorem d_0_904 : decode m0.2.1 904 = .ok (.invokevirtual 115, 3) := by decide +kernel
theorem d_0_907 : decode m0.2.1 907 = .ok (.aload_n 2, 1) := by decide +kernel
theorem d_0_908 : decode m0.2.1 908 = .ok (.aload_n 0, 1) := by decide +kernel
theorem d_0_909 : decode m0.2.1 909 = .ok (.iload_n 3, 1) := by decide +kernel
theorem d_0_910 : decode m0.2.1 910 = .ok (.iconst 1, 1) := by decide +kernel
theorem d_0_911 : decode m0.2.1 911 = .ok (.iadd, 1) := by decide +kernel
theorem d_0_912 : decode m0.2.1 912 = .ok (.iaload, 1) := by decide +kernel
theorem d_0_913 : decode m0.2.1 913 = .ok (.invokevirtual 118, 3) := by decide +kernel
theorem d_0_916 : decode m0.2.1 916 = .ok (.if_icmp .eq 517, 3) := by decide +kernel
theorem d_0_919 : decode m0.2.1 919 = .ok (.iconst 0, 1) := by decide +kernel
theorem d_0_920 : decode m0.2.1 920 = .ok (.ireturn, 1) := by decide +kernel
theorem d_0_921 : decode m0.2.1 921 = .ok (.aload_n 1, 1) := by decide +kernel
theorem d_0_922 : decode m0.2.1 922 = .ok (.aload_n 0, 1) := by decide +kernel
theorem d_0_923 : decode m0.2.1 923 = .ok (.iload_n 3, 1) := by decide +kernel
theorem d_0_924 : decode m0.2.1 924 = .ok (.iconst 1, 1) := by decide +kernel
theorem d_0_925 : decode m0.2.1 925 = .ok (.iadd, 1) := by decide +kernel
theorem d_0_926 : decode m0.2.1 926 = .ok (.iaload, 1) := by decide +kernel
theorem d_0_927 : decode m0.2.1 927 = .ok (.invokevirtual 119, 3) := by decide +kernel
theorem d_0_930 : decode m0.2.1 930 = .ok (.aload_n 2, 1) := by decide +kernel
theorem d_0_931 : decode m0.2.1 931 = .ok (.aload_n 0, 1) := by decide +kernel
theorem d_0_932 : decode m0.2.1 932 = .ok (.iload_n 3, 1) := by decide +kernel
theorem d_0_933 : decode m0.2.1 933 = .ok (.iconst 1, 1) := by decide +kernel
theorem d_0_934 : decode m0.2.1 934 = .ok (.iadd, 1) := by decide +kernel
theorem d_0_935 : decode m0.2.1 935 = .ok (.iaload, 1) := by decide +kernel
theorem d_0_936 : decode m0.2.1 936 = .ok (.invokevirtual 122, 3) := by decide +kernel
theorem d_0_939 : decode m0.2.1 939 = .ok (.if_icmp .eq 494, 3) := by decide +kernel
theorem d_0_942 : decode m0.2.1 942 = .ok (.iconst 0, 1) := by decide +kernel
theorem d_0_943 : decode m0.2.1 943 = .ok (.ireturn, 1) := by decide +kernel
theorem d_0_944 : decode m0.2.1 944 = .ok (.aload_n 1, 1) := by decide +kernel
theorem d_0_945 : decode m0.2.1 945 = .ok (.invokevirtual 123, 3) := by decide +kernel
theorem d_0_948 : decode m0.2.1 948 = .ok (.aload_n 2, 1) := by decide +kernel
theorem d_0_949 : decode m0.2.1 949 = .ok (.invokevirtual 126, 3) := by decide +kernel
theorem d_0_952 : decode m0.2.1 952 = .ok (.if_icmp .eq 481, 3) := by decide +kernel
theorem d_0_955 : decode m0.2.1 955 = .ok (.iconst 0, 1) := by decide +kernel
theorem d_0_956 : decode m0.2.1 956 = .ok (.ireturn, 1) := by decide +kernel
theorem d_0_957 : decode m0.2.1 957 = .ok (.aload_n 1, 1) := by decide +kernel
theorem d_0_958 : decode m0.2.1 958 = .ok (.aload_n 0, 1) := by decide +kernel
theorem d_0_959 : decode m0.2.1 959 = .ok (.iload_n 3, 1) := by decide +kernel
theorem d_0_960 : decode m0.2.1 960 = .ok (.iconst 1, 1) := by decide +kernel
theorem d_0_961 : decode m0.2.1 961 = .ok (.iadd, 1) := by decide +kernel
theorem d_0_962 : decode m0.2.1 962 = .ok (.iaload, 1) := by decide +kernel
theorem d_0_963 : decode m0.2.1 963 = .ok (.invokevirtual 127, 3) := by decide +kernel
theorem d_0_966 : decode m0.2.1 966 = .ok (.aload_n 2, 1) := by decide +kernel
theorem d_0_967 : decode m0.2.1 967 = .ok (.aload_n 0, 1) := by decide +kernel
theorem d_0_968 : decode m0.2.1 968 = .ok (.iload_n 3, 1) := by decide +kernel
theorem d_0_969 : decode m0.2.1 969 = .ok (.iconst 1, 1) := by decide +kernel
theorem d_0_970 : decode m0.2.1 970 = .ok (.iadd, 1) := by decide +kernel
theorem d_0_971 : decode m0.2.1 971 = .ok (.iaload, 1) := by decide +kernel
theorem d_0_972 : decode m0.2.1 972 = .ok (.invokevirtual 130, 3) := by decide +kernel
theorem d_0_975 : decode m0.2.1 975 = .ok (.if_icmp .eq 458, 3) := by decide +kernel
theorem d_0_978 : decode m0.2.1 978 = .ok (.iconst 0, 1) := by decide +kernel
theorem d_0_979 : decode m0.2.1 979 = .ok (.ireturn, 1) := by decide +kernel
theorem d_0_980 : decode m0.2.1 980 = .ok (.aload_n 1, 1) := by decide +kernel
theorem d_0_981 : decode m0.2.1 981 = .ok (.invokevirtual 131, 3) := by decide +kernel
theorem d_0_984 : decode m0.2.1 984 = .ok (.aload_n 2, 1) := by decide +kernel
theorem d_0_985 : decode m0.2.1 985 = .ok (.invokevirtual 134, 3) := by decide +kernel
theorem d_0_988 : decode m0.2.1 988 = .ok (.if_icmp .eq 445, 3) := by decide +kernel
theorem d_0_991 : decode m0.2.1 991 = .ok (.iconst 0, 1) := by decide +kernel
theorem d_0_992 : decode m0.2.1 992 = .ok (.ireturn, 1) := by decide +kernel
theorem d_0_993 : decode m0.2.1 993 = .ok (.aload_n 1, 1) := by decide +kernel
theorem d_0_994 : decode m0.2.1 994 = .ok (.invokevirtual 135, 3) := by decide +kernel
theorem d_0_997 : decode m0.2.1 997 = .ok (.aload_n 2, 1) := by decide +kernel
theorem d_0_998 : decode m0.2.1 998 = .ok (.invokevirtual 138, 3) := by decide +kernel
theorem d_0_1001 : decode m0.2.1 1001 = .ok (.if_icmp .eq 432, 3) := by decide +kernel
theorem d_0_1004 : decode m0.2.1 1004 = .ok (.iconst 0, 1) := by decide +kernel
theorem d_0_1005 : decode m0.2.1 1005 = .ok (.ireturn, 1) := by decide +kernel
theorem d_0_1006 : decode m0.2.1 1006 = .ok (.aload_n 1, 1) := by decide +kernel
theorem d_0_1007 : decode m0.2.1 1007 = .ok (.aload_n 0, 1) := by decide +kernel
theorem d_0_1008 : decode m0.2.1 1008 = .ok (.iload_n 3, 1) := by decide +kernel
theorem d_0_1009 : decode m0.2.1 1009 = .ok (.iconst 1, 1) := by decide +kernel
theorem d_0_1010 : decode m0.2.1 1010 = .ok (.iadd, 1) := by decide +kernel
theorem d_0_1011 : decode m0.2.1 1011 = .ok (.iaload, 1) := by decide +kernel
theorem d_0_1012 : decode m0.2.1 1012 = .ok (.invokevirtual 139, 3) := by decide +kernel
theorem d_0_1015 : decode m0.2.1 1015 = .ok (.aload_n 2, 1) := by decide +kernel
theorem d_0_1016 : decode m0.2.1 1016 = .ok (.aload_n 0, 1) := by decide +kernel
theorem d_0_1017 : decode m0.2.1 1017 = .ok (.iload_n 3, 1) := by decide +kernel
theorem d_0_1018 : decode m0.2.1 1018 = .ok (.iconst 1, 1) := by decide +kernel
theorem d_0_1019 : decode m0.2.1 1019 = .ok (.iadd, 1) := by decide +kernel
theorem d_0_1020 : decode m0.2.1 1020 = .ok (.iaload, 1) := by decide +kernel
theorem d_0_1021 : decode m0.2.1 1021 = .ok (.invokevirtual 142, 3) := by decide +kernel
theorem d_0_1024 : decode m0.2.1 1024 = .ok (.if_icmp .eq 409, 3) := by decide +kernel
theorem d_0_1027 : decode m0.2.1 1027 = .ok (.iconst 0, 1) := by decide +kernel
theorem d_0_1028 : decode m0.2.1 1028 = .ok (.ireturn, 1) := by decide +kernel
theorem d_0_1029 : decode m0.2.1 1029 = .ok (.aload_n 1, 1) := by decide +kernel
theorem d_0_1030 : decode m0.2.1 1030 = .ok (.invokevirtual 143, 3) := by decide +kernel
theorem d_0_1033 : decode m0.2.1 1033 = .ok (.aload_n 2, 1) := by decide +kernel
theorem d_0_1034 : decode m0.2.1 1034 = .ok (.invokevirtual 146, 3) := by decide +kernel
theorem d_0_1037 : decode m0.2.1 1037 = .ok (.if_icmp .eq 396, 3) := by decide +kernel
theorem d_0_1040 : decode m0.2.1 1040 = .ok (.iconst 0, 1) := by decide +kernel
theorem d_0_1041 : decode m0.2.1 1041 = .ok (.ireturn, 1) := by decide +kernel
theorem d_0_1042 : decode m0.2.1 1042 = .ok (.aload_n 1, 1) := by decide +kernel
theorem d_0_1043 : decode m0.2.1 1043 = .ok (.aload_n 0, 1) := by decide +kernel
theorem d_0_1044 : decode m0.2.1 1044 = .ok (.iload_n 3, 1) := by decide +kernel
theorem d_0_1045 : decode m0.2.1 1045 = .ok (.iconst 1, 1) := by decide +kernel
theorem d_0_1046 : decode m0.2.1 1046 = .ok (.iadd, 1) := by decide +kernel
theorem d_0_1047 : decode m0.2.1 1047 = .ok (.iaload, 1) := by decide +kernel
theorem d_0_1048 : decode m0.2.1 1048 = .ok (.invokevirtual 147, 3) := by decide +kernel
theorem d_0_1051 : decode m0.2.1 1051 = .ok (.aload_n 2, 1) := by decide +kernel
theorem d_0_1052 : decode m0.2.1 1052 = .ok (.aload_n 0, 1) := by decide +kernel
theorem d_0_1053 : decode m0.2.1 1053 = .ok (.iload_n 3, 1) := by decide +kernel
theorem d_0_1054 : decode m0.2.1 1054 = .ok (.iconst 1, 1) := by decide +kernel
theorem d_0_1055 : decode m0.2.1 1055 = .ok (.iadd, 1) := by decide +kernel
theorem d_0_1056 : decode m0.2.1 1056 = .ok (.iaload, 1) := by decide +kernel
theorem d_0_1057 : decode m0.2.1 1057 = .ok (.invokevirtual 150, 3) := by decide +kernel
theorem d_0_1060 : decode m0.2.1 1060 = .ok (.if_icmp .eq 373, 3) := by decide +kernel
theorem d_0_1063 : decode m0.2.1 1063 = .ok (.iconst 0, 1) := by decide +kernel
theorem d_0_1064 : decode m0.2.1 1064 = .ok (.ireturn, 1) := by decide +kernel
theorem d_0_1065 : decode m0.2.1 1065 = .ok (.aload_n 1, 1) := by decide +kernel
theorem d_0_1066 : decode m0.2.1 1066 = .ok (.aload_n 0, 1) := by decide +kernel
theorem d_0_1067 : decode m0.2.1 1067 = .ok (.iload_n 3, 1) := by decide +kernel
theorem d_0_1068 : decode m0.2.1 1068 = .ok (.iconst 1, 1) := by decide +kernel
theorem d_0_1069 : decode m0.2.1 1069 = .ok (.iadd, 1) := by decide +kernel
theorem d_0_1070 : decode m0.2.1 1070 = .ok (.iaload, 1) := by decide +kernel
theorem d_0_1071 : decode m0.2.1 1071 = .ok (.invokevirtual 151, 3) := by decide +kernel
theorem d_0_1074 : decode m0.2.1 1074 = .ok (.aload_n 2, 1) := by decide +kernel
theorem d_0_1075 : decode m0.2.1 1075 = .ok (.aload_n 0, 1) := by decide +kernel
theorem d_0_1076 : decode m0.2.1 1076 = .ok (.iload_n 3, 1) := by decide +kernel
theorem d_0_1077 : decode m0.2.1 1077 = .ok (.iconst 1, 1) := by decide +kernel
theorem d_0_1078 : decode m0.2.1 1078 = .ok (.iadd, 1) := by decide +kernel
theorem d_0_1079 : decode m0.2.1 1079 = .ok (.iaload, 1) := by decide +kernel
theorem d_0_1080 : decode m0.2.1 1080 = .ok (.invokevirtual 154, 3) := by decide +kernel
theorem d_0_1083 : decode m0.2.1 1083 = .ok (.if_icmp .eq 350, 3) := by decide +kernel
theorem d_0_1086 : decode m0.2.1 1086 = .ok (.iconst 0, 1) := by decide +kernel
theorem d_0_1087 : decode m0.2.1 1087 = .ok (.ireturn, 1) := by decide +kernel
theorem d_0_1088 : decode m0.2.1 1088 = .ok (.aload_n 1, 1) := by decide +kernel
theorem d_0_1089 : decode m0.2.1 1089 = .ok (.invokevirtual 155, 3) := by decide +kernel
theorem d_0_1092 : decode m0.2.1 1092 = .ok (.aload_n 2, 1) := by decide +kernel
theorem d_0_1093 : decode m0.2.1 1093 = .ok (.invokevirtual 158, 3) := by decide +kernel
theorem d_0_1096 : decode m0.2.1 1096 = .ok (.if_icmp .eq 337, 3) := by decide +kernel
theorem d_0_1099 : decode m0.2.1 1099 = .ok (.iconst 0, 1) := by decide +kernel
theorem d_0_1100 : decode m0.2.1 1100 = .ok (.ireturn, 1) := by decide +kernel
theorem d_0_1101 : decode m0.2.1 1101 = .ok (.aload_n 1, 1) := by decide +kernel
theorem d_0_1102 : decode m0.2.1 1102 = .ok (.aload_n 0, 1) := by decide +kernel
theorem d_0_1103 : decode m0.2.1 1103 = .ok (.iload_n 3, 1) := by decide +kernel
theorem d_0_1104 : decode m0.2.1 1104 = .ok (.iconst 1, 1) := by decide +kernel
theorem d_0_1105 : decode m0.2.1 1105 = .ok (.iadd, 1) := by decide +kernel
theorem d_0_1106 : decode m0.2.1 1106 = .ok (.iaload, 1) := by decide +kernel
theorem d_0_1107 : decode m0.2.1 1107 = .ok (.invokevirtual 159, 3) := by decide +kernel
theorem d_0_1110 : decode m0.2.1 1110 = .ok (.aload_n 2, 1) := by decide +kernel
theorem d_0_1111 : decode m0.2.1 1111 = .ok (.aload_n 0, 1) := by decide +kernel
theorem d_0_1112 : decode m0.2.1 1112 = .ok (.iload_n 3, 1) := by decide +kernel
theorem d_0_1113 : decode m0.2.1 1113 = .ok (.iconst 1, 1) := by decide +kernel
theorem d_0_1114 : decode m0.2.1 1114 = .ok (.iadd, 1) := by decide +kernel
theorem d_0_1115 : decode m0.2.1 1115 = .ok (.iaload, 1) := by decide +kernel
theorem d_0_1116 : decode m0.2.1 1116 = .ok (.invokevirtual 162, 3) := by decide +kernel
theorem d_0_1119 : decode m0.2.1 1119 = .ok (.if_icmp .eq 314, 3) := by decide +kernel
theorem d_0_1122 : decode m0.2.1 1122 = .ok (.iconst 0, 1) := by decide +kernel
theorem d_0_1123 : decode m0.2.1 1123 = .ok (.ireturn, 1) := by decide +kernel
theorem d_0_1124 : decode m0.2.1 1124 = .ok (.aload_n 1, 1) := by decide +kernel
theorem d_0_1125 : decode m0.2.1 1125 = .ok (.aload_n 0, 1) := by decide +kernel
theorem d_0_1126 : decode m0.2.1 1126 = .ok (.iload_n 3, 1) := by decide +kernel
theorem d_0_1127 : decode m0.2.1 1127 = .ok (.iconst 1, 1) := by decide +kernel
theorem d_0_1128 : decode m0.2.1 1128 = .ok (.iadd, 1) := by decide +kernel
theorem d_0_1129 : decode m0.2.1 1129 = .ok (.iaload, 1) := by decide +kernel
theorem d_0_1130 : decode m0.2.1 1130 = .ok (.invokevirtual 163, 3) := by decide +kernel
theorem d_0_1133 : decode m0.2.1 1133 = .ok (.aload_n 2, 1) := by decide +kernel
theorem d_0_1134 : decode m0.2.1 1134 = .ok (.aload_n 0, 1) := by decide +kernel
theorem d_0_1135 : decode m0.2.1 1135 = .ok (.iload_n 3, 1) := by decide +kernel
theorem d_0_1136 : decode m0.2.1 1136 = .ok (.iconst 1, 1) := by decide +kernel
theorem d_0_1137 : decode m0.2.1 1137 = .ok (.iadd, 1) := by decide +kernel
theorem d_0_1138 : decode m0.2.1 1138 = .ok (.iaload, 1) := by decide +kernel
theorem d_0_1139 : decode m0.2.1 1139 = .ok (.invokevirtual 166, 3) := by decide +kernel
theorem d_0_1142 : decode m0.2.1 1142 = .ok (.if_icmp .eq 291, 3) := by decide +kernel
theorem d_0_1145 : decode m0.2.1 1145 = .ok (.iconst 0, 1) := by decide +kernel
theorem d_0_1146 : decode m0.2.1 1146 = .ok (.ireturn, 1) := by decide +kernel
theorem d_0_1147 : decode m0.2.1 1147 = .ok (.aload_n 1, 1) := by decide +kernel
theorem d_0_1148 : decode m0.2.1 1148 = .ok (.aload_n 0, 1) := by decide +kernel
theorem d_0_1149 : decode m0.2.1 1149 = .ok (.iload_n 3, 1) := by decide +kernel
theorem d_0_1150 : decode m0.2.1 1150 = .ok (.iconst 1, 1) := by decide +kernel
theorem d_0_1151 : decode m0.2.1 1151 = .ok (.iadd, 1) := by decide +kernel
theorem d_0_1152 : decode m0.2.1 1152 = .ok (.iaload, 1) := by decide +kernel
theorem d_0_1153 : decode m0.2.1 1153 = .ok (.aload_n 0, 1) := by decide +kernel
theorem d_0_1154 : decode m0.2.1 1154 = .ok (.iload_n 3, 1) := by decide +kernel
theorem d_0_1155 : decode m0.2.1 1155 = .ok (.iconst 2, 1) := by decide +kernel
theorem d_0_1156 : decode m0.2.1 1156 = .ok (.iadd, 1) := by decide +kernel
theorem d_0_1157 : decode m0.2.1 1157 = .ok (.iaload, 1) := by decide +kernel
theorem d_0_1158 : decode m0.2.1 1158 = .ok (.aload_n 0, 1) := by decide +kernel
theorem d_0_1159 : decode m0.2.1 1159 = .ok (.iload_n 3, 1) := by decide +kernel
theorem d_0_1160 : decode m0.2.1 1160 = .ok (.iconst 3, 1) := by decide +kernel
theorem d_0_1161 : decode m0.2.1 1161 = .ok (.iadd, 1) := by decide +kernel
theorem d_0_1162 : decode m0.2.1 1162 = .ok (.iaload, 1) := by decide +kernel
theorem d_0_1163 : decode m0.2.1 1163 = .ok (.ifCond .eq 7, 3) := by decide +kernel
theorem d_0_1166 : decode m0.2.1 1166 = .ok (.iconst 1, 1) := by decide +kernel
theorem d_0_1167 : decode m0.2.1 1167 = .ok (.goto 4, 3) := by decide +kernel
theorem d_0_1170 : decode m0.2.1 1170 = .ok (.iconst 0, 1) := by decide +kernel
theorem d_0_1171 : decode m0.2.1 1171 = .ok (.invokevirtual 167, 3) := by decide +kernel
theorem d_0_1174 : decode m0.2.1 1174 = .ok (.aload_n 2, 1) := by decide +kernel
theorem d_0_1175 : decode m0.2.1 1175 = .ok (.aload_n 0, 1) := by decide +kernel
theorem d_0_1176 : decode m0.2.1 1176 = .ok (.iload_n 3, 1) := by decide +kernel
theorem d_0_1177 : decode m0.2.1 1177 = .ok (.iconst 1, 1) := by decide +kernel
theorem d_0_1178 : decode m0.2.1 1178 = .ok (.iadd, 1) := by decide +kernel
theorem d_0_1179 : decode m0.2.1 1179 = .ok (.iaload, 1) := by decide +kernel
theorem d_0_1180 : decode m0.2.1 1180 = .ok (.aload_n 0, 1) := by decide +kernel
theorem d_0_1181 : decode m0.2.1 1181 = .ok (.iload_n 3, 1) := by decide +kernel
theorem d_0_1182 : decode m0.2.1 1182 = .ok (.iconst 2, 1) := by decide +kernel
theorem d_0_1183 : decode m0.2.1 1183 = .ok (.iadd, 1) := by decide +kernel
theorem d_0_1184 : decode m0.2.1 1184 = .ok (.iaload, 1) := by decide +kernel
theorem d_0_1185 : decode m0.2.1 1185 = .ok (.aload_n 0, 1) := by decide +kernel
theorem d_0_1186 : decode m0.2.1 1186 = .ok (.iload_n 3, 1) := by decide +kernel
theorem d_0_1187 : decode m0.2.1 1187 = .ok (.iconst 3, 1) := by decide +kernel
theorem d_0_1188 : decode m0.2.1 1188 = .ok (.iadd, 1) := by decide +kernel
theorem d_0_1189 : decode m0.2.1 1189 = .ok (.iaload, 1) := by decide +kernel
theorem d_0_1190 : decode m0.2.1 1190 = .ok (.ifCond .eq 7, 3) := by decide +kernel
theorem d_0_1193 : decode m0.2.1 1193 = .ok (.iconst 1, 1) := by decide +kernel
theorem d_0_1194 : decode m0.2.1 1194 = .ok (.goto 4, 3) := by decide +kernel
theorem d_0_1197 : decode m0.2.1 1197 = .ok (.iconst 0, 1) := by decide +kernel
theorem d_0_1198 : decode m0.2.1 1198 = .ok (.invokevirtual 171, 3) := by decide +kernel
theorem d_0_1201 : decode m0.2.1 1201 = .ok (.if_icmp .eq 232, 3) := by decide +kernel
theorem d_0_1204 : decode m0.2.1 1204 = .ok (.iconst 0, 1) := by decide +kernel
theorem d_0_1205 : decode m0.2.1 1205 = .ok (.ireturn, 1) := by decide +kernel
theorem d_0_1206 : decode m0.2.1 1206 = .ok (.aload_n 1, 1) := by decide +kernel
theorem d_0_1207 : decode m0.2.1 1207 = .ok (.aload_n 0, 1) := by decide +kernel
theorem d_0_1208 : decode m0.2.1 1208 = .ok (.iload_n 3, 1) := by decide +kernel
theorem d_0_1209 : decode m0.2.1 1209 = .ok (.iconst 1, 1) := by decide +kernel
theorem d_0_1210 : decode m0.2.1 1210 = .ok (.iadd, 1) := by decide +kernel
theorem d_0_1211 : decode m0.2.1 1211 = .ok (.iaload, 1) := by decide +kernel
theorem d_0_1212 : decode m0.2.1 1212 = .ok (.invokevirtual 172, 3) := by decide +kernel
theorem d_0_1215 : decode m0.2.1 1215 = .ok (.aload_n 2, 1) := by decide +kernel
theorem d_0_1216 : decode m0.2.1 1216 = .ok (.aload_n 0, 1) := by decide +kernel
theorem d_0_1217 : decode m0.2.1 1217 = .ok (.iload_n 3, 1) := by decide +kernel
theorem d_0_1218 : decode m0.2.1 1218 = .ok (.iconst 1, 1) := by decide +kernel
theorem d_0_1219 : decode m0.2.1 1219 = .ok (.iadd, 1) := by decide +kernel
theorem d_0_1220 : decode m0.2.1 1220 = .ok (.iaload, 1) := by decide +kernel
theorem d_0_1221 : decode m0.2.1 1221 = .ok (.invokevirtual 176, 3) := by decide +kernel
theorem d_0_1224 : decode m0.2.1 1224 = .ok (.if_icmp .eq 209, 3) := by decide +kernel
theorem d_0_1227 : decode m0.2.1 1227 = .ok (.iconst 0, 1) := by decide +kernel
theorem d_0_1228 : decode m0.2.1 1228 = .ok (.ireturn, 1) := by decide +kernel
theorem d_0_1229 : decode m0.2.1 1229 = .ok (.aload_n 1, 1) := by decide +kernel
theorem d_0_1230 : decode m0.2.1 1230 = .ok (.aload_n 0, 1) := by decide +kernel
theorem d_0_1231 : decode m0.2.1 1231 = .ok (.iload_n 3, 1) := by decide +kernel
theorem d_0_1232 : decode m0.2.1 1232 = .ok (.iconst 1, 1) := by decide +kernel
theorem d_0_1233 : decode m0.2.1 1233 = .ok (.iadd, 1) := by decide +kernel
theorem d_0_1234 : decode m0.2.1 1234 = .ok (.iaload, 1) := by decide +kernel
theorem d_0_1235 : decode m0.2.1 1235 = .ok (.invokevirtual 177, 3) := by decide +kernel
theorem d_0_1238 : decode m0.2.1 1238 = .ok (.aload_n 2, 1) := by decide +kernel
theorem d_0_1239 : decode m0.2.1 1239 = .ok (.aload_n 0, 1) := by decide +kernel
theorem d_0_1240 : decode m0.2.1 1240 = .ok (.iload_n 3, 1) := by decide +kernel
theorem d_0_1241 : decode m0.2.1 1241 = .ok (.iconst 1, 1) := by decide +kernel
theorem d_0_1242 : decode m0.2.1 1242 = .ok (.iadd, 1) := by decide +kernel
theorem d_0_1243 : decode m0.2.1 1243 = .ok (.iaload, 1) := by decide +kernel
theorem d_0_1244 : decode m0.2.1 1244 = .ok (.invokevirtual 180, 3) := by decide +kernel
theorem d_0_1247 : decode m0.2.1 1247 = .ok (.if_icmp .eq 186, 3) := by decide +kernel
theorem d_0_1250 : decode m0.2.1 1250 = .ok (.iconst 0, 1) := by decide +kernel
theorem d_0_1251 : decode m0.2.1 1251 = .ok (.ireturn, 1) := by decide +kernel
theorem d_0_1252 : decode m0.2.1 1252 = .ok (.aload_n 1, 1) := by decide +kernel
theorem d_0_1253 : decode m0.2.1 1253 = .ok (.aload_n 0, 1) := by decide +kernel
theorem d_0_1254 : decode m0.2.1 1254 = .ok (.iload_n 3, 1) := by decide +kernel
theorem d_0_1255 : decode m0.2.1 1255 = .ok (.iconst 1, 1) := by decide +kernel
theorem d_0_1256 : decode m0.2.1 1256 = .ok (.iadd, 1) := by decide +kernel
theorem d_0_1257 : decode m0.2.1 1257 = .ok (.iaload, 1) := by decide +kernel
theorem d_0_1258 : decode m0.2.1 1258 = .ok (.invokevirtual 181, 3) := by decide +kernel
theorem d_0_1261 : decode m0.2.1 1261 = .ok (.aload_n 2, 1) := by decide +kernel
theorem d_0_1262 : decode m0.2.1 1262 = .ok (.aload_n 0, 1) := by decide +kernel
theorem d_0_1263 : decode m0.2.1 1263 = .ok (.iload_n 3, 1) := by decide +kernel
theorem d_0_1264 : decode m0.2.1 1264 = .ok (.iconst 1, 1) := by decide +kernel
theorem d_0_1265 : decode m0.2.1 1265 = .ok (.iadd, 1) := by decide +kernel
theorem d_0_1266 : decode m0.2.1 1266 = .ok (.iaload, 1) := by decide +kernel
theorem d_0_1267 : decode m0.2.1 1267 = .ok (.invokevirtual 184, 3) := by decide +kernel
theorem d_0_1270 : decode m0.2.1 1270 = .ok (.if_icmp .eq 163, 3) := by decide +kernel
theorem d_0_1273 : decode m0.2.1 1273 = .ok (.iconst 0, 1) := by decide +kernel
theorem d_0_1274 : decode m0.2.1 1274 = .ok (.ireturn, 1) := by decide +kernel
theorem d_0_1275 : decode m0.2.1 1275 = .ok (.aload_n 1, 1) := by decide +kernel
theorem d_0_1276 : decode m0.2.1 1276 = .ok (.aload_n 0, 1) := by decide +kernel
theorem d_0_1277 : decode m0.2.1 1277 = .ok (.iload_n 3, 1) := by decide +kernel
theorem d_0_1278 : decode m0.2.1 1278 = .ok (.iconst 1, 1) := by decide +kernel
theorem d_0_1279 : decode m0.2.1 1279 = .ok (.iadd, 1) := by decide +kernel
theorem d_0_1280 : decode m0.2.1 1280 = .ok (.iaload, 1) := by decide +kernel
theorem d_0_1281 : decode m0.2.1 1281 = .ok (.aload_n 0, 1) := by decide +kernel
theorem d_0_1282 : decode m0.2.1 1282 = .ok (.iload_n 3, 1) := by decide +kernel
theorem d_0_1283 : decode m0.2.1 1283 = .ok (.iconst 2, 1) := by decide +kernel
theorem d_0_1284 : decode m0.2.1 1284 = .ok (.iadd, 1) := by decide +kernel
theorem d_0_1285 : decode m0.2.1 1285 = .ok (.iaload, 1) := by decide +kernel
theorem d_0_1286 : decode m0.2.1 1286 = .ok (.invokevirtual 185, 3) := by decide +kernel
theorem d_0_1289 : decode m0.2.1 1289 = .ok (.aload_n 2, 1) := by decide +kernel
theorem d_0_1290 : decode m0.2.1 1290 = .ok (.aload_n 0, 1) := by decide +kernel
theorem d_0_1291 : decode m0.2.1 1291 = .ok (.iload_n 3, 1) := by decide +kernel
theorem d_0_1292 : decode m0.2.1 1292 = .ok (.iconst 1, 1) := by decide +kernel
theorem d_0_1293 : decode m0.2.1 1293 = .ok (.iadd, 1) := by decide +kernel
theorem d_0_1294 : decode m0.2.1 1294 = .ok (.iaload, 1) := by decide +kernel
theorem d_0_1295 : decode m0.2.1 1295 = .ok (.aload_n 0, 1) := by decide +kernel
theorem d_0_1296 : decode m0.2.1 1296 = .ok (.iload_n 3, 1) := by decide +kernel
theorem d_0_1297 : decode m0.2.1 1297 = .ok (.iconst 2, 1) := by decide +kernel
theorem d_0_1298 : decode m0.2.1 1298 = .ok (.iadd, 1) := by decide +kernel
theorem d_0_1299 : decode m0.2.1 1299 = .ok (.iaload, 1) := by decide +kernel
theorem d_0_1300 : decode m0.2.1 1300 = .ok (.invokevirtual 188, 3) := by decide +kernel
theorem d_0_1303 : decode m0.2.1 1303 = .ok (.if_icmp .eq 130, 3) := by decide +kernel
theorem d_0_1306 : decode m0.2.1 1306 = .ok (.iconst 0, 1) := by decide +kernel
theorem d_0_1307 : decode m0.2.1 1307 = .ok (.ireturn, 1) := by decide +kernel
theorem d_0_1308 : decode m0.2.1 1308 = .ok (.aload_n 1, 1) := by decide +kernel
theorem d_0_1309 : decode m0.2.1 1309 = .ok (.aload_n 0, 1) := by decide +kernel
theorem d_0_1310 : decode m0.2.1 1310 = .ok (.iload_n 3, 1) := by decide +kernel
theorem d_0_1311 : decode m0.2.1 1311 = .ok (.iconst 1, 1) := by decide +kernel
theorem d_0_1312 : decode m0.2.1 1312 = .ok (.iadd, 1) := by decide +kernel
theorem d_0_1313 : decode m0.2.1 1313 = .ok (.iaload, 1) := by decide +kernel
theorem d_0_1314 : decode m0.2.1 1314 = .ok (.aload_n 0, 1) := by decide +kernel
theorem d_0_1315 : decode m0.2.1 1315 = .ok (.iload_n 3, 1) := by decide +kernel
theorem d_0_1316 : decode m0.2.1 1316 = .ok (.iconst 2, 1) := by decide +kernel
theorem d_0_1317 : decode m0.2.1 1317 = .ok (.iadd, 1) := by decide +kernel
theorem d_0_1318 : decode m0.2.1 1318 = .ok (.iaload, 1) := by decide +kernel
theorem d_0_1319 : decode m0.2.1 1319 = .ok (.invokevirtual 189, 3) := by decide +kernel
theorem d_0_1322 : decode m0.2.1 1322 = .ok (.aload_n 2, 1) := by decide +kernel
theorem d_0_1323 : decode m0.2.1 1323 = .ok (.aload_n 0, 1) := by decide +kernel
theorem d_0_1324 : decode m0.2.1 1324 = .ok (.iload_n 3, 1) := by decide +kernel
theorem d_0_1325 : decode m0.2.1 1325 = .ok (.iconst 1, 1) := by decide +kernel
theorem d_0_1326 : decode m0.2.1 1326 = .ok (.iadd, 1) := by decide +kernel
theorem d_0_1327 : decode m0.2.1 1327 = .ok (.iaload, 1) := by decide +kernel
theorem d_0_1328 : decode m0.2.1 1328 = .ok (.aload_n 0, 1) := by decide +kernel
theorem d_0_1329 : decode m0.2.1 1329 = .ok (.iload_n 3, 1) := by decide +kernel
theorem d_0_1330 : decode m0.2.1 1330 = .ok (.iconst 2, 1) := by decide +kernel
theorem d_0_1331 : decode m0.2.1 1331 = .ok (.iadd, 1) := by decide +kernel
theorem d_0_1332 : decode m0.2.1 1332 = .ok (.iaload, 1) := by decide +kernel
theorem d_0_1333 : decode m0.2.1 1333 = .ok (.invokevirtual 192, 3) := by decide +kernel
theorem d_0_1336 : decode m0.2.1 1336 = .ok (.if_icmp .eq 97, 3) := by decide +kernel
theorem d_0_1339 : decode m0.2.1 1339 = .ok (.iconst 0, 1) := by decide +kernel
theorem d_0_1340 : decode m0.2.1 1340 = .ok (.ireturn, 1) := by decide +kernel
theorem d_0_1341 : decode m0.2.1 1341 = .ok (.aload_n 1, 1) := by decide +kernel
theorem d_0_1342 : decode m0.2.1 1342 = .ok (.aload_n 0, 1) := by decide +kernel
theorem d_0_1343 : decode m0.2.1 1343 = .ok (.iload_n 3, 1) := by decide +kernel
theorem d_0_1344 : decode m0.2.1 1344 = .ok (.iconst 1, 1) := by decide +kernel
theorem d_0_1345 : decode m0.2.1 1345 = .ok (.iadd, 1) := by decide +kernel
theorem d_0_1346 : decode m0.2.1 1346 = .ok (.iaload, 1) := by decide +kernel
theorem d_0_1347 : decode m0.2.1 1347 = .ok (.invokevirtual 193, 3) := by decide +kernel
theorem d_0_1350 : decode m0.2.1 1350 = .ok (.aload_n 2, 1) := by decide +kernel
theorem d_0_1351 : decode m0.2.1 1351 = .ok (.aload_n 0, 1) := by decide +kernel
theorem d_0_1352 : decode m0.2.1 1352 = .ok (.iload_n 3, 1) := by decide +kernel
theorem d_0_1353 : decode m0.2.1 1353 = .ok (.iconst 1, 1) := by decide +kernel
theorem d_0_1354 : decode m0.2.1 1354 = .ok (.iadd, 1) := by decide +kernel
theorem d_0_1355 : decode m0.2.1 1355 = .ok (.iaload, 1) := by decide +kernel
theorem d_0_1356 : decode m0.2.1 1356 = .ok (.invokevirtual 196, 3) := by decide +kernel
theorem d_0_1359 : decode m0.2.1 1359 = .ok (.if_icmp .eq 74, 3) := by decide +kernel
theorem d_0_1362 : decode m0.2.1 1362 = .ok (.iconst 0, 1) := by decide +kernel
theorem d_0_1363 : decode m0.2.1 1363 = .ok (.ireturn, 1) := by decide +kernel
theorem d_0_1364 : decode m0.2.1 1364 = .ok (.aload_n 1, 1) := by decide +kernel
theorem d_0_1365 : decode m0.2.1 1365 = .ok (.aload_n 0, 1) := by decide +kernel
theorem d_0_1366 : decode m0.2.1 1366 = .ok (.iload_n 3, 1) := by decide +kernel
theorem d_0_1367 : decode m0.2.1 1367 = .ok (.iconst 1, 1) := by decide +kernel
theorem d_0_1368 : decode m0.2.1 1368 = .ok (.iadd, 1) := by decide +kernel
theorem d_0_1369 : decode m0.2.1 1369 = .ok (.iaload, 1) := by decide +kernel
theorem d_0_1370 : decode m0.2.1 1370 = .ok (.invokevirtual 197, 3) := by decide +kernel
theorem d_0_1373 : decode m0.2.1 1373 = .ok (.aload_n 2, 1) := by decide +kernel
theorem d_0_1374 : decode m0.2.1 1374 = .ok (.aload_n 0, 1) := by decide +kernel
theorem d_0_1375 : decode m0.2.1 1375 = .ok (.iload_n 3, 1) := by decide +kernel
theorem d_0_1376 : decode m0.2.1 1376 = .ok (.iconst 1, 1) := by decide +kernel
theorem d_0_1377 : decode m0.2.1 1377 = .ok (.iadd, 1) := by decide +kernel
theorem d_0_1378 : decode m0.2.1 1378 = .ok (.iaload, 1) := by decide +kernel
theorem d_0_1379 : decode m0.2.1 1379 = .ok (.invokevirtual 200, 3) := by decide +kernel
theorem d_0_1382 : decode m0.2.1 1382 = .ok (.if_icmp .eq 51, 3) := by decide +kernel
theorem d_0_1385 : decode m0.2.1 1385 = .ok (.iconst 0, 1) := by decide +kernel
theorem d_0_1386 : decode m0.2.1 1386 = .ok (.ireturn, 1) := by decide +kernel
theorem d_0_1387 : decode m0.2.1 1387 = .ok (.aload_n 1, 1) := by decide +kernel
theorem d_0_1388 : decode m0.2.1 1388 = .ok (.aload_n 0, 1) := by decide +kernel
theorem d_0_1389 : decode m0.2.1 1389 = .ok (.iload_n 3, 1) := by decide +kernel
theorem d_0_1390 : decode m0.2.1 1390 = .ok (.iconst 1, 1) := by decide +kernel
theorem d_0_1391 : decode m0.2.1 1391 = .ok (.iadd, 1) := by decide +kernel
theorem d_0_1392 : decode m0.2.1 1392 = .ok (.iaload, 1) := by decide +kernel
theorem d_0_1393 : decode m0.2.1 1393 = .ok (.invokevirtual 201, 3) := by decide +kernel
theorem d_0_1396 : decode m0.2.1 1396 = .ok (.aload_n 2, 1) := by decide +kernel
theorem d_0_1397 : decode m0.2.1 1397 = .ok (.aload_n 0, 1) := by decide +kernel
theorem d_0_1398 : decode m0.2.1 1398 = .ok (.iload_n 3, 1) := by decide +kernel
theorem d_0_1399 : decode m0.2.1 1399 = .ok (.iconst 1, 1) := by decide +kernel
theorem d_0_1400 : decode m0.2.1 1400 = .ok (.iadd, 1) := by decide +kernel
theorem d_0_1401 : decode m0.2.1 1401 = .ok (.iaload, 1) := by decide +kernel
theorem d_0_1402 : decode m0.2.1 1402 = .ok (.invokevirtual 204, 3) := by decide +kernel
theorem d_0_1405 : decode m0.2.1 1405 = .ok (.if_icmp .eq 28, 3) := by decide +kernel
theorem d_0_1408 : decode m0.2.1 1408 = .ok (.iconst 0, 1) := by decide +kernel
theorem d_0_1409 : decode m0.2.1 1409 = .ok (.ireturn, 1) := by decide +kernel
theorem d_0_1410 : decode m0.2.1 1410 = .ok (.aload_n 1, 1) := by decide +kernel
theorem d_0_1411 : decode m0.2.1 1411 = .ok (.aload_n 0, 1) := by decide +kernel
theorem d_0_1412 : decode m0.2.1 1412 = .ok (.iload_n 3, 1) := by decide +kernel
theorem d_0_1413 : decode m0.2.1 1413 = .ok (.iconst 1, 1) := by decide +kernel
theorem d_0_1414 : decode m0.2.1 1414 = .ok (.iadd, 1) := by decide +kernel
theorem d_0_1415 : decode m0.2.1 1415 = .ok (.iaload, 1) := by decide +kernel
theorem d_0_1416 : decode m0.2.1 1416 = .ok (.invokevirtual 205, 3) := by decide +kernel
theorem d_0_1419 : decode m0.2.1 1419 = .ok (.aload_n 2, 1) := by decide +kernel
theorem d_0_1420 : decode m0.2.1 1420 = .ok (.aload_n 0, 1) := by decide +kernel
theorem d_0_1421 : decode m0.2.1 1421 = .ok (.iload_n 3, 1) := by decide +kernel
theorem d_0_1422 : decode m0.2.1 1422 = .ok (.iconst 1, 1) := by decide +kernel
theorem d_0_1423 : decode m0.2.1 1423 = .ok (.iadd, 1) := by decide +kernel
theorem d_0_1424 : decode m0.2.1 1424 = .ok (.iaload, 1) := by decide +kernel
theorem d_0_1425 : decode m0.2.1 1425 = .ok (.invokevirtual 208, 3) := by decide +kernel
theorem d_0_1428 : decode m0.2.1 1428 = .ok (.if_icmp .eq 5, 3) := by decide +kernel
theorem d_0_1431 : decode m0.2.1 1431 = .ok (.iconst 0, 1) := by decide +kernel
theorem d_0_1432 : decode m0.2.1 1432 = .ok (.ireturn, 1) := by decide +kernel
theorem d_0_1433 : decode m0.2.1 1433 = .ok (.iinc 3 6, 3) := by decide +kernel
theorem d_0_1436 : decode m0.2.1 1436 = .ok (.goto (-1418), 3) := by decide +kernel
theorem d_0_1439 : decode m0.2.1 1439 = .ok (.iconst 1, 1) := by decide +kernel
theorem d_0_1440 : decode m0.2.1 1440 = .ok (.ireturn, 1) := by decide +kernel
