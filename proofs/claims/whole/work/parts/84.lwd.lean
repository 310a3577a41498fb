theorem dL_0 : decode code 0 = .ok (.new 7, 3) := by decide +kernel
theorem dL_3 : decode code 3 = .ok (.dup, 1) := by decide +kernel
theorem dL_4 : decode code 4 = .ok (.invokespecial 9, 3) := by decide +kernel
theorem dL_7 : decode code 7 = .ok (.astore_n 1, 1) := by decide +kernel
theorem dL_8 : decode code 8 = .ok (.new 10, 3) := by decide +kernel
theorem dL_11 : decode code 11 = .ok (.dup, 1) := by decide +kernel
theorem dL_12 : decode code 12 = .ok (.invokespecial 12, 3) := by decide +kernel
theorem dL_15 : decode code 15 = .ok (.astore_n 2, 1) := by decide +kernel
theorem dL_16 : decode code 16 = .ok (.iconst 0, 1) := by decide +kernel
theorem dL_17 : decode code 17 = .ok (.istore_n 3, 1) := by decide +kernel
theorem dL_18 : decode code 18 = .ok (.iload_n 3, 1) := by decide +kernel
theorem dL_19 : decode code 19 = .ok (.aload_n 0, 1) := by decide +kernel
theorem dL_20 : decode code 20 = .ok (.arraylength, 1) := by decide +kernel
theorem dL_21 : decode code 21 = .ok (.bipush 6, 2) := by decide +kernel
theorem dL_23 : decode code 23 = .ok (.isub, 1) := by decide +kernel
theorem dL_24 : decode code 24 = .ok (.if_icmp .gt 1631, 3) := by decide +kernel
theorem dL_27 : decode code 27 = .ok (.aload_n 0, 1) := by decide +kernel
theorem dL_28 : decode code 28 = .ok (.iload_n 3, 1) := by decide +kernel
theorem dL_29 : decode code 29 = .ok (.iaload, 1) := by decide +kernel
theorem dL_30 : decode code 30 = .ok (.bipush 63, 2) := by decide +kernel
theorem dL_32 : decode code 32 = .ok (.iand, 1) := by decide +kernel
theorem dL_33 : decode code 33 = .ok (.tableswitch 1616 0 47 #[207, 250, 293, 346, 379, 402, 425, 504, 537, 570, 593, 606, 629, 652, 675, 698, 721, 754, 777, 800, 823, 846, 869, 892, 925, 948, 981, 1014, 1047, 1070, 1083, 1106, 1119, 1142, 1211, 1280, 1359, 1382, 1435, 1458, 1481, 1494, 1517, 1530, 1543, 1556, 1579, 1602], 207) := by decide +kernel
theorem dL_240 : decode code 240 = .ok (.aload_n 1, 1) := by decide +kernel
theorem dL_241 : decode code 241 = .ok (.aload_n 0, 1) := by decide +kernel
theorem dL_242 : decode code 242 = .ok (.iload_n 3, 1) := by decide +kernel
theorem dL_243 : decode code 243 = .ok (.iconst 1, 1) := by decide +kernel
theorem dL_244 : decode code 244 = .ok (.iadd, 1) := by decide +kernel
theorem dL_245 : decode code 245 = .ok (.iaload, 1) := by decide +kernel
theorem dL_246 : decode code 246 = .ok (.aload_n 0, 1) := by decide +kernel
theorem dL_247 : decode code 247 = .ok (.iload_n 3, 1) := by decide +kernel
theorem dL_248 : decode code 248 = .ok (.iconst 2, 1) := by decide +kernel
theorem dL_249 : decode code 249 = .ok (.iadd, 1) := by decide +kernel
theorem dL_250 : decode code 250 = .ok (.iaload, 1) := by decide +kernel
theorem dL_251 : decode code 251 = .ok (.aload_n 0, 1) := by decide +kernel
theorem dL_252 : decode code 252 = .ok (.iload_n 3, 1) := by decide +kernel
theorem dL_253 : decode code 253 = .ok (.iconst 3, 1) := by decide +kernel
theorem dL_254 : decode code 254 = .ok (.iadd, 1) := by decide +kernel
theorem dL_255 : decode code 255 = .ok (.iaload, 1) := by decide +kernel
theorem dL_256 : decode code 256 = .ok (.invokevirtual 13, 3) := by decide +kernel
theorem dL_259 : decode code 259 = .ok (.aload_n 2, 1) := by decide +kernel
theorem dL_260 : decode code 260 = .ok (.aload_n 0, 1) := by decide +kernel
theorem dL_261 : decode code 261 = .ok (.iload_n 3, 1) := by decide +kernel
theorem dL_262 : decode code 262 = .ok (.iconst 1, 1) := by decide +kernel
theorem dL_263 : decode code 263 = .ok (.iadd, 1) := by decide +kernel
theorem dL_264 : decode code 264 = .ok (.iaload, 1) := by decide +kernel
theorem dL_265 : decode code 265 = .ok (.aload_n 0, 1) := by decide +kernel
theorem dL_266 : decode code 266 = .ok (.iload_n 3, 1) := by decide +kernel
theorem dL_267 : decode code 267 = .ok (.iconst 2, 1) := by decide +kernel
theorem dL_268 : decode code 268 = .ok (.iadd, 1) := by decide +kernel
theorem dL_269 : decode code 269 = .ok (.iaload, 1) := by decide +kernel
theorem dL_270 : decode code 270 = .ok (.aload_n 0, 1) := by decide +kernel
theorem dL_271 : decode code 271 = .ok (.iload_n 3, 1) := by decide +kernel
theorem dL_272 : decode code 272 = .ok (.iconst 3, 1) := by decide +kernel
theorem dL_273 : decode code 273 = .ok (.iadd, 1) := by decide +kernel
theorem dL_274 : decode code 274 = .ok (.iaload, 1) := by decide +kernel
theorem dL_275 : decode code 275 = .ok (.invokevirtual 17, 3) := by decide +kernel
theorem dL_278 : decode code 278 = .ok (.if_icmp .eq 1371, 3) := by decide +kernel
theorem dL_281 : decode code 281 = .ok (.iconst 0, 1) := by decide +kernel
theorem dL_282 : decode code 282 = .ok (.ireturn, 1) := by decide +kernel
theorem dL_283 : decode code 283 = .ok (.aload_n 1, 1) := by decide +kernel
theorem dL_284 : decode code 284 = .ok (.aload_n 0, 1) := by decide +kernel
theorem dL_285 : decode code 285 = .ok (.iload_n 3, 1) := by decide +kernel
theorem dL_286 : decode code 286 = .ok (.iconst 1, 1) := by decide +kernel
theorem dL_287 : decode code 287 = .ok (.iadd, 1) := by decide +kernel
theorem dL_288 : decode code 288 = .ok (.iaload, 1) := by decide +kernel
theorem dL_289 : decode code 289 = .ok (.aload_n 0, 1) := by decide +kernel
theorem dL_290 : decode code 290 = .ok (.iload_n 3, 1) := by decide +kernel
theorem dL_291 : decode code 291 = .ok (.iconst 2, 1) := by decide +kernel
theorem dL_292 : decode code 292 = .ok (.iadd, 1) := by decide +kernel
theorem dL_293 : decode code 293 = .ok (.iaload, 1) := by decide +kernel
theorem dL_294 : decode code 294 = .ok (.aload_n 0, 1) := by decide +kernel
theorem dL_295 : decode code 295 = .ok (.iload_n 3, 1) := by decide +kernel
theorem dL_296 : decode code 296 = .ok (.iconst 3, 1) := by decide +kernel
theorem dL_297 : decode code 297 = .ok (.iadd, 1) := by decide +kernel
theorem dL_298 : decode code 298 = .ok (.iaload, 1) := by decide +kernel
theorem dL_299 : decode code 299 = .ok (.invokevirtual 18, 3) := by decide +kernel
theorem dL_302 : decode code 302 = .ok (.aload_n 2, 1) := by decide +kernel
theorem dL_303 : decode code 303 = .ok (.aload_n 0, 1) := by decide +kernel
theorem dL_304 : decode code 304 = .ok (.iload_n 3, 1) := by decide +kernel
theorem dL_305 : decode code 305 = .ok (.iconst 1, 1) := by decide +kernel
theorem dL_306 : decode code 306 = .ok (.iadd, 1) := by decide +kernel
theorem dL_307 : decode code 307 = .ok (.iaload, 1) := by decide +kernel
theorem dL_308 : decode code 308 = .ok (.aload_n 0, 1) := by decide +kernel
theorem dL_309 : decode code 309 = .ok (.iload_n 3, 1) := by decide +kernel
theorem dL_310 : decode code 310 = .ok (.iconst 2, 1) := by decide +kernel
theorem dL_311 : decode code 311 = .ok (.iadd, 1) := by decide +kernel
theorem dL_312 : decode code 312 = .ok (.iaload, 1) := by decide +kernel
theorem dL_313 : decode code 313 = .ok (.aload_n 0, 1) := by decide +kernel
theorem dL_314 : decode code 314 = .ok (.iload_n 3, 1) := by decide +kernel
theorem dL_315 : decode code 315 = .ok (.iconst 3, 1) := by decide +kernel
theorem dL_316 : decode code 316 = .ok (.iadd, 1) := by decide +kernel
theorem dL_317 : decode code 317 = .ok (.iaload, 1) := by decide +kernel
theorem dL_318 : decode code 318 = .ok (.invokevirtual 21, 3) := by decide +kernel
theorem dL_321 : decode code 321 = .ok (.if_icmp .eq 1328, 3) := by decide +kernel
theorem dL_324 : decode code 324 = .ok (.iconst 0, 1) := by decide +kernel
theorem dL_325 : decode code 325 = .ok (.ireturn, 1) := by decide +kernel
theorem dL_326 : decode code 326 = .ok (.aload_n 1, 1) := by decide +kernel
theorem dL_327 : decode code 327 = .ok (.aload_n 0, 1) := by decide +kernel
theorem dL_328 : decode code 328 = .ok (.iload_n 3, 1) := by decide +kernel
theorem dL_329 : decode code 329 = .ok (.iconst 1, 1) := by decide +kernel
theorem dL_330 : decode code 330 = .ok (.iadd, 1) := by decide +kernel
theorem dL_331 : decode code 331 = .ok (.iaload, 1) := by decide +kernel
theorem dL_332 : decode code 332 = .ok (.aload_n 0, 1) := by decide +kernel
theorem dL_333 : decode code 333 = .ok (.iload_n 3, 1) := by decide +kernel
theorem dL_334 : decode code 334 = .ok (.iconst 2, 1) := by decide +kernel
theorem dL_335 : decode code 335 = .ok (.iadd, 1) := by decide +kernel
theorem dL_336 : decode code 336 = .ok (.iaload, 1) := by decide +kernel
theorem dL_337 : decode code 337 = .ok (.aload_n 0, 1) := by decide +kernel
theorem dL_338 : decode code 338 = .ok (.iload_n 3, 1) := by decide +kernel
theorem dL_339 : decode code 339 = .ok (.iconst 3, 1) := by decide +kernel
theorem dL_340 : decode code 340 = .ok (.iadd, 1) := by decide +kernel
theorem dL_341 : decode code 341 = .ok (.iaload, 1) := by decide +kernel
theorem dL_342 : decode code 342 = .ok (.aload_n 0, 1) := by decide +kernel
theorem dL_343 : decode code 343 = .ok (.iload_n 3, 1) := by decide +kernel
theorem dL_344 : decode code 344 = .ok (.iconst 4, 1) := by decide +kernel
theorem dL_345 : decode code 345 = .ok (.iadd, 1) := by decide +kernel
theorem dL_346 : decode code 346 = .ok (.iaload, 1) := by decide +kernel
theorem dL_347 : decode code 347 = .ok (.invokevirtual 22, 3) := by decide +kernel
theorem dL_350 : decode code 350 = .ok (.aload_n 2, 1) := by decide +kernel
theorem dL_351 : decode code 351 = .ok (.aload_n 0, 1) := by decide +kernel
theorem dL_352 : decode code 352 = .ok (.iload_n 3, 1) := by decide +kernel
theorem dL_353 : decode code 353 = .ok (.iconst 1, 1) := by decide +kernel
theorem dL_354 : decode code 354 = .ok (.iadd, 1) := by decide +kernel
theorem dL_355 : decode code 355 = .ok (.iaload, 1) := by decide +kernel
theorem dL_356 : decode code 356 = .ok (.aload_n 0, 1) := by decide +kernel
theorem dL_357 : decode code 357 = .ok (.iload_n 3, 1) := by decide +kernel
theorem dL_358 : decode code 358 = .ok (.iconst 2, 1) := by decide +kernel
theorem dL_359 : decode code 359 = .ok (.iadd, 1) := by decide +kernel
theorem dL_360 : decode code 360 = .ok (.iaload, 1) := by decide +kernel
theorem dL_361 : decode code 361 = .ok (.aload_n 0, 1) := by decide +kernel
theorem dL_362 : decode code 362 = .ok (.iload_n 3, 1) := by decide +kernel
theorem dL_363 : decode code 363 = .ok (.iconst 3, 1) := by decide +kernel
theorem dL_364 : decode code 364 = .ok (.iadd, 1) := by decide +kernel
theorem dL_365 : decode code 365 = .ok (.iaload, 1) := by decide +kernel
theorem dL_366 : decode code 366 = .ok (.aload_n 0, 1) := by decide +kernel
theorem dL_367 : decode code 367 = .ok (.iload_n 3, 1) := by decide +kernel
theorem dL_368 : decode code 368 = .ok (.iconst 4, 1) := by decide +kernel
theorem dL_369 : decode code 369 = .ok (.iadd, 1) := by decide +kernel
theorem dL_370 : decode code 370 = .ok (.iaload, 1) := by decide +kernel
theorem dL_371 : decode code 371 = .ok (.invokevirtual 26, 3) := by decide +kernel
theorem dL_374 : decode code 374 = .ok (.if_icmp .eq 1275, 3) := by decide +kernel
theorem dL_377 : decode code 377 = .ok (.iconst 0, 1) := by decide +kernel
theorem dL_378 : decode code 378 = .ok (.ireturn, 1) := by decide +kernel
theorem dL_379 : decode code 379 = .ok (.aload_n 1, 1) := by decide +kernel
theorem dL_380 : decode code 380 = .ok (.aload_n 0, 1) := by decide +kernel
theorem dL_381 : decode code 381 = .ok (.iload_n 3, 1) := by decide +kernel
theorem dL_382 : decode code 382 = .ok (.iconst 1, 1) := by decide +kernel
theorem dL_383 : decode code 383 = .ok (.iadd, 1) := by decide +kernel
theorem dL_384 : decode code 384 = .ok (.iaload, 1) := by decide +kernel
theorem dL_385 : decode code 385 = .ok (.aload_n 0, 1) := by decide +kernel
theorem dL_386 : decode code 386 = .ok (.iload_n 3, 1) := by decide +kernel
theorem dL_387 : decode code 387 = .ok (.iconst 2, 1) := by decide +kernel
theorem dL_388 : decode code 388 = .ok (.iadd, 1) := by decide +kernel
theorem dL_389 : decode code 389 = .ok (.iaload, 1) := by decide +kernel
theorem dL_390 : decode code 390 = .ok (.invokevirtual 27, 3) := by decide +kernel
theorem dL_393 : decode code 393 = .ok (.aload_n 2, 1) := by decide +kernel
theorem dL_394 : decode code 394 = .ok (.aload_n 0, 1) := by decide +kernel
theorem dL_395 : decode code 395 = .ok (.iload_n 3, 1) := by decide +kernel
theorem dL_396 : decode code 396 = .ok (.iconst 1, 1) := by decide +kernel
theorem dL_397 : decode code 397 = .ok (.iadd, 1) := by decide +kernel
theorem dL_398 : decode code 398 = .ok (.iaload, 1) := by decide +kernel
theorem dL_399 : decode code 399 = .ok (.aload_n 0, 1) := by decide +kernel
theorem dL_400 : decode code 400 = .ok (.iload_n 3, 1) := by decide +kernel
theorem dL_401 : decode code 401 = .ok (.iconst 2, 1) := by decide +kernel
theorem dL_402 : decode code 402 = .ok (.iadd, 1) := by decide +kernel
theorem dL_403 : decode code 403 = .ok (.iaload, 1) := by decide +kernel
theorem dL_404 : decode code 404 = .ok (.invokevirtual 31, 3) := by decide +kernel
theorem dL_407 : decode code 407 = .ok (.if_icmp .eq 1242, 3) := by decide +kernel
theorem dL_410 : decode code 410 = .ok (.iconst 0, 1) := by decide +kernel
theorem dL_411 : decode code 411 = .ok (.ireturn, 1) := by decide +kernel
theorem dL_412 : decode code 412 = .ok (.aload_n 1, 1) := by decide +kernel
theorem dL_413 : decode code 413 = .ok (.aload_n 0, 1) := by decide +kernel
theorem dL_414 : decode code 414 = .ok (.iload_n 3, 1) := by decide +kernel
theorem dL_415 : decode code 415 = .ok (.iconst 1, 1) := by decide +kernel
theorem dL_416 : decode code 416 = .ok (.iadd, 1) := by decide +kernel
theorem dL_417 : decode code 417 = .ok (.iaload, 1) := by decide +kernel
theorem dL_418 : decode code 418 = .ok (.invokevirtual 32, 3) := by decide +kernel
theorem dL_421 : decode code 421 = .ok (.aload_n 2, 1) := by decide +kernel
theorem dL_422 : decode code 422 = .ok (.aload_n 0, 1) := by decide +kernel
theorem dL_423 : decode code 423 = .ok (.iload_n 3, 1) := by decide +kernel
theorem dL_424 : decode code 424 = .ok (.iconst 1, 1) := by decide +kernel
theorem dL_425 : decode code 425 = .ok (.iadd, 1) := by decide +kernel
theorem dL_426 : decode code 426 = .ok (.iaload, 1) := by decide +kernel
theorem dL_427 : decode code 427 = .ok (.invokevirtual 36, 3) := by decide +kernel
theorem dL_430 : decode code 430 = .ok (.if_icmp .eq 1219, 3) := by decide +kernel
theorem dL_433 : decode code 433 = .ok (.iconst 0, 1) := by decide +kernel
theorem dL_434 : decode code 434 = .ok (.ireturn, 1) := by decide +kernel
theorem dL_435 : decode code 435 = .ok (.aload_n 1, 1) := by decide +kernel
theorem dL_436 : decode code 436 = .ok (.aload_n 0, 1) := by decide +kernel
theorem dL_437 : decode code 437 = .ok (.iload_n 3, 1) := by decide +kernel
theorem dL_438 : decode code 438 = .ok (.iconst 1, 1) := by decide +kernel
theorem dL_439 : decode code 439 = .ok (.iadd, 1) := by decide +kernel
theorem dL_440 : decode code 440 = .ok (.iaload, 1) := by decide +kernel
theorem dL_441 : decode code 441 = .ok (.invokevirtual 37, 3) := by decide +kernel
theorem dL_444 : decode code 444 = .ok (.aload_n 2, 1) := by decide +kernel
theorem dL_445 : decode code 445 = .ok (.aload_n 0, 1) := by decide +kernel
theorem dL_446 : decode code 446 = .ok (.iload_n 3, 1) := by decide +kernel
theorem dL_447 : decode code 447 = .ok (.iconst 1, 1) := by decide +kernel
theorem dL_448 : decode code 448 = .ok (.iadd, 1) := by decide +kernel
theorem dL_449 : decode code 449 = .ok (.iaload, 1) := by decide +kernel
theorem dL_450 : decode code 450 = .ok (.invokevirtual 40, 3) := by decide +kernel
theorem dL_453 : decode code 453 = .ok (.if_icmp .eq 1196, 3) := by decide +kernel
theorem dL_456 : decode code 456 = .ok (.iconst 0, 1) := by decide +kernel
theorem dL_457 : decode code 457 = .ok (.ireturn, 1) := by decide +kernel
theorem dL_458 : decode code 458 = .ok (.aload_n 1, 1) := by decide +kernel
theorem dL_459 : decode code 459 = .ok (.aload_n 0, 1) := by decide +kernel
theorem dL_460 : decode code 460 = .ok (.iload_n 3, 1) := by decide +kernel
theorem dL_461 : decode code 461 = .ok (.iconst 1, 1) := by decide +kernel
theorem dL_462 : decode code 462 = .ok (.iadd, 1) := by decide +kernel
theorem dL_463 : decode code 463 = .ok (.iaload, 1) := by decide +kernel
theorem dL_464 : decode code 464 = .ok (.aload_n 0, 1) := by decide +kernel
theorem dL_465 : decode code 465 = .ok (.iload_n 3, 1) := by decide +kernel
theorem dL_466 : decode code 466 = .ok (.iconst 2, 1) := by decide +kernel
theorem dL_467 : decode code 467 = .ok (.iadd, 1) := by decide +kernel
theorem dL_468 : decode code 468 = .ok (.iaload, 1) := by decide +kernel
theorem dL_469 : decode code 469 = .ok (.aload_n 0, 1) := by decide +kernel
theorem dL_470 : decode code 470 = .ok (.iload_n 3, 1) := by decide +kernel
theorem dL_471 : decode code 471 = .ok (.iconst 3, 1) := by decide +kernel
theorem dL_472 : decode code 472 = .ok (.iadd, 1) := by decide +kernel
theorem dL_473 : decode code 473 = .ok (.iaload, 1) := by decide +kernel
theorem dL_474 : decode code 474 = .ok (.ifCond .eq 7, 3) := by decide +kernel
theorem dL_477 : decode code 477 = .ok (.iconst 1, 1) := by decide +kernel
theorem dL_478 : decode code 478 = .ok (.goto 4, 3) := by decide +kernel
theorem dL_481 : decode code 481 = .ok (.iconst 0, 1) := by decide +kernel
theorem dL_482 : decode code 482 = .ok (.aload_n 0, 1) := by decide +kernel
theorem dL_483 : decode code 483 = .ok (.iload_n 3, 1) := by decide +kernel
theorem dL_484 : decode code 484 = .ok (.iconst 4, 1) := by decide +kernel
theorem dL_485 : decode code 485 = .ok (.iadd, 1) := by decide +kernel
theorem dL_486 : decode code 486 = .ok (.iaload, 1) := by decide +kernel
theorem dL_487 : decode code 487 = .ok (.aload_n 0, 1) := by decide +kernel
theorem dL_488 : decode code 488 = .ok (.iload_n 3, 1) := by decide +kernel
theorem dL_489 : decode code 489 = .ok (.iconst 5, 1) := by decide +kernel
theorem dL_490 : decode code 490 = .ok (.iadd, 1) := by decide +kernel
theorem dL_491 : decode code 491 = .ok (.iaload, 1) := by decide +kernel
theorem dL_492 : decode code 492 = .ok (.invokevirtual 41, 3) := by decide +kernel
theorem dL_495 : decode code 495 = .ok (.aload_n 2, 1) := by decide +kernel
theorem dL_496 : decode code 496 = .ok (.aload_n 0, 1) := by decide +kernel
theorem dL_497 : decode code 497 = .ok (.iload_n 3, 1) := by decide +kernel
theorem dL_498 : decode code 498 = .ok (.iconst 1, 1) := by decide +kernel
theorem dL_499 : decode code 499 = .ok (.iadd, 1) := by decide +kernel
theorem dL_500 : decode code 500 = .ok (.iaload, 1) := by decide +kernel
theorem dL_501 : decode code 501 = .ok (.aload_n 0, 1) := by decide +kernel
theorem dL_502 : decode code 502 = .ok (.iload_n 3, 1) := by decide +kernel
theorem dL_503 : decode code 503 = .ok (.iconst 2, 1) := by decide +kernel
theorem dL_504 : decode code 504 = .ok (.iadd, 1) := by decide +kernel
theorem dL_505 : decode code 505 = .ok (.iaload, 1) := by decide +kernel
theorem dL_506 : decode code 506 = .ok (.aload_n 0, 1) := by decide +kernel
theorem dL_507 : decode code 507 = .ok (.iload_n 3, 1) := by decide +kernel
theorem dL_508 : decode code 508 = .ok (.iconst 3, 1) := by decide +kernel
theorem dL_509 : decode code 509 = .ok (.iadd, 1) := by decide +kernel
theorem dL_510 : decode code 510 = .ok (.iaload, 1) := by decide +kernel
theorem dL_511 : decode code 511 = .ok (.ifCond .eq 7, 3) := by decide +kernel
theorem dL_514 : decode code 514 = .ok (.iconst 1, 1) := by decide +kernel
theorem dL_515 : decode code 515 = .ok (.goto 4, 3) := by decide +kernel
theorem dL_518 : decode code 518 = .ok (.iconst 0, 1) := by decide +kernel
theorem dL_519 : decode code 519 = .ok (.aload_n 0, 1) := by decide +kernel
theorem dL_520 : decode code 520 = .ok (.iload_n 3, 1) := by decide +kernel
theorem dL_521 : decode code 521 = .ok (.iconst 4, 1) := by decide +kernel
theorem dL_522 : decode code 522 = .ok (.iadd, 1) := by decide +kernel
theorem dL_523 : decode code 523 = .ok (.iaload, 1) := by decide +kernel
theorem dL_524 : decode code 524 = .ok (.aload_n 0, 1) := by decide +kernel
theorem dL_525 : decode code 525 = .ok (.iload_n 3, 1) := by decide +kernel
theorem dL_526 : decode code 526 = .ok (.iconst 5, 1) := by decide +kernel
theorem dL_527 : decode code 527 = .ok (.iadd, 1) := by decide +kernel
theorem dL_528 : decode code 528 = .ok (.iaload, 1) := by decide +kernel
theorem dL_529 : decode code 529 = .ok (.invokevirtual 45, 3) := by decide +kernel
theorem dL_532 : decode code 532 = .ok (.if_icmp .eq 1117, 3) := by decide +kernel
theorem dL_535 : decode code 535 = .ok (.iconst 0, 1) := by decide +kernel
theorem dL_536 : decode code 536 = .ok (.ireturn, 1) := by decide +kernel
theorem dL_537 : decode code 537 = .ok (.aload_n 1, 1) := by decide +kernel
theorem dL_538 : decode code 538 = .ok (.aload_n 0, 1) := by decide +kernel
theorem dL_539 : decode code 539 = .ok (.iload_n 3, 1) := by decide +kernel
theorem dL_540 : decode code 540 = .ok (.iconst 1, 1) := by decide +kernel
theorem dL_541 : decode code 541 = .ok (.iadd, 1) := by decide +kernel
theorem dL_542 : decode code 542 = .ok (.iaload, 1) := by decide +kernel
theorem dL_543 : decode code 543 = .ok (.aload_n 0, 1) := by decide +kernel
theorem dL_544 : decode code 544 = .ok (.iload_n 3, 1) := by decide +kernel
theorem dL_545 : decode code 545 = .ok (.iconst 2, 1) := by decide +kernel
theorem dL_546 : decode code 546 = .ok (.iadd, 1) := by decide +kernel
theorem dL_547 : decode code 547 = .ok (.iaload, 1) := by decide +kernel
theorem dL_548 : decode code 548 = .ok (.invokevirtual 46, 3) := by decide +kernel
theorem dL_551 : decode code 551 = .ok (.aload_n 2, 1) := by decide +kernel
theorem dL_552 : decode code 552 = .ok (.aload_n 0, 1) := by decide +kernel
theorem dL_553 : decode code 553 = .ok (.iload_n 3, 1) := by decide +kernel
theorem dL_554 : decode code 554 = .ok (.iconst 1, 1) := by decide +kernel
theorem dL_555 : decode code 555 = .ok (.iadd, 1) := by decide +kernel
theorem dL_556 : decode code 556 = .ok (.iaload, 1) := by decide +kernel
theorem dL_557 : decode code 557 = .ok (.aload_n 0, 1) := by decide +kernel
theorem dL_558 : decode code 558 = .ok (.iload_n 3, 1) := by decide +kernel
theorem dL_559 : decode code 559 = .ok (.iconst 2, 1) := by decide +kernel
theorem dL_560 : decode code 560 = .ok (.iadd, 1) := by decide +kernel
theorem dL_561 : decode code 561 = .ok (.iaload, 1) := by decide +kernel
theorem dL_562 : decode code 562 = .ok (.invokevirtual 49, 3) := by decide +kernel
theorem dL_565 : decode code 565 = .ok (.if_icmp .eq 1084, 3) := by decide +kernel
theorem dL_568 : decode code 568 = .ok (.iconst 0, 1) := by decide +kernel
theorem dL_569 : decode code 569 = .ok (.ireturn, 1) := by decide +kernel
theorem dL_570 : decode code 570 = .ok (.aload_n 1, 1) := by decide +kernel
theorem dL_571 : decode code 571 = .ok (.aload_n 0, 1) := by decide +kernel
theorem dL_572 : decode code 572 = .ok (.iload_n 3, 1) := by decide +kernel
theorem dL_573 : decode code 573 = .ok (.iconst 1, 1) := by decide +kernel
theorem dL_574 : decode code 574 = .ok (.iadd, 1) := by decide +kernel
theorem dL_575 : decode code 575 = .ok (.iaload, 1) := by decide +kernel
theorem dL_576 : decode code 576 = .ok (.aload_n 0, 1) := by decide +kernel
theorem dL_577 : decode code 577 = .ok (.iload_n 3, 1) := by decide +kernel
theorem dL_578 : decode code 578 = .ok (.iconst 2, 1) := by decide +kernel
theorem dL_579 : decode code 579 = .ok (.iadd, 1) := by decide +kernel
theorem dL_580 : decode code 580 = .ok (.iaload, 1) := by decide +kernel
theorem dL_581 : decode code 581 = .ok (.invokevirtual 50, 3) := by decide +kernel
theorem dL_584 : decode code 584 = .ok (.aload_n 2, 1) := by decide +kernel
theorem dL_585 : decode code 585 = .ok (.aload_n 0, 1) := by decide +kernel
theorem dL_586 : decode code 586 = .ok (.iload_n 3, 1) := by decide +kernel
theorem dL_587 : decode code 587 = .ok (.iconst 1, 1) := by decide +kernel
theorem dL_588 : decode code 588 = .ok (.iadd, 1) := by decide +kernel
theorem dL_589 : decode code 589 = .ok (.iaload, 1) := by decide +kernel
theorem dL_590 : decode code 590 = .ok (.aload_n 0, 1) := by decide +kernel
theorem dL_591 : decode code 591 = .ok (.iload_n 3, 1) := by decide +kernel
theorem dL_592 : decode code 592 = .ok (.iconst 2, 1) := by decide +kernel
theorem dL_593 : decode code 593 = .ok (.iadd, 1) := by decide +kernel
theorem dL_594 : decode code 594 = .ok (.iaload, 1) := by decide +kernel
theorem dL_595 : decode code 595 = .ok (.invokevirtual 53, 3) := by decide +kernel
theorem dL_598 : decode code 598 = .ok (.if_icmp .eq 1051, 3) := by decide +kernel
theorem dL_601 : decode code 601 = .ok (.iconst 0, 1) := by decide +kernel
theorem dL_602 : decode code 602 = .ok (.ireturn, 1) := by decide +kernel
theorem dL_603 : decode code 603 = .ok (.aload_n 1, 1) := by decide +kernel
theorem dL_604 : decode code 604 = .ok (.aload_n 0, 1) := by decide +kernel
theorem dL_605 : decode code 605 = .ok (.iload_n 3, 1) := by decide +kernel
theorem dL_606 : decode code 606 = .ok (.iconst 1, 1) := by decide +kernel
theorem dL_607 : decode code 607 = .ok (.iadd, 1) := by decide +kernel
theorem dL_608 : decode code 608 = .ok (.iaload, 1) := by decide +kernel
theorem dL_609 : decode code 609 = .ok (.invokevirtual 54, 3) := by decide +kernel
theorem dL_612 : decode code 612 = .ok (.aload_n 2, 1) := by decide +kernel
theorem dL_613 : decode code 613 = .ok (.aload_n 0, 1) := by decide +kernel
theorem dL_614 : decode code 614 = .ok (.iload_n 3, 1) := by decide +kernel
theorem dL_615 : decode code 615 = .ok (.iconst 1, 1) := by decide +kernel
theorem dL_616 : decode code 616 = .ok (.iadd, 1) := by decide +kernel
theorem dL_617 : decode code 617 = .ok (.iaload, 1) := by decide +kernel
theorem dL_618 : decode code 618 = .ok (.invokevirtual 57, 3) := by decide +kernel
theorem dL_621 : decode code 621 = .ok (.if_icmp .eq 1028, 3) := by decide +kernel
theorem dL_624 : decode code 624 = .ok (.iconst 0, 1) := by decide +kernel
theorem dL_625 : decode code 625 = .ok (.ireturn, 1) := by decide +kernel
theorem dL_626 : decode code 626 = .ok (.aload_n 1, 1) := by decide +kernel
theorem dL_627 : decode code 627 = .ok (.invokevirtual 58, 3) := by decide +kernel
theorem dL_630 : decode code 630 = .ok (.aload_n 2, 1) := by decide +kernel
theorem dL_631 : decode code 631 = .ok (.invokevirtual 62, 3) := by decide +kernel
theorem dL_634 : decode code 634 = .ok (.if_icmp .eq 1015, 3) := by decide +kernel
theorem dL_637 : decode code 637 = .ok (.iconst 0, 1) := by decide +kernel
theorem dL_638 : decode code 638 = .ok (.ireturn, 1) := by decide +kernel
theorem dL_639 : decode code 639 = .ok (.aload_n 1, 1) := by decide +kernel
theorem dL_640 : decode code 640 = .ok (.aload_n 0, 1) := by decide +kernel
theorem dL_641 : decode code 641 = .ok (.iload_n 3, 1) := by decide +kernel
theorem dL_642 : decode code 642 = .ok (.iconst 1, 1) := by decide +kernel
theorem dL_643 : decode code 643 = .ok (.iadd, 1) := by decide +kernel
theorem dL_644 : decode code 644 = .ok (.iaload, 1) := by decide +kernel
theorem dL_645 : decode code 645 = .ok (.invokevirtual 63, 3) := by decide +kernel
theorem dL_648 : decode code 648 = .ok (.aload_n 2, 1) := by decide +kernel
theorem dL_649 : decode code 649 = .ok (.aload_n 0, 1) := by decide +kernel
theorem dL_650 : decode code 650 = .ok (.iload_n 3, 1) := by decide +kernel
theorem dL_651 : decode code 651 = .ok (.iconst 1, 1) := by decide +kernel
theorem dL_652 : decode code 652 = .ok (.iadd, 1) := by decide +kernel
theorem dL_653 : decode code 653 = .ok (.iaload, 1) := by decide +kernel
theorem dL_654 : decode code 654 = .ok (.invokevirtual 66, 3) := by decide +kernel
theorem dL_657 : decode code 657 = .ok (.if_icmp .eq 992, 3) := by decide +kernel
theorem dL_660 : decode code 660 = .ok (.iconst 0, 1) := by decide +kernel
theorem dL_661 : decode code 661 = .ok (.ireturn, 1) := by decide +kernel
theorem dL_662 : decode code 662 = .ok (.aload_n 1, 1) := by decide +kernel
theorem dL_663 : decode code 663 = .ok (.aload_n 0, 1) := by decide +kernel
theorem dL_664 : decode code 664 = .ok (.iload_n 3, 1) := by decide +kernel
theorem dL_665 : decode code 665 = .ok (.iconst 1, 1) := by decide +kernel
theorem dL_666 : decode code 666 = .ok (.iadd, 1) := by decide +kernel
theorem dL_667 : decode code 667 = .ok (.iaload, 1) := by decide +kernel
theorem dL_668 : decode code 668 = .ok (.invokevirtual 67, 3) := by decide +kernel
theorem dL_671 : decode code 671 = .ok (.aload_n 2, 1) := by decide +kernel
theorem dL_672 : decode code 672 = .ok (.aload_n 0, 1) := by decide +kernel
theorem dL_673 : decode code 673 = .ok (.iload_n 3, 1) := by decide +kernel
theorem dL_674 : decode code 674 = .ok (.iconst 1, 1) := by decide +kernel
theorem dL_675 : decode code 675 = .ok (.iadd, 1) := by decide +kernel
theorem dL_676 : decode code 676 = .ok (.iaload, 1) := by decide +kernel
theorem dL_677 : decode code 677 = .ok (.invokevirtual 70, 3) := by decide +kernel
theorem dL_680 : decode code 680 = .ok (.if_icmp .eq 969, 3) := by decide +kernel
theorem dL_683 : decode code 683 = .ok (.iconst 0, 1) := by decide +kernel
theorem dL_684 : decode code 684 = .ok (.ireturn, 1) := by decide +kernel
theorem dL_685 : decode code 685 = .ok (.aload_n 1, 1) := by decide +kernel
theorem dL_686 : decode code 686 = .ok (.aload_n 0, 1) := by decide +kernel
theorem dL_687 : decode code 687 = .ok (.iload_n 3, 1) := by decide +kernel
theorem dL_688 : decode code 688 = .ok (.iconst 1, 1) := by decide +kernel
theorem dL_689 : decode code 689 = .ok (.iadd, 1) := by decide +kernel
theorem dL_690 : decode code 690 = .ok (.iaload, 1) := by decide +kernel
theorem dL_691 : decode code 691 = .ok (.invokevirtual 71, 3) := by decide +kernel
theorem dL_694 : decode code 694 = .ok (.aload_n 2, 1) := by decide +kernel
theorem dL_695 : decode code 695 = .ok (.aload_n 0, 1) := by decide +kernel
theorem dL_696 : decode code 696 = .ok (.iload_n 3, 1) := by decide +kernel
theorem dL_697 : decode code 697 = .ok (.iconst 1, 1) := by decide +kernel
theorem dL_698 : decode code 698 = .ok (.iadd, 1) := by decide +kernel
theorem dL_699 : decode code 699 = .ok (.iaload, 1) := by decide +kernel
theorem dL_700 : decode code 700 = .ok (.invokevirtual 74, 3) := by decide +kernel
theorem dL_703 : decode code 703 = .ok (.if_icmp .eq 946, 3) := by decide +kernel
theorem dL_706 : decode code 706 = .ok (.iconst 0, 1) := by decide +kernel
theorem dL_707 : decode code 707 = .ok (.ireturn, 1) := by decide +kernel
theorem dL_708 : decode code 708 = .ok (.aload_n 1, 1) := by decide +kernel
theorem dL_709 : decode code 709 = .ok (.aload_n 0, 1) := by decide +kernel
theorem dL_710 : decode code 710 = .ok (.iload_n 3, 1) := by decide +kernel
theorem dL_711 : decode code 711 = .ok (.iconst 1, 1) := by decide +kernel
theorem dL_712 : decode code 712 = .ok (.iadd, 1) := by decide +kernel
theorem dL_713 : decode code 713 = .ok (.iaload, 1) := by decide +kernel
theorem dL_714 : decode code 714 = .ok (.invokevirtual 75, 3) := by decide +kernel
theorem dL_717 : decode code 717 = .ok (.aload_n 2, 1) := by decide +kernel
theorem dL_718 : decode code 718 = .ok (.aload_n 0, 1) := by decide +kernel
theorem dL_719 : decode code 719 = .ok (.iload_n 3, 1) := by decide +kernel
theorem dL_720 : decode code 720 = .ok (.iconst 1, 1) := by decide +kernel
theorem dL_721 : decode code 721 = .ok (.iadd, 1) := by decide +kernel
theorem dL_722 : decode code 722 = .ok (.iaload, 1) := by decide +kernel
theorem dL_723 : decode code 723 = .ok (.invokevirtual 78, 3) := by decide +kernel
theorem dL_726 : decode code 726 = .ok (.if_icmp .eq 923, 3) := by decide +kernel
theorem dL_729 : decode code 729 = .ok (.iconst 0, 1) := by decide +kernel
theorem dL_730 : decode code 730 = .ok (.ireturn, 1) := by decide +kernel
theorem dL_731 : decode code 731 = .ok (.aload_n 1, 1) := by decide +kernel
theorem dL_732 : decode code 732 = .ok (.aload_n 0, 1) := by decide +kernel
theorem dL_733 : decode code 733 = .ok (.iload_n 3, 1) := by decide +kernel
theorem dL_734 : decode code 734 = .ok (.iconst 1, 1) := by decide +kernel
theorem dL_735 : decode code 735 = .ok (.iadd, 1) := by decide +kernel
theorem dL_736 : decode code 736 = .ok (.iaload, 1) := by decide +kernel
theorem dL_737 : decode code 737 = .ok (.invokevirtual 79, 3) := by decide +kernel
theorem dL_740 : decode code 740 = .ok (.aload_n 2, 1) := by decide +kernel
theorem dL_741 : decode code 741 = .ok (.aload_n 0, 1) := by decide +kernel
theorem dL_742 : decode code 742 = .ok (.iload_n 3, 1) := by decide +kernel
theorem dL_743 : decode code 743 = .ok (.iconst 1, 1) := by decide +kernel
theorem dL_744 : decode code 744 = .ok (.iadd, 1) := by decide +kernel
theorem dL_745 : decode code 745 = .ok (.iaload, 1) := by decide +kernel
theorem dL_746 : decode code 746 = .ok (.invokevirtual 82, 3) := by decide +kernel
theorem dL_749 : decode code 749 = .ok (.if_icmp .eq 900, 3) := by decide +kernel
theorem dL_752 : decode code 752 = .ok (.iconst 0, 1) := by decide +kernel
theorem dL_753 : decode code 753 = .ok (.ireturn, 1) := by decide +kernel
theorem dL_754 : decode code 754 = .ok (.aload_n 1, 1) := by decide +kernel
theorem dL_755 : decode code 755 = .ok (.aload_n 0, 1) := by decide +kernel
theorem dL_756 : decode code 756 = .ok (.iload_n 3, 1) := by decide +kernel
theorem dL_757 : decode code 757 = .ok (.iconst 1, 1) := by decide +kernel
theorem dL_758 : decode code 758 = .ok (.iadd, 1) := by decide +kernel
theorem dL_759 : decode code 759 = .ok (.iaload, 1) := by decide +kernel
theorem dL_760 : decode code 760 = .ok (.aload_n 0, 1) := by decide +kernel
theorem dL_761 : decode code 761 = .ok (.iload_n 3, 1) := by decide +kernel
theorem dL_762 : decode code 762 = .ok (.iconst 2, 1) := by decide +kernel
theorem dL_763 : decode code 763 = .ok (.iadd, 1) := by decide +kernel
theorem dL_764 : decode code 764 = .ok (.iaload, 1) := by decide +kernel
theorem dL_765 : decode code 765 = .ok (.invokevirtual 83, 3) := by decide +kernel
theorem dL_768 : decode code 768 = .ok (.aload_n 2, 1) := by decide +kernel
theorem dL_769 : decode code 769 = .ok (.aload_n 0, 1) := by decide +kernel
theorem dL_770 : decode code 770 = .ok (.iload_n 3, 1) := by decide +kernel
theorem dL_771 : decode code 771 = .ok (.iconst 1, 1) := by decide +kernel
theorem dL_772 : decode code 772 = .ok (.iadd, 1) := by decide +kernel
theorem dL_773 : decode code 773 = .ok (.iaload, 1) := by decide +kernel
theorem dL_774 : decode code 774 = .ok (.aload_n 0, 1) := by decide +kernel
theorem dL_775 : decode code 775 = .ok (.iload_n 3, 1) := by decide +kernel
theorem dL_776 : decode code 776 = .ok (.iconst 2, 1) := by decide +kernel
theorem dL_777 : decode code 777 = .ok (.iadd, 1) := by decide +kernel
theorem dL_778 : decode code 778 = .ok (.iaload, 1) := by decide +kernel
theorem dL_779 : decode code 779 = .ok (.invokevirtual 86, 3) := by decide +kernel
theorem dL_782 : decode code 782 = .ok (.if_icmp .eq 867, 3) := by decide +kernel
theorem dL_785 : decode code 785 = .ok (.iconst 0, 1) := by decide +kernel
theorem dL_786 : decode code 786 = .ok (.ireturn, 1) := by decide +kernel
theorem dL_787 : decode code 787 = .ok (.aload_n 1, 1) := by decide +kernel
theorem dL_788 : decode code 788 = .ok (.aload_n 0, 1) := by decide +kernel
theorem dL_789 : decode code 789 = .ok (.iload_n 3, 1) := by decide +kernel
theorem dL_790 : decode code 790 = .ok (.iconst 1, 1) := by decide +kernel
theorem dL_791 : decode code 791 = .ok (.iadd, 1) := by decide +kernel
theorem dL_792 : decode code 792 = .ok (.iaload, 1) := by decide +kernel
theorem dL_793 : decode code 793 = .ok (.invokevirtual 87, 3) := by decide +kernel
theorem dL_796 : decode code 796 = .ok (.aload_n 2, 1) := by decide +kernel
theorem dL_797 : decode code 797 = .ok (.aload_n 0, 1) := by decide +kernel
theorem dL_798 : decode code 798 = .ok (.iload_n 3, 1) := by decide +kernel
theorem dL_799 : decode code 799 = .ok (.iconst 1, 1) := by decide +kernel
theorem dL_800 : decode code 800 = .ok (.iadd, 1) := by decide +kernel
theorem dL_801 : decode code 801 = .ok (.iaload, 1) := by decide +kernel
theorem dL_802 : decode code 802 = .ok (.invokevirtual 90, 3) := by decide +kernel
theorem dL_805 : decode code 805 = .ok (.if_icmp .eq 844, 3) := by decide +kernel
theorem dL_808 : decode code 808 = .ok (.iconst 0, 1) := by decide +kernel
theorem dL_809 : decode code 809 = .ok (.ireturn, 1) := by decide +kernel
theorem dL_810 : decode code 810 = .ok (.aload_n 1, 1) := by decide +kernel
theorem dL_811 : decode code 811 = .ok (.aload_n 0, 1) := by decide +kernel
theorem dL_812 : decode code 812 = .ok (.iload_n 3, 1) := by decide +kernel
theorem dL_813 : decode code 813 = .ok (.iconst 1, 1) := by decide +kernel
theorem dL_814 : decode code 814 = .ok (.iadd, 1) := by decide +kernel
theorem dL_815 : decode code 815 = .ok (.iaload, 1) := by decide +kernel
theorem dL_816 : decode code 816 = .ok (.invokevirtual 91, 3) := by decide +kernel
theorem dL_819 : decode code 819 = .ok (.aload_n 2, 1) := by decide +kernel
theorem dL_820 : decode code 820 = .ok (.aload_n 0, 1) := by decide +kernel
theorem dL_821 : decode code 821 = .ok (.iload_n 3, 1) := by decide +kernel
theorem dL_822 : decode code 822 = .ok (.iconst 1, 1) := by decide +kernel
theorem dL_823 : decode code 823 = .ok (.iadd, 1) := by decide +kernel
theorem dL_824 : decode code 824 = .ok (.iaload, 1) := by decide +kernel
theorem dL_825 : decode code 825 = .ok (.invokevirtual 94, 3) := by decide +kernel
theorem dL_828 : decode code 828 = .ok (.if_icmp .eq 821, 3) := by decide +kernel
theorem dL_831 : decode code 831 = .ok (.iconst 0, 1) := by decide +kernel
theorem dL_832 : decode code 832 = .ok (.ireturn, 1) := by decide +kernel
theorem dL_833 : decode code 833 = .ok (.aload_n 1, 1) := by decide +kernel
theorem dL_834 : decode code 834 = .ok (.aload_n 0, 1) := by decide +kernel
theorem dL_835 : decode code 835 = .ok (.iload_n 3, 1) := by decide +kernel
theorem dL_836 : decode code 836 = .ok (.iconst 1, 1) := by decide +kernel
theorem dL_837 : decode code 837 = .ok (.iadd, 1) := by decide +kernel
theorem dL_838 : decode code 838 = .ok (.iaload, 1) := by decide +kernel
theorem dL_839 : decode code 839 = .ok (.invokevirtual 95, 3) := by decide +kernel
theorem dL_842 : decode code 842 = .ok (.aload_n 2, 1) := by decide +kernel
theorem dL_843 : decode code 843 = .ok (.aload_n 0, 1) := by decide +kernel
theorem dL_844 : decode code 844 = .ok (.iload_n 3, 1) := by decide +kernel
theorem dL_845 : decode code 845 = .ok (.iconst 1, 1) := by decide +kernel
theorem dL_846 : decode code 846 = .ok (.iadd, 1) := by decide +kernel
theorem dL_847 : decode code 847 = .ok (.iaload, 1) := by decide +kernel
theorem dL_848 : decode code 848 = .ok (.invokevirtual 98, 3) := by decide +kernel
theorem dL_851 : decode code 851 = .ok (.if_icmp .eq 798, 3) := by decide +kernel
theorem dL_854 : decode code 854 = .ok (.iconst 0, 1) := by decide +kernel
theorem dL_855 : decode code 855 = .ok (.ireturn, 1) := by decide +kernel
theorem dL_856 : decode code 856 = .ok (.aload_n 1, 1) := by decide +kernel
theorem dL_857 : decode code 857 = .ok (.aload_n 0, 1) := by decide +kernel
theorem dL_858 : decode code 858 = .ok (.iload_n 3, 1) := by decide +kernel
theorem dL_859 : decode code 859 = .ok (.iconst 1, 1) := by decide +kernel
theorem dL_860 : decode code 860 = .ok (.iadd, 1) := by decide +kernel
theorem dL_861 : decode code 861 = .ok (.iaload, 1) := by decide +kernel
theorem dL_862 : decode code 862 = .ok (.invokevirtual 99, 3) := by decide +kernel
theorem dL_865 : decode code 865 = .ok (.aload_n 2, 1) := by decide +kernel
theorem dL_866 : decode code 866 = .ok (.aload_n 0, 1) := by decide +kernel
theorem dL_867 : decode code 867 = .ok (.iload_n 3, 1) := by decide +kernel
theorem dL_868 : decode code 868 = .ok (.iconst 1, 1) := by decide +kernel
theorem dL_869 : decode code 869 = .ok (.iadd, 1) := by decide +kernel
theorem dL_870 : decode code 870 = .ok (.iaload, 1) := by decide +kernel
theorem dL_871 : decode code 871 = .ok (.invokevirtual 102, 3) := by decide +kernel
theorem dL_874 : decode code 874 = .ok (.if_icmp .eq 775, 3) := by decide +kernel
theorem dL_877 : decode code 877 = .ok (.iconst 0, 1) := by decide +kernel
theorem dL_878 : decode code 878 = .ok (.ireturn, 1) := by decide +kernel
theorem dL_879 : decode code 879 = .ok (.aload_n 1, 1) := by decide +kernel
theorem dL_880 : decode code 880 = .ok (.aload_n 0, 1) := by decide +kernel
theorem dL_881 : decode code 881 = .ok (.iload_n 3, 1) := by decide +kernel
theorem dL_882 : decode code 882 = .ok (.iconst 1, 1) := by decide +kernel
theorem dL_883 : decode code 883 = .ok (.iadd, 1) := by decide +kernel
theorem dL_884 : decode code 884 = .ok (.iaload, 1) := by decide +kernel
theorem dL_885 : decode code 885 = .ok (.invokevirtual 103, 3) := by decide +kernel
theorem dL_888 : decode code 888 = .ok (.aload_n 2, 1) := by decide +kernel
theorem dL_889 : decode code 889 = .ok (.aload_n 0, 1) := by decide +kernel
theorem dL_890 : decode code 890 = .ok (.iload_n 3, 1) := by decide +kernel
theorem dL_891 : decode code 891 = .ok (.iconst 1, 1) := by decide +kernel
theorem dL_892 : decode code 892 = .ok (.iadd, 1) := by decide +kernel
theorem dL_893 : decode code 893 = .ok (.iaload, 1) := by decide +kernel
theorem dL_894 : decode code 894 = .ok (.invokevirtual 106, 3) := by decide +kernel
theorem dL_897 : decode code 897 = .ok (.if_icmp .eq 752, 3) := by decide +kernel
theorem dL_900 : decode code 900 = .ok (.iconst 0, 1) := by decide +kernel
theorem dL_901 : decode code 901 = .ok (.ireturn, 1) := by decide +kernel
theorem dL_902 : decode code 902 = .ok (.aload_n 1, 1) := by decide +kernel
theorem dL_903 : decode code 903 = .ok (.aload_n 0, 1) := by decide +kernel
theorem dL_904 : decode code 904 = .ok (.iload_n 3, 1) := by decide +kernel
theorem dL_905 : decode code 905 = .ok (.iconst 1, 1) := by decide +kernel
theorem dL_906 : decode code 906 = .ok (.iadd, 1) := by decide +kernel
theorem dL_907 : decode code 907 = .ok (.iaload, 1) := by decide +kernel
theorem dL_908 : decode code 908 = .ok (.invokevirtual 107, 3) := by decide +kernel
theorem dL_911 : decode code 911 = .ok (.aload_n 2, 1) := by decide +kernel
theorem dL_912 : decode code 912 = .ok (.aload_n 0, 1) := by decide +kernel
theorem dL_913 : decode code 913 = .ok (.iload_n 3, 1) := by decide +kernel
theorem dL_914 : decode code 914 = .ok (.iconst 1, 1) := by decide +kernel
theorem dL_915 : decode code 915 = .ok (.iadd, 1) := by decide +kernel
theorem dL_916 : decode code 916 = .ok (.iaload, 1) := by decide +kernel
theorem dL_917 : decode code 917 = .ok (.invokevirtual 110, 3) := by decide +kernel
theorem dL_920 : decode code 920 = .ok (.if_icmp .eq 729, 3) := by decide +kernel
theorem dL_923 : decode code 923 = .ok (.iconst 0, 1) := by decide +kernel
theorem dL_924 : decode code 924 = .ok (.ireturn, 1) := by decide +kernel
theorem dL_925 : decode code 925 = .ok (.aload_n 1, 1) := by decide +kernel
theorem dL_926 : decode code 926 = .ok (.aload_n 0, 1) := by decide +kernel
theorem dL_927 : decode code 927 = .ok (.iload_n 3, 1) := by decide +kernel
theorem dL_928 : decode code 928 = .ok (.iconst 1, 1) := by decide +kernel
theorem dL_929 : decode code 929 = .ok (.iadd, 1) := by decide +kernel
theorem dL_930 : decode code 930 = .ok (.iaload, 1) := by decide +kernel
theorem dL_931 : decode code 931 = .ok (.aload_n 0, 1) := by decide +kernel
theorem dL_932 : decode code 932 = .ok (.iload_n 3, 1) := by decide +kernel
theorem dL_933 : decode code 933 = .ok (.iconst 2, 1) := by decide +kernel
theorem dL_934 : decode code 934 = .ok (.iadd, 1) := by decide +kernel
theorem dL_935 : decode code 935 = .ok (.iaload, 1) := by decide +kernel
theorem dL_936 : decode code 936 = .ok (.invokevirtual 111, 3) := by decide +kernel
theorem dL_939 : decode code 939 = .ok (.aload_n 2, 1) := by decide +kernel
theorem dL_940 : decode code 940 = .ok (.aload_n 0, 1) := by decide +kernel
theorem dL_941 : decode code 941 = .ok (.iload_n 3, 1) := by decide +kernel
theorem dL_942 : decode code 942 = .ok (.iconst 1, 1) := by decide +kernel
theorem dL_943 : decode code 943 = .ok (.iadd, 1) := by decide +kernel
theorem dL_944 : decode code 944 = .ok (.iaload, 1) := by decide +kernel
theorem dL_945 : decode code 945 = .ok (.aload_n 0, 1) := by decide +kernel
theorem dL_946 : decode code 946 = .ok (.iload_n 3, 1) := by decide +kernel
theorem dL_947 : decode code 947 = .ok (.iconst 2, 1) := by decide +kernel
theorem dL_948 : decode code 948 = .ok (.iadd, 1) := by decide +kernel
theorem dL_949 : decode code 949 = .ok (.iaload, 1) := by decide +kernel
theorem dL_950 : decode code 950 = .ok (.invokevirtual 114, 3) := by decide +kernel
theorem dL_953 : decode code 953 = .ok (.if_icmp .eq 696, 3) := by decide +kernel
theorem dL_956 : decode code 956 = .ok (.iconst 0, 1) := by decide +kernel
theorem dL_957 : decode code 957 = .ok (.ireturn, 1) := by decide +kernel
theorem dL_958 : decode code 958 = .ok (.aload_n 1, 1) := by decide +kernel
theorem dL_959 : decode code 959 = .ok (.aload_n 0, 1) := by decide +kernel
theorem dL_960 : decode code 960 = .ok (.iload_n 3, 1) := by decide +kernel
theorem dL_961 : decode code 961 = .ok (.iconst 1, 1) := by decide +kernel
theorem dL_962 : decode code 962 = .ok (.iadd, 1) := by decide +kernel
theorem dL_963 : decode code 963 = .ok (.iaload, 1) := by decide +kernel
theorem dL_964 : decode code 964 = .ok (.invokevirtual 115, 3) := by decide +kernel
theorem dL_967 : decode code 967 = .ok (.aload_n 2, 1) := by decide +kernel
theorem dL_968 : decode code 968 = .ok (.aload_n 0, 1) := by decide +kernel
theorem dL_969 : decode code 969 = .ok (.iload_n 3, 1) := by decide +kernel
theorem dL_970 : decode code 970 = .ok (.iconst 1, 1) := by decide +kernel
theorem dL_971 : decode code 971 = .ok (.iadd, 1) := by decide +kernel
theorem dL_972 : decode code 972 = .ok (.iaload, 1) := by decide +kernel
theorem dL_973 : decode code 973 = .ok (.invokevirtual 118, 3) := by decide +kernel
theorem dL_976 : decode code 976 = .ok (.if_icmp .eq 673, 3) := by decide +kernel
theorem dL_979 : decode code 979 = .ok (.iconst 0, 1) := by decide +kernel
theorem dL_980 : decode code 980 = .ok (.ireturn, 1) := by decide +kernel
theorem dL_981 : decode code 981 = .ok (.aload_n 1, 1) := by decide +kernel
theorem dL_982 : decode code 982 = .ok (.aload_n 0, 1) := by decide +kernel
theorem dL_983 : decode code 983 = .ok (.iload_n 3, 1) := by decide +kernel
theorem dL_984 : decode code 984 = .ok (.iconst 1, 1) := by decide +kernel
theorem dL_985 : decode code 985 = .ok (.iadd, 1) := by decide +kernel
theorem dL_986 : decode code 986 = .ok (.iaload, 1) := by decide +kernel
theorem dL_987 : decode code 987 = .ok (.aload_n 0, 1) := by decide +kernel
theorem dL_988 : decode code 988 = .ok (.iload_n 3, 1) := by decide +kernel
theorem dL_989 : decode code 989 = .ok (.iconst 2, 1) := by decide +kernel
theorem dL_990 : decode code 990 = .ok (.iadd, 1) := by decide +kernel
theorem dL_991 : decode code 991 = .ok (.iaload, 1) := by decide +kernel
theorem dL_992 : decode code 992 = .ok (.invokevirtual 119, 3) := by decide +kernel
theorem dL_995 : decode code 995 = .ok (.aload_n 2, 1) := by decide +kernel
theorem dL_996 : decode code 996 = .ok (.aload_n 0, 1) := by decide +kernel
theorem dL_997 : decode code 997 = .ok (.iload_n 3, 1) := by decide +kernel
theorem dL_998 : decode code 998 = .ok (.iconst 1, 1) := by decide +kernel
theorem dL_999 : decode code 999 = .ok (.iadd, 1) := by decide +kernel
theorem dL_1000 : decode code 1000 = .ok (.iaload, 1) := by decide +kernel
theorem dL_1001 : decode code 1001 = .ok (.aload_n 0, 1) := by decide +kernel
theorem dL_1002 : decode code 1002 = .ok (.iload_n 3, 1) := by decide +kernel
theorem dL_1003 : decode code 1003 = .ok (.iconst 2, 1) := by decide +kernel
theorem dL_1004 : decode code 1004 = .ok (.iadd, 1) := by decide +kernel
theorem dL_1005 : decode code 1005 = .ok (.iaload, 1) := by decide +kernel
theorem dL_1006 : decode code 1006 = .ok (.invokevirtual 122, 3) := by decide +kernel
theorem dL_1009 : decode code 1009 = .ok (.if_icmp .eq 640, 3) := by decide +kernel
theorem dL_1012 : decode code 1012 = .ok (.iconst 0, 1) := by decide +kernel
theorem dL_1013 : decode code 1013 = .ok (.ireturn, 1) := by decide +kernel
theorem dL_1014 : decode code 1014 = .ok (.aload_n 1, 1) := by decide +kernel
theorem dL_1015 : decode code 1015 = .ok (.aload_n 0, 1) := by decide +kernel
theorem dL_1016 : decode code 1016 = .ok (.iload_n 3, 1) := by decide +kernel
theorem dL_1017 : decode code 1017 = .ok (.iconst 1, 1) := by decide +kernel
theorem dL_1018 : decode code 1018 = .ok (.iadd, 1) := by decide +kernel
theorem dL_1019 : decode code 1019 = .ok (.iaload, 1) := by decide +kernel
theorem dL_1020 : decode code 1020 = .ok (.aload_n 0, 1) := by decide +kernel
theorem dL_1021 : decode code 1021 = .ok (.iload_n 3, 1) := by decide +kernel
theorem dL_1022 : decode code 1022 = .ok (.iconst 2, 1) := by decide +kernel
theorem dL_1023 : decode code 1023 = .ok (.iadd, 1) := by decide +kernel
theorem dL_1024 : decode code 1024 = .ok (.iaload, 1) := by decide +kernel
theorem dL_1025 : decode code 1025 = .ok (.invokevirtual 123, 3) := by decide +kernel
theorem dL_1028 : decode code 1028 = .ok (.aload_n 2, 1) := by decide +kernel
theorem dL_1029 : decode code 1029 = .ok (.aload_n 0, 1) := by decide +kernel
theorem dL_1030 : decode code 1030 = .ok (.iload_n 3, 1) := by decide +kernel
theorem dL_1031 : decode code 1031 = .ok (.iconst 1, 1) := by decide +kernel
theorem dL_1032 : decode code 1032 = .ok (.iadd, 1) := by decide +kernel
theorem dL_1033 : decode code 1033 = .ok (.iaload, 1) := by decide +kernel
theorem dL_1034 : decode code 1034 = .ok (.aload_n 0, 1) := by decide +kernel
theorem dL_1035 : decode code 1035 = .ok (.iload_n 3, 1) := by decide +kernel
theorem dL_1036 : decode code 1036 = .ok (.iconst 2, 1) := by decide +kernel
theorem dL_1037 : decode code 1037 = .ok (.iadd, 1) := by decide +kernel
theorem dL_1038 : decode code 1038 = .ok (.iaload, 1) := by decide +kernel
theorem dL_1039 : decode code 1039 = .ok (.invokevirtual 126, 3) := by decide +kernel
theorem dL_1042 : decode code 1042 = .ok (.if_icmp .eq 607, 3) := by decide +kernel
theorem dL_1045 : decode code 1045 = .ok (.iconst 0, 1) := by decide +kernel
theorem dL_1046 : decode code 1046 = .ok (.ireturn, 1) := by decide +kernel
theorem dL_1047 : decode code 1047 = .ok (.aload_n 1, 1) := by decide +kernel
theorem dL_1048 : decode code 1048 = .ok (.aload_n 0, 1) := by decide +kernel
theorem dL_1049 : decode code 1049 = .ok (.iload_n 3, 1) := by decide +kernel
theorem dL_1050 : decode code 1050 = .ok (.iconst 1, 1) := by decide +kernel
theorem dL_1051 : decode code 1051 = .ok (.iadd, 1) := by decide +kernel
theorem dL_1052 : decode code 1052 = .ok (.iaload, 1) := by decide +kernel
theorem dL_1053 : decode code 1053 = .ok (.aload_n 0, 1) := by decide +kernel
theorem dL_1054 : decode code 1054 = .ok (.iload_n 3, 1) := by decide +kernel
theorem dL_1055 : decode code 1055 = .ok (.iconst 2, 1) := by decide +kernel
theorem dL_1056 : decode code 1056 = .ok (.iadd, 1) := by decide +kernel
theorem dL_1057 : decode code 1057 = .ok (.iaload, 1) := by decide +kernel
theorem dL_1058 : decode code 1058 = .ok (.invokevirtual 127, 3) := by decide +kernel
theorem dL_1061 : decode code 1061 = .ok (.aload_n 2, 1) := by decide +kernel
theorem dL_1062 : decode code 1062 = .ok (.aload_n 0, 1) := by decide +kernel
theorem dL_1063 : decode code 1063 = .ok (.iload_n 3, 1) := by decide +kernel
theorem dL_1064 : decode code 1064 = .ok (.iconst 1, 1) := by decide +kernel
theorem dL_1065 : decode code 1065 = .ok (.iadd, 1) := by decide +kernel
theorem dL_1066 : decode code 1066 = .ok (.iaload, 1) := by decide +kernel
theorem dL_1067 : decode code 1067 = .ok (.aload_n 0, 1) := by decide +kernel
theorem dL_1068 : decode code 1068 = .ok (.iload_n 3, 1) := by decide +kernel
theorem dL_1069 : decode code 1069 = .ok (.iconst 2, 1) := by decide +kernel
theorem dL_1070 : decode code 1070 = .ok (.iadd, 1) := by decide +kernel
theorem dL_1071 : decode code 1071 = .ok (.iaload, 1) := by decide +kernel
theorem dL_1072 : decode code 1072 = .ok (.invokevirtual 130, 3) := by decide +kernel
theorem dL_1075 : decode code 1075 = .ok (.if_icmp .eq 574, 3) := by decide +kernel
theorem dL_1078 : decode code 1078 = .ok (.iconst 0, 1) := by decide +kernel
theorem dL_1079 : decode code 1079 = .ok (.ireturn, 1) := by decide +kernel
theorem dL_1080 : decode code 1080 = .ok (.aload_n 1, 1) := by decide +kernel
theorem dL_1081 : decode code 1081 = .ok (.aload_n 0, 1) := by decide +kernel
theorem dL_1082 : decode code 1082 = .ok (.iload_n 3, 1) := by decide +kernel
theorem dL_1083 : decode code 1083 = .ok (.iconst 1, 1) := by decide +kernel
theorem dL_1084 : decode code 1084 = .ok (.iadd, 1) := by decide +kernel
theorem dL_1085 : decode code 1085 = .ok (.iaload, 1) := by decide +kernel
theorem dL_1086 : decode code 1086 = .ok (.invokevirtual 131, 3) := by decide +kernel
theorem dL_1089 : decode code 1089 = .ok (.aload_n 2, 1) := by decide +kernel
theorem dL_1090 : decode code 1090 = .ok (.aload_n 0, 1) := by decide +kernel
theorem dL_1091 : decode code 1091 = .ok (.iload_n 3, 1) := by decide +kernel
theorem dL_1092 : decode code 1092 = .ok (.iconst 1, 1) := by decide +kernel
theorem dL_1093 : decode code 1093 = .ok (.iadd, 1) := by decide +kernel
theorem dL_1094 : decode code 1094 = .ok (.iaload, 1) := by decide +kernel
theorem dL_1095 : decode code 1095 = .ok (.invokevirtual 134, 3) := by decide +kernel
theorem dL_1098 : decode code 1098 = .ok (.if_icmp .eq 551, 3) := by decide +kernel
theorem dL_1101 : decode code 1101 = .ok (.iconst 0, 1) := by decide +kernel
theorem dL_1102 : decode code 1102 = .ok (.ireturn, 1) := by decide +kernel
theorem dL_1103 : decode code 1103 = .ok (.aload_n 1, 1) := by decide +kernel
theorem dL_1104 : decode code 1104 = .ok (.invokevirtual 135, 3) := by decide +kernel
theorem dL_1107 : decode code 1107 = .ok (.aload_n 2, 1) := by decide +kernel
theorem dL_1108 : decode code 1108 = .ok (.invokevirtual 138, 3) := by decide +kernel
theorem dL_1111 : decode code 1111 = .ok (.if_icmp .eq 538, 3) := by decide +kernel
theorem dL_1114 : decode code 1114 = .ok (.iconst 0, 1) := by decide +kernel
theorem dL_1115 : decode code 1115 = .ok (.ireturn, 1) := by decide +kernel
theorem dL_1116 : decode code 1116 = .ok (.aload_n 1, 1) := by decide +kernel
theorem dL_1117 : decode code 1117 = .ok (.aload_n 0, 1) := by decide +kernel
theorem dL_1118 : decode code 1118 = .ok (.iload_n 3, 1) := by decide +kernel
theorem dL_1119 : decode code 1119 = .ok (.iconst 1, 1) := by decide +kernel
theorem dL_1120 : decode code 1120 = .ok (.iadd, 1) := by decide +kernel
theorem dL_1121 : decode code 1121 = .ok (.iaload, 1) := by decide +kernel
theorem dL_1122 : decode code 1122 = .ok (.invokevirtual 139, 3) := by decide +kernel
theorem dL_1125 : decode code 1125 = .ok (.aload_n 2, 1) := by decide +kernel
theorem dL_1126 : decode code 1126 = .ok (.aload_n 0, 1) := by decide +kernel
theorem dL_1127 : decode code 1127 = .ok (.iload_n 3, 1) := by decide +kernel
theorem dL_1128 : decode code 1128 = .ok (.iconst 1, 1) := by decide +kernel
theorem dL_1129 : decode code 1129 = .ok (.iadd, 1) := by decide +kernel
theorem dL_1130 : decode code 1130 = .ok (.iaload, 1) := by decide +kernel
theorem dL_1131 : decode code 1131 = .ok (.invokevirtual 142, 3) := by decide +kernel
theorem dL_1134 : decode code 1134 = .ok (.if_icmp .eq 515, 3) := by decide +kernel
theorem dL_1137 : decode code 1137 = .ok (.iconst 0, 1) := by decide +kernel
theorem dL_1138 : decode code 1138 = .ok (.ireturn, 1) := by decide +kernel
theorem dL_1139 : decode code 1139 = .ok (.aload_n 1, 1) := by decide +kernel
theorem dL_1140 : decode code 1140 = .ok (.invokevirtual 143, 3) := by decide +kernel
theorem dL_1143 : decode code 1143 = .ok (.aload_n 2, 1) := by decide +kernel
theorem dL_1144 : decode code 1144 = .ok (.invokevirtual 146, 3) := by decide +kernel
theorem dL_1147 : decode code 1147 = .ok (.if_icmp .eq 502, 3) := by decide +kernel
theorem dL_1150 : decode code 1150 = .ok (.iconst 0, 1) := by decide +kernel
theorem dL_1151 : decode code 1151 = .ok (.ireturn, 1) := by decide +kernel
theorem dL_1152 : decode code 1152 = .ok (.aload_n 1, 1) := by decide +kernel
theorem dL_1153 : decode code 1153 = .ok (.aload_n 0, 1) := by decide +kernel
theorem dL_1154 : decode code 1154 = .ok (.iload_n 3, 1) := by decide +kernel
theorem dL_1155 : decode code 1155 = .ok (.iconst 1, 1) := by decide +kernel
theorem dL_1156 : decode code 1156 = .ok (.iadd, 1) := by decide +kernel
theorem dL_1157 : decode code 1157 = .ok (.iaload, 1) := by decide +kernel
theorem dL_1158 : decode code 1158 = .ok (.invokevirtual 147, 3) := by decide +kernel
theorem dL_1161 : decode code 1161 = .ok (.aload_n 2, 1) := by decide +kernel
theorem dL_1162 : decode code 1162 = .ok (.aload_n 0, 1) := by decide +kernel
theorem dL_1163 : decode code 1163 = .ok (.iload_n 3, 1) := by decide +kernel
theorem dL_1164 : decode code 1164 = .ok (.iconst 1, 1) := by decide +kernel
theorem dL_1165 : decode code 1165 = .ok (.iadd, 1) := by decide +kernel
theorem dL_1166 : decode code 1166 = .ok (.iaload, 1) := by decide +kernel
theorem dL_1167 : decode code 1167 = .ok (.invokevirtual 150, 3) := by decide +kernel
theorem dL_1170 : decode code 1170 = .ok (.if_icmp .eq 479, 3) := by decide +kernel
theorem dL_1173 : decode code 1173 = .ok (.iconst 0, 1) := by decide +kernel
theorem dL_1174 : decode code 1174 = .ok (.ireturn, 1) := by decide +kernel
theorem dL_1175 : decode code 1175 = .ok (.aload_n 1, 1) := by decide +kernel
theorem dL_1176 : decode code 1176 = .ok (.aload_n 0, 1) := by decide +kernel
theorem dL_1177 : decode code 1177 = .ok (.iload_n 3, 1) := by decide +kernel
theorem dL_1178 : decode code 1178 = .ok (.iconst 1, 1) := by decide +kernel
theorem dL_1179 : decode code 1179 = .ok (.iadd, 1) := by decide +kernel
theorem dL_1180 : decode code 1180 = .ok (.iaload, 1) := by decide +kernel
theorem dL_1181 : decode code 1181 = .ok (.aload_n 0, 1) := by decide +kernel
theorem dL_1182 : decode code 1182 = .ok (.iload_n 3, 1) := by decide +kernel
theorem dL_1183 : decode code 1183 = .ok (.iconst 2, 1) := by decide +kernel
theorem dL_1184 : decode code 1184 = .ok (.iadd, 1) := by decide +kernel
theorem dL_1185 : decode code 1185 = .ok (.iaload, 1) := by decide +kernel
theorem dL_1186 : decode code 1186 = .ok (.ifCond .eq 7, 3) := by decide +kernel
theorem dL_1189 : decode code 1189 = .ok (.iconst 1, 1) := by decide +kernel
theorem dL_1190 : decode code 1190 = .ok (.goto 4, 3) := by decide +kernel
theorem dL_1193 : decode code 1193 = .ok (.iconst 0, 1) := by decide +kernel
theorem dL_1194 : decode code 1194 = .ok (.aload_n 0, 1) := by decide +kernel
theorem dL_1195 : decode code 1195 = .ok (.iload_n 3, 1) := by decide +kernel
theorem dL_1196 : decode code 1196 = .ok (.iconst 3, 1) := by decide +kernel
theorem dL_1197 : decode code 1197 = .ok (.iadd, 1) := by decide +kernel
theorem dL_1198 : decode code 1198 = .ok (.iaload, 1) := by decide +kernel
theorem dL_1199 : decode code 1199 = .ok (.aload_n 0, 1) := by decide +kernel
theorem dL_1200 : decode code 1200 = .ok (.iload_n 3, 1) := by decide +kernel
theorem dL_1201 : decode code 1201 = .ok (.iconst 4, 1) := by decide +kernel
theorem dL_1202 : decode code 1202 = .ok (.iadd, 1) := by decide +kernel
theorem dL_1203 : decode code 1203 = .ok (.iaload, 1) := by decide +kernel
theorem dL_1204 : decode code 1204 = .ok (.invokevirtual 151, 3) := by decide +kernel
theorem dL_1207 : decode code 1207 = .ok (.aload_n 2, 1) := by decide +kernel
theorem dL_1208 : decode code 1208 = .ok (.aload_n 0, 1) := by decide +kernel
theorem dL_1209 : decode code 1209 = .ok (.iload_n 3, 1) := by decide +kernel
theorem dL_1210 : decode code 1210 = .ok (.iconst 1, 1) := by decide +kernel
theorem dL_1211 : decode code 1211 = .ok (.iadd, 1) := by decide +kernel
theorem dL_1212 : decode code 1212 = .ok (.iaload, 1) := by decide +kernel
theorem dL_1213 : decode code 1213 = .ok (.aload_n 0, 1) := by decide +kernel
theorem dL_1214 : decode code 1214 = .ok (.iload_n 3, 1) := by decide +kernel
theorem dL_1215 : decode code 1215 = .ok (.iconst 2, 1) := by decide +kernel
theorem dL_1216 : decode code 1216 = .ok (.iadd, 1) := by decide +kernel
theorem dL_1217 : decode code 1217 = .ok (.iaload, 1) := by decide +kernel
theorem dL_1218 : decode code 1218 = .ok (.ifCond .eq 7, 3) := by decide +kernel
theorem dL_1221 : decode code 1221 = .ok (.iconst 1, 1) := by decide +kernel
theorem dL_1222 : decode code 1222 = .ok (.goto 4, 3) := by decide +kernel
theorem dL_1225 : decode code 1225 = .ok (.iconst 0, 1) := by decide +kernel
theorem dL_1226 : decode code 1226 = .ok (.aload_n 0, 1) := by decide +kernel
theorem dL_1227 : decode code 1227 = .ok (.iload_n 3, 1) := by decide +kernel
theorem dL_1228 : decode code 1228 = .ok (.iconst 3, 1) := by decide +kernel
theorem dL_1229 : decode code 1229 = .ok (.iadd, 1) := by decide +kernel
theorem dL_1230 : decode code 1230 = .ok (.iaload, 1) := by decide +kernel
theorem dL_1231 : decode code 1231 = .ok (.aload_n 0, 1) := by decide +kernel
theorem dL_1232 : decode code 1232 = .ok (.iload_n 3, 1) := by decide +kernel
theorem dL_1233 : decode code 1233 = .ok (.iconst 4, 1) := by decide +kernel
theorem dL_1234 : decode code 1234 = .ok (.iadd, 1) := by decide +kernel
theorem dL_1235 : decode code 1235 = .ok (.iaload, 1) := by decide +kernel
theorem dL_1236 : decode code 1236 = .ok (.invokevirtual 155, 3) := by decide +kernel
theorem dL_1239 : decode code 1239 = .ok (.if_icmp .eq 410, 3) := by decide +kernel
theorem dL_1242 : decode code 1242 = .ok (.iconst 0, 1) := by decide +kernel
theorem dL_1243 : decode code 1243 = .ok (.ireturn, 1) := by decide +kernel
theorem dL_1244 : decode code 1244 = .ok (.aload_n 1, 1) := by decide +kernel
theorem dL_1245 : decode code 1245 = .ok (.aload_n 0, 1) := by decide +kernel
theorem dL_1246 : decode code 1246 = .ok (.iload_n 3, 1) := by decide +kernel
theorem dL_1247 : decode code 1247 = .ok (.iconst 1, 1) := by decide +kernel
theorem dL_1248 : decode code 1248 = .ok (.iadd, 1) := by decide +kernel
theorem dL_1249 : decode code 1249 = .ok (.iaload, 1) := by decide +kernel
theorem dL_1250 : decode code 1250 = .ok (.aload_n 0, 1) := by decide +kernel
theorem dL_1251 : decode code 1251 = .ok (.iload_n 3, 1) := by decide +kernel
theorem dL_1252 : decode code 1252 = .ok (.iconst 2, 1) := by decide +kernel
theorem dL_1253 : decode code 1253 = .ok (.iadd, 1) := by decide +kernel
theorem dL_1254 : decode code 1254 = .ok (.iaload, 1) := by decide +kernel
theorem dL_1255 : decode code 1255 = .ok (.ifCond .eq 7, 3) := by decide +kernel
theorem dL_1258 : decode code 1258 = .ok (.iconst 1, 1) := by decide +kernel
theorem dL_1259 : decode code 1259 = .ok (.goto 4, 3) := by decide +kernel
theorem dL_1262 : decode code 1262 = .ok (.iconst 0, 1) := by decide +kernel
theorem dL_1263 : decode code 1263 = .ok (.aload_n 0, 1) := by decide +kernel
theorem dL_1264 : decode code 1264 = .ok (.iload_n 3, 1) := by decide +kernel
theorem dL_1265 : decode code 1265 = .ok (.iconst 3, 1) := by decide +kernel
theorem dL_1266 : decode code 1266 = .ok (.iadd, 1) := by decide +kernel
theorem dL_1267 : decode code 1267 = .ok (.iaload, 1) := by decide +kernel
theorem dL_1268 : decode code 1268 = .ok (.aload_n 0, 1) := by decide +kernel
theorem dL_1269 : decode code 1269 = .ok (.iload_n 3, 1) := by decide +kernel
theorem dL_1270 : decode code 1270 = .ok (.iconst 4, 1) := by decide +kernel
theorem dL_1271 : decode code 1271 = .ok (.iadd, 1) := by decide +kernel
theorem dL_1272 : decode code 1272 = .ok (.iaload, 1) := by decide +kernel
theorem dL_1273 : decode code 1273 = .ok (.invokevirtual 156, 3) := by decide +kernel
theorem dL_1276 : decode code 1276 = .ok (.aload_n 2, 1) := by decide +kernel
theorem dL_1277 : decode code 1277 = .ok (.aload_n 0, 1) := by decide +kernel
theorem dL_1278 : decode code 1278 = .ok (.iload_n 3, 1) := by decide +kernel
theorem dL_1279 : decode code 1279 = .ok (.iconst 1, 1) := by decide +kernel
theorem dL_1280 : decode code 1280 = .ok (.iadd, 1) := by decide +kernel
theorem dL_1281 : decode code 1281 = .ok (.iaload, 1) := by decide +kernel
theorem dL_1282 : decode code 1282 = .ok (.aload_n 0, 1) := by decide +kernel
theorem dL_1283 : decode code 1283 = .ok (.iload_n 3, 1) := by decide +kernel
theorem dL_1284 : decode code 1284 = .ok (.iconst 2, 1) := by decide +kernel
theorem dL_1285 : decode code 1285 = .ok (.iadd, 1) := by decide +kernel
theorem dL_1286 : decode code 1286 = .ok (.iaload, 1) := by decide +kernel
theorem dL_1287 : decode code 1287 = .ok (.ifCond .eq 7, 3) := by decide +kernel
theorem dL_1290 : decode code 1290 = .ok (.iconst 1, 1) := by decide +kernel
theorem dL_1291 : decode code 1291 = .ok (.goto 4, 3) := by decide +kernel
theorem dL_1294 : decode code 1294 = .ok (.iconst 0, 1) := by decide +kernel
theorem dL_1295 : decode code 1295 = .ok (.aload_n 0, 1) := by decide +kernel
theorem dL_1296 : decode code 1296 = .ok (.iload_n 3, 1) := by decide +kernel
theorem dL_1297 : decode code 1297 = .ok (.iconst 3, 1) := by decide +kernel
theorem dL_1298 : decode code 1298 = .ok (.iadd, 1) := by decide +kernel
theorem dL_1299 : decode code 1299 = .ok (.iaload, 1) := by decide +kernel
theorem dL_1300 : decode code 1300 = .ok (.aload_n 0, 1) := by decide +kernel
theorem dL_1301 : decode code 1301 = .ok (.iload_n 3, 1) := by decide +kernel
theorem dL_1302 : decode code 1302 = .ok (.iconst 4, 1) := by decide +kernel
theorem dL_1303 : decode code 1303 = .ok (.iadd, 1) := by decide +kernel
theorem dL_1304 : decode code 1304 = .ok (.iaload, 1) := by decide +kernel
theorem dL_1305 : decode code 1305 = .ok (.invokevirtual 159, 3) := by decide +kernel
theorem dL_1308 : decode code 1308 = .ok (.if_icmp .eq 341, 3) := by decide +kernel
theorem dL_1311 : decode code 1311 = .ok (.iconst 0, 1) := by decide +kernel
theorem dL_1312 : decode code 1312 = .ok (.ireturn, 1) := by decide +kernel
theorem dL_1313 : decode code 1313 = .ok (.aload_n 1, 1) := by decide +kernel
theorem dL_1314 : decode code 1314 = .ok (.aload_n 0, 1) := by decide +kernel
theorem dL_1315 : decode code 1315 = .ok (.iload_n 3, 1) := by decide +kernel
theorem dL_1316 : decode code 1316 = .ok (.iconst 1, 1) := by decide +kernel
theorem dL_1317 : decode code 1317 = .ok (.iadd, 1) := by decide +kernel
theorem dL_1318 : decode code 1318 = .ok (.iaload, 1) := by decide +kernel
theorem dL_1319 : decode code 1319 = .ok (.aload_n 0, 1) := by decide +kernel
theorem dL_1320 : decode code 1320 = .ok (.iload_n 3, 1) := by decide +kernel
theorem dL_1321 : decode code 1321 = .ok (.iconst 2, 1) := by decide +kernel
theorem dL_1322 : decode code 1322 = .ok (.iadd, 1) := by decide +kernel
theorem dL_1323 : decode code 1323 = .ok (.iaload, 1) := by decide +kernel
theorem dL_1324 : decode code 1324 = .ok (.ifCond .eq 7, 3) := by decide +kernel
theorem dL_1327 : decode code 1327 = .ok (.iconst 1, 1) := by decide +kernel
theorem dL_1328 : decode code 1328 = .ok (.goto 4, 3) := by decide +kernel
theorem dL_1331 : decode code 1331 = .ok (.iconst 0, 1) := by decide +kernel
theorem dL_1332 : decode code 1332 = .ok (.aload_n 0, 1) := by decide +kernel
theorem dL_1333 : decode code 1333 = .ok (.iload_n 3, 1) := by decide +kernel
theorem dL_1334 : decode code 1334 = .ok (.iconst 3, 1) := by decide +kernel
theorem dL_1335 : decode code 1335 = .ok (.iadd, 1) := by decide +kernel
theorem dL_1336 : decode code 1336 = .ok (.iaload, 1) := by decide +kernel
theorem dL_1337 : decode code 1337 = .ok (.aload_n 0, 1) := by decide +kernel
theorem dL_1338 : decode code 1338 = .ok (.iload_n 3, 1) := by decide +kernel
theorem dL_1339 : decode code 1339 = .ok (.iconst 4, 1) := by decide +kernel
theorem dL_1340 : decode code 1340 = .ok (.iadd, 1) := by decide +kernel
theorem dL_1341 : decode code 1341 = .ok (.iaload, 1) := by decide +kernel
theorem dL_1342 : decode code 1342 = .ok (.aload_n 0, 1) := by decide +kernel
theorem dL_1343 : decode code 1343 = .ok (.iload_n 3, 1) := by decide +kernel
theorem dL_1344 : decode code 1344 = .ok (.iconst 5, 1) := by decide +kernel
theorem dL_1345 : decode code 1345 = .ok (.iadd, 1) := by decide +kernel
theorem dL_1346 : decode code 1346 = .ok (.iaload, 1) := by decide +kernel
theorem dL_1347 : decode code 1347 = .ok (.invokevirtual 160, 3) := by decide +kernel
theorem dL_1350 : decode code 1350 = .ok (.aload_n 2, 1) := by decide +kernel
theorem dL_1351 : decode code 1351 = .ok (.aload_n 0, 1) := by decide +kernel
theorem dL_1352 : decode code 1352 = .ok (.iload_n 3, 1) := by decide +kernel
theorem dL_1353 : decode code 1353 = .ok (.iconst 1, 1) := by decide +kernel
theorem dL_1354 : decode code 1354 = .ok (.iadd, 1) := by decide +kernel
theorem dL_1355 : decode code 1355 = .ok (.iaload, 1) := by decide +kernel
theorem dL_1356 : decode code 1356 = .ok (.aload_n 0, 1) := by decide +kernel
theorem dL_1357 : decode code 1357 = .ok (.iload_n 3, 1) := by decide +kernel
theorem dL_1358 : decode code 1358 = .ok (.iconst 2, 1) := by decide +kernel
theorem dL_1359 : decode code 1359 = .ok (.iadd, 1) := by decide +kernel
theorem dL_1360 : decode code 1360 = .ok (.iaload, 1) := by decide +kernel
theorem dL_1361 : decode code 1361 = .ok (.ifCond .eq 7, 3) := by decide +kernel
theorem dL_1364 : decode code 1364 = .ok (.iconst 1, 1) := by decide +kernel
theorem dL_1365 : decode code 1365 = .ok (.goto 4, 3) := by decide +kernel
theorem dL_1368 : decode code 1368 = .ok (.iconst 0, 1) := by decide +kernel
theorem dL_1369 : decode code 1369 = .ok (.aload_n 0, 1) := by decide +kernel
theorem dL_1370 : decode code 1370 = .ok (.iload_n 3, 1) := by decide +kernel
theorem dL_1371 : decode code 1371 = .ok (.iconst 3, 1) := by decide +kernel
theorem dL_1372 : decode code 1372 = .ok (.iadd, 1) := by decide +kernel
theorem dL_1373 : decode code 1373 = .ok (.iaload, 1) := by decide +kernel
theorem dL_1374 : decode code 1374 = .ok (.aload_n 0, 1) := by decide +kernel
theorem dL_1375 : decode code 1375 = .ok (.iload_n 3, 1) := by decide +kernel
theorem dL_1376 : decode code 1376 = .ok (.iconst 4, 1) := by decide +kernel
theorem dL_1377 : decode code 1377 = .ok (.iadd, 1) := by decide +kernel
theorem dL_1378 : decode code 1378 = .ok (.iaload, 1) := by decide +kernel
theorem dL_1379 : decode code 1379 = .ok (.aload_n 0, 1) := by decide +kernel
theorem dL_1380 : decode code 1380 = .ok (.iload_n 3, 1) := by decide +kernel
theorem dL_1381 : decode code 1381 = .ok (.iconst 5, 1) := by decide +kernel
theorem dL_1382 : decode code 1382 = .ok (.iadd, 1) := by decide +kernel
theorem dL_1383 : decode code 1383 = .ok (.iaload, 1) := by decide +kernel
theorem dL_1384 : decode code 1384 = .ok (.invokevirtual 164, 3) := by decide +kernel
theorem dL_1387 : decode code 1387 = .ok (.if_icmp .eq 262, 3) := by decide +kernel
theorem dL_1390 : decode code 1390 = .ok (.iconst 0, 1) := by decide +kernel
theorem dL_1391 : decode code 1391 = .ok (.ireturn, 1) := by decide +kernel
theorem dL_1392 : decode code 1392 = .ok (.aload_n 1, 1) := by decide +kernel
theorem dL_1393 : decode code 1393 = .ok (.aload_n 0, 1) := by decide +kernel
theorem dL_1394 : decode code 1394 = .ok (.iload_n 3, 1) := by decide +kernel
theorem dL_1395 : decode code 1395 = .ok (.iconst 1, 1) := by decide +kernel
theorem dL_1396 : decode code 1396 = .ok (.iadd, 1) := by decide +kernel
theorem dL_1397 : decode code 1397 = .ok (.iaload, 1) := by decide +kernel
theorem dL_1398 : decode code 1398 = .ok (.invokevirtual 165, 3) := by decide +kernel
theorem dL_1401 : decode code 1401 = .ok (.aload_n 2, 1) := by decide +kernel
theorem dL_1402 : decode code 1402 = .ok (.aload_n 0, 1) := by decide +kernel
theorem dL_1403 : decode code 1403 = .ok (.iload_n 3, 1) := by decide +kernel
theorem dL_1404 : decode code 1404 = .ok (.iconst 1, 1) := by decide +kernel
theorem dL_1405 : decode code 1405 = .ok (.iadd, 1) := by decide +kernel
theorem dL_1406 : decode code 1406 = .ok (.iaload, 1) := by decide +kernel
theorem dL_1407 : decode code 1407 = .ok (.invokevirtual 168, 3) := by decide +kernel
theorem dL_1410 : decode code 1410 = .ok (.if_icmp .eq 239, 3) := by decide +kernel
theorem dL_1413 : decode code 1413 = .ok (.iconst 0, 1) := by decide +kernel
theorem dL_1414 : decode code 1414 = .ok (.ireturn, 1) := by decide +kernel
theorem dL_1415 : decode code 1415 = .ok (.aload_n 1, 1) := by decide +kernel
theorem dL_1416 : decode code 1416 = .ok (.aload_n 0, 1) := by decide +kernel
theorem dL_1417 : decode code 1417 = .ok (.iload_n 3, 1) := by decide +kernel
theorem dL_1418 : decode code 1418 = .ok (.iconst 1, 1) := by decide +kernel
theorem dL_1419 : decode code 1419 = .ok (.iadd, 1) := by decide +kernel
theorem dL_1420 : decode code 1420 = .ok (.iaload, 1) := by decide +kernel
theorem dL_1421 : decode code 1421 = .ok (.aload_n 0, 1) := by decide +kernel
theorem dL_1422 : decode code 1422 = .ok (.iload_n 3, 1) := by decide +kernel
theorem dL_1423 : decode code 1423 = .ok (.iconst 2, 1) := by decide +kernel
theorem dL_1424 : decode code 1424 = .ok (.iadd, 1) := by decide +kernel
theorem dL_1425 : decode code 1425 = .ok (.iaload, 1) := by decide +kernel
theorem dL_1426 : decode code 1426 = .ok (.aload_n 0, 1) := by decide +kernel
theorem dL_1427 : decode code 1427 = .ok (.iload_n 3, 1) := by decide +kernel
theorem dL_1428 : decode code 1428 = .ok (.iconst 3, 1) := by decide +kernel
theorem dL_1429 : decode code 1429 = .ok (.iadd, 1) := by decide +kernel
theorem dL_1430 : decode code 1430 = .ok (.iaload, 1) := by decide +kernel
theorem dL_1431 : decode code 1431 = .ok (.aload_n 0, 1) := by decide +kernel
theorem dL_1432 : decode code 1432 = .ok (.iload_n 3, 1) := by decide +kernel
theorem dL_1433 : decode code 1433 = .ok (.iconst 4, 1) := by decide +kernel
theorem dL_1434 : decode code 1434 = .ok (.iadd, 1) := by decide +kernel
theorem dL_1435 : decode code 1435 = .ok (.iaload, 1) := by decide +kernel
theorem dL_1436 : decode code 1436 = .ok (.invokevirtual 169, 3) := by decide +kernel
theorem dL_1439 : decode code 1439 = .ok (.aload_n 2, 1) := by decide +kernel
theorem dL_1440 : decode code 1440 = .ok (.aload_n 0, 1) := by decide +kernel
theorem dL_1441 : decode code 1441 = .ok (.iload_n 3, 1) := by decide +kernel
theorem dL_1442 : decode code 1442 = .ok (.iconst 1, 1) := by decide +kernel
theorem dL_1443 : decode code 1443 = .ok (.iadd, 1) := by decide +kernel
theorem dL_1444 : decode code 1444 = .ok (.iaload, 1) := by decide +kernel
theorem dL_1445 : decode code 1445 = .ok (.aload_n 0, 1) := by decide +kernel
theorem dL_1446 : decode code 1446 = .ok (.iload_n 3, 1) := by decide +kernel
theorem dL_1447 : decode code 1447 = .ok (.iconst 2, 1) := by decide +kernel
theorem dL_1448 : decode code 1448 = .ok (.iadd, 1) := by decide +kernel
theorem dL_1449 : decode code 1449 = .ok (.iaload, 1) := by decide +kernel
theorem dL_1450 : decode code 1450 = .ok (.aload_n 0, 1) := by decide +kernel
theorem dL_1451 : decode code 1451 = .ok (.iload_n 3, 1) := by decide +kernel
theorem dL_1452 : decode code 1452 = .ok (.iconst 3, 1) := by decide +kernel
theorem dL_1453 : decode code 1453 = .ok (.iadd, 1) := by decide +kernel
theorem dL_1454 : decode code 1454 = .ok (.iaload, 1) := by decide +kernel
theorem dL_1455 : decode code 1455 = .ok (.aload_n 0, 1) := by decide +kernel
theorem dL_1456 : decode code 1456 = .ok (.iload_n 3, 1) := by decide +kernel
theorem dL_1457 : decode code 1457 = .ok (.iconst 4, 1) := by decide +kernel
theorem dL_1458 : decode code 1458 = .ok (.iadd, 1) := by decide +kernel
theorem dL_1459 : decode code 1459 = .ok (.iaload, 1) := by decide +kernel
theorem dL_1460 : decode code 1460 = .ok (.invokevirtual 172, 3) := by decide +kernel
theorem dL_1463 : decode code 1463 = .ok (.if_icmp .eq 186, 3) := by decide +kernel
theorem dL_1466 : decode code 1466 = .ok (.iconst 0, 1) := by decide +kernel
theorem dL_1467 : decode code 1467 = .ok (.ireturn, 1) := by decide +kernel
theorem dL_1468 : decode code 1468 = .ok (.aload_n 1, 1) := by decide +kernel
theorem dL_1469 : decode code 1469 = .ok (.aload_n 0, 1) := by decide +kernel
theorem dL_1470 : decode code 1470 = .ok (.iload_n 3, 1) := by decide +kernel
theorem dL_1471 : decode code 1471 = .ok (.iconst 1, 1) := by decide +kernel
theorem dL_1472 : decode code 1472 = .ok (.iadd, 1) := by decide +kernel
theorem dL_1473 : decode code 1473 = .ok (.iaload, 1) := by decide +kernel
theorem dL_1474 : decode code 1474 = .ok (.invokevirtual 173, 3) := by decide +kernel
theorem dL_1477 : decode code 1477 = .ok (.aload_n 2, 1) := by decide +kernel
theorem dL_1478 : decode code 1478 = .ok (.aload_n 0, 1) := by decide +kernel
theorem dL_1479 : decode code 1479 = .ok (.iload_n 3, 1) := by decide +kernel
theorem dL_1480 : decode code 1480 = .ok (.iconst 1, 1) := by decide +kernel
theorem dL_1481 : decode code 1481 = .ok (.iadd, 1) := by decide +kernel
theorem dL_1482 : decode code 1482 = .ok (.iaload, 1) := by decide +kernel
theorem dL_1483 : decode code 1483 = .ok (.invokevirtual 176, 3) := by decide +kernel
theorem dL_1486 : decode code 1486 = .ok (.if_icmp .eq 163, 3) := by decide +kernel
theorem dL_1489 : decode code 1489 = .ok (.iconst 0, 1) := by decide +kernel
theorem dL_1490 : decode code 1490 = .ok (.ireturn, 1) := by decide +kernel
theorem dL_1491 : decode code 1491 = .ok (.aload_n 1, 1) := by decide +kernel
theorem dL_1492 : decode code 1492 = .ok (.aload_n 0, 1) := by decide +kernel
theorem dL_1493 : decode code 1493 = .ok (.iload_n 3, 1) := by decide +kernel
theorem dL_1494 : decode code 1494 = .ok (.iconst 1, 1) := by decide +kernel
theorem dL_1495 : decode code 1495 = .ok (.iadd, 1) := by decide +kernel
theorem dL_1496 : decode code 1496 = .ok (.iaload, 1) := by decide +kernel
theorem dL_1497 : decode code 1497 = .ok (.invokevirtual 177, 3) := by decide +kernel
theorem dL_1500 : decode code 1500 = .ok (.aload_n 2, 1) := by decide +kernel
theorem dL_1501 : decode code 1501 = .ok (.aload_n 0, 1) := by decide +kernel
theorem dL_1502 : decode code 1502 = .ok (.iload_n 3, 1) := by decide +kernel
theorem dL_1503 : decode code 1503 = .ok (.iconst 1, 1) := by decide +kernel
theorem dL_1504 : decode code 1504 = .ok (.iadd, 1) := by decide +kernel
theorem dL_1505 : decode code 1505 = .ok (.iaload, 1) := by decide +kernel
theorem dL_1506 : decode code 1506 = .ok (.invokevirtual 180, 3) := by decide +kernel
theorem dL_1509 : decode code 1509 = .ok (.if_icmp .eq 140, 3) := by decide +kernel
theorem dL_1512 : decode code 1512 = .ok (.iconst 0, 1) := by decide +kernel
theorem dL_1513 : decode code 1513 = .ok (.ireturn, 1) := by decide +kernel
theorem dL_1514 : decode code 1514 = .ok (.aload_n 1, 1) := by decide +kernel
theorem dL_1515 : decode code 1515 = .ok (.invokevirtual 181, 3) := by decide +kernel
theorem dL_1518 : decode code 1518 = .ok (.aload_n 2, 1) := by decide +kernel
theorem dL_1519 : decode code 1519 = .ok (.invokevirtual 184, 3) := by decide +kernel
theorem dL_1522 : decode code 1522 = .ok (.if_icmp .eq 127, 3) := by decide +kernel
theorem dL_1525 : decode code 1525 = .ok (.iconst 0, 1) := by decide +kernel
theorem dL_1526 : decode code 1526 = .ok (.ireturn, 1) := by decide +kernel
theorem dL_1527 : decode code 1527 = .ok (.aload_n 1, 1) := by decide +kernel
theorem dL_1528 : decode code 1528 = .ok (.aload_n 0, 1) := by decide +kernel
theorem dL_1529 : decode code 1529 = .ok (.iload_n 3, 1) := by decide +kernel
theorem dL_1530 : decode code 1530 = .ok (.iconst 1, 1) := by decide +kernel
theorem dL_1531 : decode code 1531 = .ok (.iadd, 1) := by decide +kernel
theorem dL_1532 : decode code 1532 = .ok (.iaload, 1) := by decide +kernel
theorem dL_1533 : decode code 1533 = .ok (.invokevirtual 185, 3) := by decide +kernel
theorem dL_1536 : decode code 1536 = .ok (.aload_n 2, 1) := by decide +kernel
theorem dL_1537 : decode code 1537 = .ok (.aload_n 0, 1) := by decide +kernel
theorem dL_1538 : decode code 1538 = .ok (.iload_n 3, 1) := by decide +kernel
theorem dL_1539 : decode code 1539 = .ok (.iconst 1, 1) := by decide +kernel
theorem dL_1540 : decode code 1540 = .ok (.iadd, 1) := by decide +kernel
theorem dL_1541 : decode code 1541 = .ok (.iaload, 1) := by decide +kernel
theorem dL_1542 : decode code 1542 = .ok (.invokevirtual 188, 3) := by decide +kernel
theorem dL_1545 : decode code 1545 = .ok (.if_icmp .eq 104, 3) := by decide +kernel
theorem dL_1548 : decode code 1548 = .ok (.iconst 0, 1) := by decide +kernel
theorem dL_1549 : decode code 1549 = .ok (.ireturn, 1) := by decide +kernel
theorem dL_1550 : decode code 1550 = .ok (.aload_n 1, 1) := by decide +kernel
theorem dL_1551 : decode code 1551 = .ok (.invokevirtual 189, 3) := by decide +kernel
theorem dL_1554 : decode code 1554 = .ok (.aload_n 2, 1) := by decide +kernel
theorem dL_1555 : decode code 1555 = .ok (.invokevirtual 192, 3) := by decide +kernel
theorem dL_1558 : decode code 1558 = .ok (.if_icmp .eq 91, 3) := by decide +kernel
theorem dL_1561 : decode code 1561 = .ok (.iconst 0, 1) := by decide +kernel
theorem dL_1562 : decode code 1562 = .ok (.ireturn, 1) := by decide +kernel
theorem dL_1563 : decode code 1563 = .ok (.aload_n 1, 1) := by decide +kernel
theorem dL_1564 : decode code 1564 = .ok (.invokevirtual 193, 3) := by decide +kernel
theorem dL_1567 : decode code 1567 = .ok (.aload_n 2, 1) := by decide +kernel
theorem dL_1568 : decode code 1568 = .ok (.invokevirtual 196, 3) := by decide +kernel
theorem dL_1571 : decode code 1571 = .ok (.if_icmp .eq 78, 3) := by decide +kernel
theorem dL_1574 : decode code 1574 = .ok (.iconst 0, 1) := by decide +kernel
theorem dL_1575 : decode code 1575 = .ok (.ireturn, 1) := by decide +kernel
theorem dL_1576 : decode code 1576 = .ok (.aload_n 1, 1) := by decide +kernel
theorem dL_1577 : decode code 1577 = .ok (.invokevirtual 197, 3) := by decide +kernel
theorem dL_1580 : decode code 1580 = .ok (.aload_n 2, 1) := by decide +kernel
theorem dL_1581 : decode code 1581 = .ok (.invokevirtual 200, 3) := by decide +kernel
theorem dL_1584 : decode code 1584 = .ok (.if_icmp .eq 65, 3) := by decide +kernel
theorem dL_1587 : decode code 1587 = .ok (.iconst 0, 1) := by decide +kernel
theorem dL_1588 : decode code 1588 = .ok (.ireturn, 1) := by decide +kernel
theorem dL_1589 : decode code 1589 = .ok (.aload_n 1, 1) := by decide +kernel
theorem dL_1590 : decode code 1590 = .ok (.aload_n 0, 1) := by decide +kernel
theorem dL_1591 : decode code 1591 = .ok (.iload_n 3, 1) := by decide +kernel
theorem dL_1592 : decode code 1592 = .ok (.iconst 1, 1) := by decide +kernel
theorem dL_1593 : decode code 1593 = .ok (.iadd, 1) := by decide +kernel
theorem dL_1594 : decode code 1594 = .ok (.iaload, 1) := by decide +kernel
theorem dL_1595 : decode code 1595 = .ok (.invokevirtual 201, 3) := by decide +kernel
theorem dL_1598 : decode code 1598 = .ok (.aload_n 2, 1) := by decide +kernel
theorem dL_1599 : decode code 1599 = .ok (.aload_n 0, 1) := by decide +kernel
theorem dL_1600 : decode code 1600 = .ok (.iload_n 3, 1) := by decide +kernel
theorem dL_1601 : decode code 1601 = .ok (.iconst 1, 1) := by decide +kernel
theorem dL_1602 : decode code 1602 = .ok (.iadd, 1) := by decide +kernel
theorem dL_1603 : decode code 1603 = .ok (.iaload, 1) := by decide +kernel
theorem dL_1604 : decode code 1604 = .ok (.invokevirtual 204, 3) := by decide +kernel
theorem dL_1607 : decode code 1607 = .ok (.if_icmp .eq 42, 3) := by decide +kernel
theorem dL_1610 : decode code 1610 = .ok (.iconst 0, 1) := by decide +kernel
theorem dL_1611 : decode code 1611 = .ok (.ireturn, 1) := by decide +kernel
theorem dL_1612 : decode code 1612 = .ok (.aload_n 1, 1) := by decide +kernel
theorem dL_1613 : decode code 1613 = .ok (.aload_n 0, 1) := by decide +kernel
theorem dL_1614 : decode code 1614 = .ok (.iload_n 3, 1) := by decide +kernel
theorem dL_1615 : decode code 1615 = .ok (.iconst 1, 1) := by decide +kernel
theorem dL_1616 : decode code 1616 = .ok (.iadd, 1) := by decide +kernel
theorem dL_1617 : decode code 1617 = .ok (.iaload, 1) := by decide +kernel
theorem dL_1618 : decode code 1618 = .ok (.invokevirtual 205, 3) := by decide +kernel
theorem dL_1621 : decode code 1621 = .ok (.aload_n 2, 1) := by decide +kernel
theorem dL_1622 : decode code 1622 = .ok (.aload_n 0, 1) := by decide +kernel
theorem dL_1623 : decode code 1623 = .ok (.iload_n 3, 1) := by decide +kernel
theorem dL_1624 : decode code 1624 = .ok (.iconst 1, 1) := by decide +kernel
theorem dL_1625 : decode code 1625 = .ok (.iadd, 1) := by decide +kernel
theorem dL_1626 : decode code 1626 = .ok (.iaload, 1) := by decide +kernel
theorem dL_1627 : decode code 1627 = .ok (.invokevirtual 208, 3) := by decide +kernel
theorem dL_1630 : decode code 1630 = .ok (.if_icmp .eq 19, 3) := by decide +kernel
theorem dL_1633 : decode code 1633 = .ok (.iconst 0, 1) := by decide +kernel
theorem dL_1634 : decode code 1634 = .ok (.ireturn, 1) := by decide +kernel
theorem dL_1635 : decode code 1635 = .ok (.aload_n 1, 1) := by decide +kernel
theorem dL_1636 : decode code 1636 = .ok (.invokevirtual 209, 3) := by decide +kernel
theorem dL_1639 : decode code 1639 = .ok (.aload_n 2, 1) := by decide +kernel
theorem dL_1640 : decode code 1640 = .ok (.invokevirtual 213, 3) := by decide +kernel
theorem dL_1643 : decode code 1643 = .ok (.lcmp, 1) := by decide +kernel
theorem dL_1644 : decode code 1644 = .ok (.ifCond .eq 5, 3) := by decide +kernel
theorem dL_1647 : decode code 1647 = .ok (.iconst 0, 1) := by decide +kernel
theorem dL_1648 : decode code 1648 = .ok (.ireturn, 1) := by decide +kernel
theorem dL_1649 : decode code 1649 = .ok (.iinc 3 6, 3) := by decide +kernel
theorem dL_1652 : decode code 1652 = .ok (.goto (-1634), 3) := by decide +kernel
theorem dL_1655 : decode code 1655 = .ok (.iconst 1, 1) := by decide +kernel
theorem dL_1656 : decode code 1656 = .ok (.ireturn, 1) := by decide +kernel
