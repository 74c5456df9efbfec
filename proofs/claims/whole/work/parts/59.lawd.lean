/-! ===== the law: its rows decoded ===== -/
theorem dl_0 : decode code 0 = .ok (.new 7, 3) := by decide +kernel
theorem dl_3 : decode code 3 = .ok (.dup, 1) := by decide +kernel
theorem dl_4 : decode code 4 = .ok (.invokespecial 9, 3) := by decide +kernel
theorem dl_7 : decode code 7 = .ok (.astore_n 1, 1) := by decide +kernel
theorem dl_8 : decode code 8 = .ok (.new 10, 3) := by decide +kernel
theorem dl_11 : decode code 11 = .ok (.dup, 1) := by decide +kernel
theorem dl_12 : decode code 12 = .ok (.invokespecial 12, 3) := by decide +kernel
theorem dl_15 : decode code 15 = .ok (.astore_n 2, 1) := by decide +kernel
theorem dl_16 : decode code 16 = .ok (.iconst 0, 1) := by decide +kernel
theorem dl_17 : decode code 17 = .ok (.istore_n 3, 1) := by decide +kernel
theorem dl_18 : decode code 18 = .ok (.iload_n 3, 1) := by decide +kernel
theorem dl_19 : decode code 19 = .ok (.aload_n 0, 1) := by decide +kernel
theorem dl_20 : decode code 20 = .ok (.arraylength, 1) := by decide +kernel
theorem dl_21 : decode code 21 = .ok (.bipush 6, 2) := by decide +kernel
theorem dl_23 : decode code 23 = .ok (.isub, 1) := by decide +kernel
theorem dl_24 : decode code 24 = .ok (.if_icmp .gt 1513, 3) := by decide +kernel
theorem dl_27 : decode code 27 = .ok (.aload_n 0, 1) := by decide +kernel
theorem dl_28 : decode code 28 = .ok (.iload_n 3, 1) := by decide +kernel
theorem dl_29 : decode code 29 = .ok (.iaload, 1) := by decide +kernel
theorem dl_30 : decode code 30 = .ok (.bipush 63, 2) := by decide +kernel
theorem dl_32 : decode code 32 = .ok (.iand, 1) := by decide +kernel
theorem dl_33 : decode code 33 = .ok (.tableswitch 1498 0 41 #[183, 216, 239, 282, 315, 338, 371, 394, 457, 470, 483, 496, 519, 582, 625, 658, 701, 734, 777, 800, 860, 893, 953, 976, 989, 1002, 1025, 1058, 1071, 1095, 1135, 1148, 1188, 1221, 1254, 1307, 1330, 1353, 1396, 1429, 1452, 1475], 183) := by decide +kernel
theorem dl_216 : decode code 216 = .ok (.aload_n 1, 1) := by decide +kernel
theorem dl_217 : decode code 217 = .ok (.aload_n 0, 1) := by decide +kernel
theorem dl_218 : decode code 218 = .ok (.iload_n 3, 1) := by decide +kernel
theorem dl_219 : decode code 219 = .ok (.iconst 1, 1) := by decide +kernel
theorem dl_220 : decode code 220 = .ok (.iadd, 1) := by decide +kernel
theorem dl_221 : decode code 221 = .ok (.iaload, 1) := by decide +kernel
theorem dl_222 : decode code 222 = .ok (.aload_n 0, 1) := by decide +kernel
theorem dl_223 : decode code 223 = .ok (.iload_n 3, 1) := by decide +kernel
theorem dl_224 : decode code 224 = .ok (.iconst 2, 1) := by decide +kernel
theorem dl_225 : decode code 225 = .ok (.iadd, 1) := by decide +kernel
theorem dl_226 : decode code 226 = .ok (.iaload, 1) := by decide +kernel
theorem dl_227 : decode code 227 = .ok (.invokevirtual 13, 3) := by decide +kernel
theorem dl_230 : decode code 230 = .ok (.aload_n 2, 1) := by decide +kernel
theorem dl_231 : decode code 231 = .ok (.aload_n 0, 1) := by decide +kernel
theorem dl_232 : decode code 232 = .ok (.iload_n 3, 1) := by decide +kernel
theorem dl_233 : decode code 233 = .ok (.iconst 1, 1) := by decide +kernel
theorem dl_234 : decode code 234 = .ok (.iadd, 1) := by decide +kernel
theorem dl_235 : decode code 235 = .ok (.iaload, 1) := by decide +kernel
theorem dl_236 : decode code 236 = .ok (.aload_n 0, 1) := by decide +kernel
theorem dl_237 : decode code 237 = .ok (.iload_n 3, 1) := by decide +kernel
theorem dl_238 : decode code 238 = .ok (.iconst 2, 1) := by decide +kernel
theorem dl_239 : decode code 239 = .ok (.iadd, 1) := by decide +kernel
theorem dl_240 : decode code 240 = .ok (.iaload, 1) := by decide +kernel
theorem dl_241 : decode code 241 = .ok (.invokevirtual 17, 3) := by decide +kernel
theorem dl_244 : decode code 244 = .ok (.if_icmp .eq 1287, 3) := by decide +kernel
theorem dl_247 : decode code 247 = .ok (.iconst 0, 1) := by decide +kernel
theorem dl_248 : decode code 248 = .ok (.ireturn, 1) := by decide +kernel
theorem dl_249 : decode code 249 = .ok (.aload_n 1, 1) := by decide +kernel
theorem dl_250 : decode code 250 = .ok (.aload_n 0, 1) := by decide +kernel
theorem dl_251 : decode code 251 = .ok (.iload_n 3, 1) := by decide +kernel
theorem dl_252 : decode code 252 = .ok (.iconst 1, 1) := by decide +kernel
theorem dl_253 : decode code 253 = .ok (.iadd, 1) := by decide +kernel
theorem dl_254 : decode code 254 = .ok (.iaload, 1) := by decide +kernel
theorem dl_255 : decode code 255 = .ok (.invokevirtual 18, 3) := by decide +kernel
theorem dl_258 : decode code 258 = .ok (.aload_n 2, 1) := by decide +kernel
theorem dl_259 : decode code 259 = .ok (.aload_n 0, 1) := by decide +kernel
theorem dl_260 : decode code 260 = .ok (.iload_n 3, 1) := by decide +kernel
theorem dl_261 : decode code 261 = .ok (.iconst 1, 1) := by decide +kernel
theorem dl_262 : decode code 262 = .ok (.iadd, 1) := by decide +kernel
theorem dl_263 : decode code 263 = .ok (.iaload, 1) := by decide +kernel
theorem dl_264 : decode code 264 = .ok (.invokevirtual 22, 3) := by decide +kernel
theorem dl_267 : decode code 267 = .ok (.if_icmp .eq 1264, 3) := by decide +kernel
theorem dl_270 : decode code 270 = .ok (.iconst 0, 1) := by decide +kernel
theorem dl_271 : decode code 271 = .ok (.ireturn, 1) := by decide +kernel
theorem dl_272 : decode code 272 = .ok (.aload_n 1, 1) := by decide +kernel
theorem dl_273 : decode code 273 = .ok (.aload_n 0, 1) := by decide +kernel
theorem dl_274 : decode code 274 = .ok (.iload_n 3, 1) := by decide +kernel
theorem dl_275 : decode code 275 = .ok (.iconst 1, 1) := by decide +kernel
theorem dl_276 : decode code 276 = .ok (.iadd, 1) := by decide +kernel
theorem dl_277 : decode code 277 = .ok (.iaload, 1) := by decide +kernel
theorem dl_278 : decode code 278 = .ok (.aload_n 0, 1) := by decide +kernel
theorem dl_279 : decode code 279 = .ok (.iload_n 3, 1) := by decide +kernel
theorem dl_280 : decode code 280 = .ok (.iconst 2, 1) := by decide +kernel
theorem dl_281 : decode code 281 = .ok (.iadd, 1) := by decide +kernel
theorem dl_282 : decode code 282 = .ok (.iaload, 1) := by decide +kernel
theorem dl_283 : decode code 283 = .ok (.aload_n 0, 1) := by decide +kernel
theorem dl_284 : decode code 284 = .ok (.iload_n 3, 1) := by decide +kernel
theorem dl_285 : decode code 285 = .ok (.iconst 3, 1) := by decide +kernel
theorem dl_286 : decode code 286 = .ok (.iadd, 1) := by decide +kernel
theorem dl_287 : decode code 287 = .ok (.iaload, 1) := by decide +kernel
theorem dl_288 : decode code 288 = .ok (.invokevirtual 23, 3) := by decide +kernel
theorem dl_291 : decode code 291 = .ok (.aload_n 2, 1) := by decide +kernel
theorem dl_292 : decode code 292 = .ok (.aload_n 0, 1) := by decide +kernel
theorem dl_293 : decode code 293 = .ok (.iload_n 3, 1) := by decide +kernel
theorem dl_294 : decode code 294 = .ok (.iconst 1, 1) := by decide +kernel
theorem dl_295 : decode code 295 = .ok (.iadd, 1) := by decide +kernel
theorem dl_296 : decode code 296 = .ok (.iaload, 1) := by decide +kernel
theorem dl_297 : decode code 297 = .ok (.aload_n 0, 1) := by decide +kernel
theorem dl_298 : decode code 298 = .ok (.iload_n 3, 1) := by decide +kernel
theorem dl_299 : decode code 299 = .ok (.iconst 2, 1) := by decide +kernel
theorem dl_300 : decode code 300 = .ok (.iadd, 1) := by decide +kernel
theorem dl_301 : decode code 301 = .ok (.iaload, 1) := by decide +kernel
theorem dl_302 : decode code 302 = .ok (.aload_n 0, 1) := by decide +kernel
theorem dl_303 : decode code 303 = .ok (.iload_n 3, 1) := by decide +kernel
theorem dl_304 : decode code 304 = .ok (.iconst 3, 1) := by decide +kernel
theorem dl_305 : decode code 305 = .ok (.iadd, 1) := by decide +kernel
theorem dl_306 : decode code 306 = .ok (.iaload, 1) := by decide +kernel
theorem dl_307 : decode code 307 = .ok (.invokevirtual 27, 3) := by decide +kernel
theorem dl_310 : decode code 310 = .ok (.if_icmp .eq 1221, 3) := by decide +kernel
theorem dl_313 : decode code 313 = .ok (.iconst 0, 1) := by decide +kernel
theorem dl_314 : decode code 314 = .ok (.ireturn, 1) := by decide +kernel
theorem dl_315 : decode code 315 = .ok (.aload_n 1, 1) := by decide +kernel
theorem dl_316 : decode code 316 = .ok (.aload_n 0, 1) := by decide +kernel
theorem dl_317 : decode code 317 = .ok (.iload_n 3, 1) := by decide +kernel
theorem dl_318 : decode code 318 = .ok (.iconst 1, 1) := by decide +kernel
theorem dl_319 : decode code 319 = .ok (.iadd, 1) := by decide +kernel
theorem dl_320 : decode code 320 = .ok (.iaload, 1) := by decide +kernel
theorem dl_321 : decode code 321 = .ok (.aload_n 0, 1) := by decide +kernel
theorem dl_322 : decode code 322 = .ok (.iload_n 3, 1) := by decide +kernel
theorem dl_323 : decode code 323 = .ok (.iconst 2, 1) := by decide +kernel
theorem dl_324 : decode code 324 = .ok (.iadd, 1) := by decide +kernel
theorem dl_325 : decode code 325 = .ok (.iaload, 1) := by decide +kernel
theorem dl_326 : decode code 326 = .ok (.invokevirtual 28, 3) := by decide +kernel
theorem dl_329 : decode code 329 = .ok (.aload_n 2, 1) := by decide +kernel
theorem dl_330 : decode code 330 = .ok (.aload_n 0, 1) := by decide +kernel
theorem dl_331 : decode code 331 = .ok (.iload_n 3, 1) := by decide +kernel
theorem dl_332 : decode code 332 = .ok (.iconst 1, 1) := by decide +kernel
theorem dl_333 : decode code 333 = .ok (.iadd, 1) := by decide +kernel
theorem dl_334 : decode code 334 = .ok (.iaload, 1) := by decide +kernel
theorem dl_335 : decode code 335 = .ok (.aload_n 0, 1) := by decide +kernel
theorem dl_336 : decode code 336 = .ok (.iload_n 3, 1) := by decide +kernel
theorem dl_337 : decode code 337 = .ok (.iconst 2, 1) := by decide +kernel
theorem dl_338 : decode code 338 = .ok (.iadd, 1) := by decide +kernel
theorem dl_339 : decode code 339 = .ok (.iaload, 1) := by decide +kernel
theorem dl_340 : decode code 340 = .ok (.invokevirtual 31, 3) := by decide +kernel
theorem dl_343 : decode code 343 = .ok (.if_icmp .eq 1188, 3) := by decide +kernel
theorem dl_346 : decode code 346 = .ok (.iconst 0, 1) := by decide +kernel
theorem dl_347 : decode code 347 = .ok (.ireturn, 1) := by decide +kernel
theorem dl_348 : decode code 348 = .ok (.aload_n 1, 1) := by decide +kernel
theorem dl_349 : decode code 349 = .ok (.aload_n 0, 1) := by decide +kernel
theorem dl_350 : decode code 350 = .ok (.iload_n 3, 1) := by decide +kernel
theorem dl_351 : decode code 351 = .ok (.iconst 1, 1) := by decide +kernel
theorem dl_352 : decode code 352 = .ok (.iadd, 1) := by decide +kernel
theorem dl_353 : decode code 353 = .ok (.iaload, 1) := by decide +kernel
theorem dl_354 : decode code 354 = .ok (.invokevirtual 32, 3) := by decide +kernel
theorem dl_357 : decode code 357 = .ok (.aload_n 2, 1) := by decide +kernel
theorem dl_358 : decode code 358 = .ok (.aload_n 0, 1) := by decide +kernel
theorem dl_359 : decode code 359 = .ok (.iload_n 3, 1) := by decide +kernel
theorem dl_360 : decode code 360 = .ok (.iconst 1, 1) := by decide +kernel
theorem dl_361 : decode code 361 = .ok (.iadd, 1) := by decide +kernel
theorem dl_362 : decode code 362 = .ok (.iaload, 1) := by decide +kernel
theorem dl_363 : decode code 363 = .ok (.invokevirtual 35, 3) := by decide +kernel
theorem dl_366 : decode code 366 = .ok (.if_icmp .eq 1165, 3) := by decide +kernel
theorem dl_369 : decode code 369 = .ok (.iconst 0, 1) := by decide +kernel
theorem dl_370 : decode code 370 = .ok (.ireturn, 1) := by decide +kernel
theorem dl_371 : decode code 371 = .ok (.aload_n 1, 1) := by decide +kernel
theorem dl_372 : decode code 372 = .ok (.aload_n 0, 1) := by decide +kernel
theorem dl_373 : decode code 373 = .ok (.iload_n 3, 1) := by decide +kernel
theorem dl_374 : decode code 374 = .ok (.iconst 1, 1) := by decide +kernel
theorem dl_375 : decode code 375 = .ok (.iadd, 1) := by decide +kernel
theorem dl_376 : decode code 376 = .ok (.iaload, 1) := by decide +kernel
theorem dl_377 : decode code 377 = .ok (.aload_n 0, 1) := by decide +kernel
theorem dl_378 : decode code 378 = .ok (.iload_n 3, 1) := by decide +kernel
theorem dl_379 : decode code 379 = .ok (.iconst 2, 1) := by decide +kernel
theorem dl_380 : decode code 380 = .ok (.iadd, 1) := by decide +kernel
theorem dl_381 : decode code 381 = .ok (.iaload, 1) := by decide +kernel
theorem dl_382 : decode code 382 = .ok (.invokevirtual 36, 3) := by decide +kernel
theorem dl_385 : decode code 385 = .ok (.aload_n 2, 1) := by decide +kernel
theorem dl_386 : decode code 386 = .ok (.aload_n 0, 1) := by decide +kernel
theorem dl_387 : decode code 387 = .ok (.iload_n 3, 1) := by decide +kernel
theorem dl_388 : decode code 388 = .ok (.iconst 1, 1) := by decide +kernel
theorem dl_389 : decode code 389 = .ok (.iadd, 1) := by decide +kernel
theorem dl_390 : decode code 390 = .ok (.iaload, 1) := by decide +kernel
theorem dl_391 : decode code 391 = .ok (.aload_n 0, 1) := by decide +kernel
theorem dl_392 : decode code 392 = .ok (.iload_n 3, 1) := by decide +kernel
theorem dl_393 : decode code 393 = .ok (.iconst 2, 1) := by decide +kernel
theorem dl_394 : decode code 394 = .ok (.iadd, 1) := by decide +kernel
theorem dl_395 : decode code 395 = .ok (.iaload, 1) := by decide +kernel
theorem dl_396 : decode code 396 = .ok (.invokevirtual 39, 3) := by decide +kernel
theorem dl_399 : decode code 399 = .ok (.if_icmp .eq 1132, 3) := by decide +kernel
theorem dl_402 : decode code 402 = .ok (.iconst 0, 1) := by decide +kernel
theorem dl_403 : decode code 403 = .ok (.ireturn, 1) := by decide +kernel
theorem dl_404 : decode code 404 = .ok (.aload_n 1, 1) := by decide +kernel
theorem dl_405 : decode code 405 = .ok (.aload_n 0, 1) := by decide +kernel
theorem dl_406 : decode code 406 = .ok (.iload_n 3, 1) := by decide +kernel
theorem dl_407 : decode code 407 = .ok (.iconst 1, 1) := by decide +kernel
theorem dl_408 : decode code 408 = .ok (.iadd, 1) := by decide +kernel
theorem dl_409 : decode code 409 = .ok (.iaload, 1) := by decide +kernel
theorem dl_410 : decode code 410 = .ok (.invokevirtual 40, 3) := by decide +kernel
theorem dl_413 : decode code 413 = .ok (.aload_n 2, 1) := by decide +kernel
theorem dl_414 : decode code 414 = .ok (.aload_n 0, 1) := by decide +kernel
theorem dl_415 : decode code 415 = .ok (.iload_n 3, 1) := by decide +kernel
theorem dl_416 : decode code 416 = .ok (.iconst 1, 1) := by decide +kernel
theorem dl_417 : decode code 417 = .ok (.iadd, 1) := by decide +kernel
theorem dl_418 : decode code 418 = .ok (.iaload, 1) := by decide +kernel
theorem dl_419 : decode code 419 = .ok (.invokevirtual 43, 3) := by decide +kernel
theorem dl_422 : decode code 422 = .ok (.if_icmp .eq 1109, 3) := by decide +kernel
theorem dl_425 : decode code 425 = .ok (.iconst 0, 1) := by decide +kernel
theorem dl_426 : decode code 426 = .ok (.ireturn, 1) := by decide +kernel
theorem dl_427 : decode code 427 = .ok (.aload_n 1, 1) := by decide +kernel
theorem dl_428 : decode code 428 = .ok (.aload_n 0, 1) := by decide +kernel
theorem dl_429 : decode code 429 = .ok (.iload_n 3, 1) := by decide +kernel
theorem dl_430 : decode code 430 = .ok (.iconst 1, 1) := by decide +kernel
theorem dl_431 : decode code 431 = .ok (.iadd, 1) := by decide +kernel
theorem dl_432 : decode code 432 = .ok (.iaload, 1) := by decide +kernel
theorem dl_433 : decode code 433 = .ok (.aload_n 0, 1) := by decide +kernel
theorem dl_434 : decode code 434 = .ok (.iload_n 3, 1) := by decide +kernel
theorem dl_435 : decode code 435 = .ok (.iconst 2, 1) := by decide +kernel
theorem dl_436 : decode code 436 = .ok (.iadd, 1) := by decide +kernel
theorem dl_437 : decode code 437 = .ok (.iaload, 1) := by decide +kernel
theorem dl_438 : decode code 438 = .ok (.i2l, 1) := by decide +kernel
theorem dl_439 : decode code 439 = .ok (.bipush 32, 2) := by decide +kernel
theorem dl_441 : decode code 441 = .ok (.lshl, 1) := by decide +kernel
theorem dl_442 : decode code 442 = .ok (.aload_n 0, 1) := by decide +kernel
theorem dl_443 : decode code 443 = .ok (.iload_n 3, 1) := by decide +kernel
theorem dl_444 : decode code 444 = .ok (.iconst 3, 1) := by decide +kernel
theorem dl_445 : decode code 445 = .ok (.iadd, 1) := by decide +kernel
theorem dl_446 : decode code 446 = .ok (.iaload, 1) := by decide +kernel
theorem dl_447 : decode code 447 = .ok (.i2l, 1) := by decide +kernel
theorem dl_448 : decode code 448 = .ok (.ldc2_w 44, 3) := by decide +kernel
theorem dl_451 : decode code 451 = .ok (.land, 1) := by decide +kernel
theorem dl_452 : decode code 452 = .ok (.lor, 1) := by decide +kernel
theorem dl_453 : decode code 453 = .ok (.invokevirtual 46, 3) := by decide +kernel
theorem dl_456 : decode code 456 = .ok (.aload_n 2, 1) := by decide +kernel
theorem dl_457 : decode code 457 = .ok (.aload_n 0, 1) := by decide +kernel
theorem dl_458 : decode code 458 = .ok (.iload_n 3, 1) := by decide +kernel
theorem dl_459 : decode code 459 = .ok (.iconst 1, 1) := by decide +kernel
theorem dl_460 : decode code 460 = .ok (.iadd, 1) := by decide +kernel
theorem dl_461 : decode code 461 = .ok (.iaload, 1) := by decide +kernel
theorem dl_462 : decode code 462 = .ok (.aload_n 0, 1) := by decide +kernel
theorem dl_463 : decode code 463 = .ok (.iload_n 3, 1) := by decide +kernel
theorem dl_464 : decode code 464 = .ok (.iconst 2, 1) := by decide +kernel
theorem dl_465 : decode code 465 = .ok (.iadd, 1) := by decide +kernel
theorem dl_466 : decode code 466 = .ok (.iaload, 1) := by decide +kernel
theorem dl_467 : decode code 467 = .ok (.i2l, 1) := by decide +kernel
theorem dl_468 : decode code 468 = .ok (.bipush 32, 2) := by decide +kernel
theorem dl_470 : decode code 470 = .ok (.lshl, 1) := by decide +kernel
theorem dl_471 : decode code 471 = .ok (.aload_n 0, 1) := by decide +kernel
theorem dl_472 : decode code 472 = .ok (.iload_n 3, 1) := by decide +kernel
theorem dl_473 : decode code 473 = .ok (.iconst 3, 1) := by decide +kernel
theorem dl_474 : decode code 474 = .ok (.iadd, 1) := by decide +kernel
theorem dl_475 : decode code 475 = .ok (.iaload, 1) := by decide +kernel
theorem dl_476 : decode code 476 = .ok (.i2l, 1) := by decide +kernel
theorem dl_477 : decode code 477 = .ok (.ldc2_w 44, 3) := by decide +kernel
theorem dl_480 : decode code 480 = .ok (.land, 1) := by decide +kernel
theorem dl_481 : decode code 481 = .ok (.lor, 1) := by decide +kernel
theorem dl_482 : decode code 482 = .ok (.invokevirtual 50, 3) := by decide +kernel
theorem dl_485 : decode code 485 = .ok (.if_icmp .eq 1046, 3) := by decide +kernel
theorem dl_488 : decode code 488 = .ok (.iconst 0, 1) := by decide +kernel
theorem dl_489 : decode code 489 = .ok (.ireturn, 1) := by decide +kernel
theorem dl_490 : decode code 490 = .ok (.aload_n 1, 1) := by decide +kernel
theorem dl_491 : decode code 491 = .ok (.invokevirtual 51, 3) := by decide +kernel
theorem dl_494 : decode code 494 = .ok (.aload_n 2, 1) := by decide +kernel
theorem dl_495 : decode code 495 = .ok (.invokevirtual 55, 3) := by decide +kernel
theorem dl_498 : decode code 498 = .ok (.if_icmp .eq 1033, 3) := by decide +kernel
theorem dl_501 : decode code 501 = .ok (.iconst 0, 1) := by decide +kernel
theorem dl_502 : decode code 502 = .ok (.ireturn, 1) := by decide +kernel
theorem dl_503 : decode code 503 = .ok (.aload_n 1, 1) := by decide +kernel
theorem dl_504 : decode code 504 = .ok (.invokevirtual 56, 3) := by decide +kernel
theorem dl_507 : decode code 507 = .ok (.aload_n 2, 1) := by decide +kernel
theorem dl_508 : decode code 508 = .ok (.invokevirtual 59, 3) := by decide +kernel
theorem dl_511 : decode code 511 = .ok (.if_icmp .eq 1020, 3) := by decide +kernel
theorem dl_514 : decode code 514 = .ok (.iconst 0, 1) := by decide +kernel
theorem dl_515 : decode code 515 = .ok (.ireturn, 1) := by decide +kernel
theorem dl_516 : decode code 516 = .ok (.aload_n 1, 1) := by decide +kernel
theorem dl_517 : decode code 517 = .ok (.invokevirtual 60, 3) := by decide +kernel
theorem dl_520 : decode code 520 = .ok (.aload_n 2, 1) := by decide +kernel
theorem dl_521 : decode code 521 = .ok (.invokevirtual 63, 3) := by decide +kernel
theorem dl_524 : decode code 524 = .ok (.if_icmp .eq 1007, 3) := by decide +kernel
theorem dl_527 : decode code 527 = .ok (.iconst 0, 1) := by decide +kernel
theorem dl_528 : decode code 528 = .ok (.ireturn, 1) := by decide +kernel
theorem dl_529 : decode code 529 = .ok (.aload_n 1, 1) := by decide +kernel
theorem dl_530 : decode code 530 = .ok (.aload_n 0, 1) := by decide +kernel
theorem dl_531 : decode code 531 = .ok (.iload_n 3, 1) := by decide +kernel
theorem dl_532 : decode code 532 = .ok (.iconst 1, 1) := by decide +kernel
theorem dl_533 : decode code 533 = .ok (.iadd, 1) := by decide +kernel
theorem dl_534 : decode code 534 = .ok (.iaload, 1) := by decide +kernel
theorem dl_535 : decode code 535 = .ok (.invokevirtual 64, 3) := by decide +kernel
theorem dl_538 : decode code 538 = .ok (.aload_n 2, 1) := by decide +kernel
theorem dl_539 : decode code 539 = .ok (.aload_n 0, 1) := by decide +kernel
theorem dl_540 : decode code 540 = .ok (.iload_n 3, 1) := by decide +kernel
theorem dl_541 : decode code 541 = .ok (.iconst 1, 1) := by decide +kernel
theorem dl_542 : decode code 542 = .ok (.iadd, 1) := by decide +kernel
theorem dl_543 : decode code 543 = .ok (.iaload, 1) := by decide +kernel
theorem dl_544 : decode code 544 = .ok (.invokevirtual 67, 3) := by decide +kernel
theorem dl_547 : decode code 547 = .ok (.if_icmp .eq 984, 3) := by decide +kernel
theorem dl_550 : decode code 550 = .ok (.iconst 0, 1) := by decide +kernel
theorem dl_551 : decode code 551 = .ok (.ireturn, 1) := by decide +kernel
theorem dl_552 : decode code 552 = .ok (.aload_n 1, 1) := by decide +kernel
theorem dl_553 : decode code 553 = .ok (.aload_n 0, 1) := by decide +kernel
theorem dl_554 : decode code 554 = .ok (.iload_n 3, 1) := by decide +kernel
theorem dl_555 : decode code 555 = .ok (.iconst 1, 1) := by decide +kernel
theorem dl_556 : decode code 556 = .ok (.iadd, 1) := by decide +kernel
theorem dl_557 : decode code 557 = .ok (.iaload, 1) := by decide +kernel
theorem dl_558 : decode code 558 = .ok (.aload_n 0, 1) := by decide +kernel
theorem dl_559 : decode code 559 = .ok (.iload_n 3, 1) := by decide +kernel
theorem dl_560 : decode code 560 = .ok (.iconst 2, 1) := by decide +kernel
theorem dl_561 : decode code 561 = .ok (.iadd, 1) := by decide +kernel
theorem dl_562 : decode code 562 = .ok (.iaload, 1) := by decide +kernel
theorem dl_563 : decode code 563 = .ok (.aload_n 0, 1) := by decide +kernel
theorem dl_564 : decode code 564 = .ok (.iload_n 3, 1) := by decide +kernel
theorem dl_565 : decode code 565 = .ok (.iconst 3, 1) := by decide +kernel
theorem dl_566 : decode code 566 = .ok (.iadd, 1) := by decide +kernel
theorem dl_567 : decode code 567 = .ok (.iaload, 1) := by decide +kernel
theorem dl_568 : decode code 568 = .ok (.aload_n 0, 1) := by decide +kernel
theorem dl_569 : decode code 569 = .ok (.iload_n 3, 1) := by decide +kernel
theorem dl_570 : decode code 570 = .ok (.iconst 4, 1) := by decide +kernel
theorem dl_571 : decode code 571 = .ok (.iadd, 1) := by decide +kernel
theorem dl_572 : decode code 572 = .ok (.iaload, 1) := by decide +kernel
theorem dl_573 : decode code 573 = .ok (.aload_n 0, 1) := by decide +kernel
theorem dl_574 : decode code 574 = .ok (.iload_n 3, 1) := by decide +kernel
theorem dl_575 : decode code 575 = .ok (.iconst 5, 1) := by decide +kernel
theorem dl_576 : decode code 576 = .ok (.iadd, 1) := by decide +kernel
theorem dl_577 : decode code 577 = .ok (.iaload, 1) := by decide +kernel
theorem dl_578 : decode code 578 = .ok (.invokevirtual 68, 3) := by decide +kernel
theorem dl_581 : decode code 581 = .ok (.aload_n 2, 1) := by decide +kernel
theorem dl_582 : decode code 582 = .ok (.aload_n 0, 1) := by decide +kernel
theorem dl_583 : decode code 583 = .ok (.iload_n 3, 1) := by decide +kernel
theorem dl_584 : decode code 584 = .ok (.iconst 1, 1) := by decide +kernel
theorem dl_585 : decode code 585 = .ok (.iadd, 1) := by decide +kernel
theorem dl_586 : decode code 586 = .ok (.iaload, 1) := by decide +kernel
theorem dl_587 : decode code 587 = .ok (.aload_n 0, 1) := by decide +kernel
theorem dl_588 : decode code 588 = .ok (.iload_n 3, 1) := by decide +kernel
theorem dl_589 : decode code 589 = .ok (.iconst 2, 1) := by decide +kernel
theorem dl_590 : decode code 590 = .ok (.iadd, 1) := by decide +kernel
theorem dl_591 : decode code 591 = .ok (.iaload, 1) := by decide +kernel
theorem dl_592 : decode code 592 = .ok (.aload_n 0, 1) := by decide +kernel
theorem dl_593 : decode code 593 = .ok (.iload_n 3, 1) := by decide +kernel
theorem dl_594 : decode code 594 = .ok (.iconst 3, 1) := by decide +kernel
theorem dl_595 : decode code 595 = .ok (.iadd, 1) := by decide +kernel
theorem dl_596 : decode code 596 = .ok (.iaload, 1) := by decide +kernel
theorem dl_597 : decode code 597 = .ok (.aload_n 0, 1) := by decide +kernel
theorem dl_598 : decode code 598 = .ok (.iload_n 3, 1) := by decide +kernel
theorem dl_599 : decode code 599 = .ok (.iconst 4, 1) := by decide +kernel
theorem dl_600 : decode code 600 = .ok (.iadd, 1) := by decide +kernel
theorem dl_601 : decode code 601 = .ok (.iaload, 1) := by decide +kernel
theorem dl_602 : decode code 602 = .ok (.aload_n 0, 1) := by decide +kernel
theorem dl_603 : decode code 603 = .ok (.iload_n 3, 1) := by decide +kernel
theorem dl_604 : decode code 604 = .ok (.iconst 5, 1) := by decide +kernel
theorem dl_605 : decode code 605 = .ok (.iadd, 1) := by decide +kernel
theorem dl_606 : decode code 606 = .ok (.iaload, 1) := by decide +kernel
theorem dl_607 : decode code 607 = .ok (.invokevirtual 72, 3) := by decide +kernel
theorem dl_610 : decode code 610 = .ok (.if_icmp .eq 921, 3) := by decide +kernel
theorem dl_613 : decode code 613 = .ok (.iconst 0, 1) := by decide +kernel
theorem dl_614 : decode code 614 = .ok (.ireturn, 1) := by decide +kernel
theorem dl_615 : decode code 615 = .ok (.aload_n 1, 1) := by decide +kernel
theorem dl_616 : decode code 616 = .ok (.aload_n 0, 1) := by decide +kernel
theorem dl_617 : decode code 617 = .ok (.iload_n 3, 1) := by decide +kernel
theorem dl_618 : decode code 618 = .ok (.iconst 1, 1) := by decide +kernel
theorem dl_619 : decode code 619 = .ok (.iadd, 1) := by decide +kernel
theorem dl_620 : decode code 620 = .ok (.iaload, 1) := by decide +kernel
theorem dl_621 : decode code 621 = .ok (.aload_n 0, 1) := by decide +kernel
theorem dl_622 : decode code 622 = .ok (.iload_n 3, 1) := by decide +kernel
theorem dl_623 : decode code 623 = .ok (.iconst 2, 1) := by decide +kernel
theorem dl_624 : decode code 624 = .ok (.iadd, 1) := by decide +kernel
theorem dl_625 : decode code 625 = .ok (.iaload, 1) := by decide +kernel
theorem dl_626 : decode code 626 = .ok (.aload_n 0, 1) := by decide +kernel
theorem dl_627 : decode code 627 = .ok (.iload_n 3, 1) := by decide +kernel
theorem dl_628 : decode code 628 = .ok (.iconst 3, 1) := by decide +kernel
theorem dl_629 : decode code 629 = .ok (.iadd, 1) := by decide +kernel
theorem dl_630 : decode code 630 = .ok (.iaload, 1) := by decide +kernel
theorem dl_631 : decode code 631 = .ok (.invokevirtual 73, 3) := by decide +kernel
theorem dl_634 : decode code 634 = .ok (.aload_n 2, 1) := by decide +kernel
theorem dl_635 : decode code 635 = .ok (.aload_n 0, 1) := by decide +kernel
theorem dl_636 : decode code 636 = .ok (.iload_n 3, 1) := by decide +kernel
theorem dl_637 : decode code 637 = .ok (.iconst 1, 1) := by decide +kernel
theorem dl_638 : decode code 638 = .ok (.iadd, 1) := by decide +kernel
theorem dl_639 : decode code 639 = .ok (.iaload, 1) := by decide +kernel
theorem dl_640 : decode code 640 = .ok (.aload_n 0, 1) := by decide +kernel
theorem dl_641 : decode code 641 = .ok (.iload_n 3, 1) := by decide +kernel
theorem dl_642 : decode code 642 = .ok (.iconst 2, 1) := by decide +kernel
theorem dl_643 : decode code 643 = .ok (.iadd, 1) := by decide +kernel
theorem dl_644 : decode code 644 = .ok (.iaload, 1) := by decide +kernel
theorem dl_645 : decode code 645 = .ok (.aload_n 0, 1) := by decide +kernel
theorem dl_646 : decode code 646 = .ok (.iload_n 3, 1) := by decide +kernel
theorem dl_647 : decode code 647 = .ok (.iconst 3, 1) := by decide +kernel
theorem dl_648 : decode code 648 = .ok (.iadd, 1) := by decide +kernel
theorem dl_649 : decode code 649 = .ok (.iaload, 1) := by decide +kernel
theorem dl_650 : decode code 650 = .ok (.invokevirtual 76, 3) := by decide +kernel
theorem dl_653 : decode code 653 = .ok (.if_icmp .eq 878, 3) := by decide +kernel
theorem dl_656 : decode code 656 = .ok (.iconst 0, 1) := by decide +kernel
theorem dl_657 : decode code 657 = .ok (.ireturn, 1) := by decide +kernel
theorem dl_658 : decode code 658 = .ok (.aload_n 1, 1) := by decide +kernel
theorem dl_659 : decode code 659 = .ok (.aload_n 0, 1) := by decide +kernel
theorem dl_660 : decode code 660 = .ok (.iload_n 3, 1) := by decide +kernel
theorem dl_661 : decode code 661 = .ok (.iconst 1, 1) := by decide +kernel
theorem dl_662 : decode code 662 = .ok (.iadd, 1) := by decide +kernel
theorem dl_663 : decode code 663 = .ok (.iaload, 1) := by decide +kernel
theorem dl_664 : decode code 664 = .ok (.aload_n 0, 1) := by decide +kernel
theorem dl_665 : decode code 665 = .ok (.iload_n 3, 1) := by decide +kernel
theorem dl_666 : decode code 666 = .ok (.iconst 2, 1) := by decide +kernel
theorem dl_667 : decode code 667 = .ok (.iadd, 1) := by decide +kernel
theorem dl_668 : decode code 668 = .ok (.iaload, 1) := by decide +kernel
theorem dl_669 : decode code 669 = .ok (.invokevirtual 77, 3) := by decide +kernel
theorem dl_672 : decode code 672 = .ok (.aload_n 2, 1) := by decide +kernel
theorem dl_673 : decode code 673 = .ok (.aload_n 0, 1) := by decide +kernel
theorem dl_674 : decode code 674 = .ok (.iload_n 3, 1) := by decide +kernel
theorem dl_675 : decode code 675 = .ok (.iconst 1, 1) := by decide +kernel
theorem dl_676 : decode code 676 = .ok (.iadd, 1) := by decide +kernel
theorem dl_677 : decode code 677 = .ok (.iaload, 1) := by decide +kernel
theorem dl_678 : decode code 678 = .ok (.aload_n 0, 1) := by decide +kernel
theorem dl_679 : decode code 679 = .ok (.iload_n 3, 1) := by decide +kernel
theorem dl_680 : decode code 680 = .ok (.iconst 2, 1) := by decide +kernel
theorem dl_681 : decode code 681 = .ok (.iadd, 1) := by decide +kernel
theorem dl_682 : decode code 682 = .ok (.iaload, 1) := by decide +kernel
theorem dl_683 : decode code 683 = .ok (.invokevirtual 80, 3) := by decide +kernel
theorem dl_686 : decode code 686 = .ok (.if_icmp .eq 845, 3) := by decide +kernel
theorem dl_689 : decode code 689 = .ok (.iconst 0, 1) := by decide +kernel
theorem dl_690 : decode code 690 = .ok (.ireturn, 1) := by decide +kernel
theorem dl_691 : decode code 691 = .ok (.aload_n 1, 1) := by decide +kernel
theorem dl_692 : decode code 692 = .ok (.aload_n 0, 1) := by decide +kernel
theorem dl_693 : decode code 693 = .ok (.iload_n 3, 1) := by decide +kernel
theorem dl_694 : decode code 694 = .ok (.iconst 1, 1) := by decide +kernel
theorem dl_695 : decode code 695 = .ok (.iadd, 1) := by decide +kernel
theorem dl_696 : decode code 696 = .ok (.iaload, 1) := by decide +kernel
theorem dl_697 : decode code 697 = .ok (.aload_n 0, 1) := by decide +kernel
theorem dl_698 : decode code 698 = .ok (.iload_n 3, 1) := by decide +kernel
theorem dl_699 : decode code 699 = .ok (.iconst 2, 1) := by decide +kernel
theorem dl_700 : decode code 700 = .ok (.iadd, 1) := by decide +kernel
theorem dl_701 : decode code 701 = .ok (.iaload, 1) := by decide +kernel
theorem dl_702 : decode code 702 = .ok (.aload_n 0, 1) := by decide +kernel
theorem dl_703 : decode code 703 = .ok (.iload_n 3, 1) := by decide +kernel
theorem dl_704 : decode code 704 = .ok (.iconst 3, 1) := by decide +kernel
theorem dl_705 : decode code 705 = .ok (.iadd, 1) := by decide +kernel
theorem dl_706 : decode code 706 = .ok (.iaload, 1) := by decide +kernel
theorem dl_707 : decode code 707 = .ok (.invokevirtual 81, 3) := by decide +kernel
theorem dl_710 : decode code 710 = .ok (.aload_n 2, 1) := by decide +kernel
theorem dl_711 : decode code 711 = .ok (.aload_n 0, 1) := by decide +kernel
theorem dl_712 : decode code 712 = .ok (.iload_n 3, 1) := by decide +kernel
theorem dl_713 : decode code 713 = .ok (.iconst 1, 1) := by decide +kernel
theorem dl_714 : decode code 714 = .ok (.iadd, 1) := by decide +kernel
theorem dl_715 : decode code 715 = .ok (.iaload, 1) := by decide +kernel
theorem dl_716 : decode code 716 = .ok (.aload_n 0, 1) := by decide +kernel
theorem dl_717 : decode code 717 = .ok (.iload_n 3, 1) := by decide +kernel
theorem dl_718 : decode code 718 = .ok (.iconst 2, 1) := by decide +kernel
theorem dl_719 : decode code 719 = .ok (.iadd, 1) := by decide +kernel
theorem dl_720 : decode code 720 = .ok (.iaload, 1) := by decide +kernel
theorem dl_721 : decode code 721 = .ok (.aload_n 0, 1) := by decide +kernel
theorem dl_722 : decode code 722 = .ok (.iload_n 3, 1) := by decide +kernel
theorem dl_723 : decode code 723 = .ok (.iconst 3, 1) := by decide +kernel
theorem dl_724 : decode code 724 = .ok (.iadd, 1) := by decide +kernel
theorem dl_725 : decode code 725 = .ok (.iaload, 1) := by decide +kernel
theorem dl_726 : decode code 726 = .ok (.invokevirtual 84, 3) := by decide +kernel
theorem dl_729 : decode code 729 = .ok (.if_icmp .eq 802, 3) := by decide +kernel
theorem dl_732 : decode code 732 = .ok (.iconst 0, 1) := by decide +kernel
theorem dl_733 : decode code 733 = .ok (.ireturn, 1) := by decide +kernel
theorem dl_734 : decode code 734 = .ok (.aload_n 1, 1) := by decide +kernel
theorem dl_735 : decode code 735 = .ok (.aload_n 0, 1) := by decide +kernel
theorem dl_736 : decode code 736 = .ok (.iload_n 3, 1) := by decide +kernel
theorem dl_737 : decode code 737 = .ok (.iconst 1, 1) := by decide +kernel
theorem dl_738 : decode code 738 = .ok (.iadd, 1) := by decide +kernel
theorem dl_739 : decode code 739 = .ok (.iaload, 1) := by decide +kernel
theorem dl_740 : decode code 740 = .ok (.aload_n 0, 1) := by decide +kernel
theorem dl_741 : decode code 741 = .ok (.iload_n 3, 1) := by decide +kernel
theorem dl_742 : decode code 742 = .ok (.iconst 2, 1) := by decide +kernel
theorem dl_743 : decode code 743 = .ok (.iadd, 1) := by decide +kernel
theorem dl_744 : decode code 744 = .ok (.iaload, 1) := by decide +kernel
theorem dl_745 : decode code 745 = .ok (.invokevirtual 85, 3) := by decide +kernel
theorem dl_748 : decode code 748 = .ok (.aload_n 2, 1) := by decide +kernel
theorem dl_749 : decode code 749 = .ok (.aload_n 0, 1) := by decide +kernel
theorem dl_750 : decode code 750 = .ok (.iload_n 3, 1) := by decide +kernel
theorem dl_751 : decode code 751 = .ok (.iconst 1, 1) := by decide +kernel
theorem dl_752 : decode code 752 = .ok (.iadd, 1) := by decide +kernel
theorem dl_753 : decode code 753 = .ok (.iaload, 1) := by decide +kernel
theorem dl_754 : decode code 754 = .ok (.aload_n 0, 1) := by decide +kernel
theorem dl_755 : decode code 755 = .ok (.iload_n 3, 1) := by decide +kernel
theorem dl_756 : decode code 756 = .ok (.iconst 2, 1) := by decide +kernel
theorem dl_757 : decode code 757 = .ok (.iadd, 1) := by decide +kernel
theorem dl_758 : decode code 758 = .ok (.iaload, 1) := by decide +kernel
theorem dl_759 : decode code 759 = .ok (.invokevirtual 88, 3) := by decide +kernel
theorem dl_762 : decode code 762 = .ok (.if_icmp .eq 769, 3) := by decide +kernel
theorem dl_765 : decode code 765 = .ok (.iconst 0, 1) := by decide +kernel
theorem dl_766 : decode code 766 = .ok (.ireturn, 1) := by decide +kernel
theorem dl_767 : decode code 767 = .ok (.aload_n 1, 1) := by decide +kernel
theorem dl_768 : decode code 768 = .ok (.aload_n 0, 1) := by decide +kernel
theorem dl_769 : decode code 769 = .ok (.iload_n 3, 1) := by decide +kernel
theorem dl_770 : decode code 770 = .ok (.iconst 1, 1) := by decide +kernel
theorem dl_771 : decode code 771 = .ok (.iadd, 1) := by decide +kernel
theorem dl_772 : decode code 772 = .ok (.iaload, 1) := by decide +kernel
theorem dl_773 : decode code 773 = .ok (.aload_n 0, 1) := by decide +kernel
theorem dl_774 : decode code 774 = .ok (.iload_n 3, 1) := by decide +kernel
theorem dl_775 : decode code 775 = .ok (.iconst 2, 1) := by decide +kernel
theorem dl_776 : decode code 776 = .ok (.iadd, 1) := by decide +kernel
theorem dl_777 : decode code 777 = .ok (.iaload, 1) := by decide +kernel
theorem dl_778 : decode code 778 = .ok (.aload_n 0, 1) := by decide +kernel
theorem dl_779 : decode code 779 = .ok (.iload_n 3, 1) := by decide +kernel
theorem dl_780 : decode code 780 = .ok (.iconst 3, 1) := by decide +kernel
theorem dl_781 : decode code 781 = .ok (.iadd, 1) := by decide +kernel
theorem dl_782 : decode code 782 = .ok (.iaload, 1) := by decide +kernel
theorem dl_783 : decode code 783 = .ok (.invokevirtual 89, 3) := by decide +kernel
theorem dl_786 : decode code 786 = .ok (.aload_n 2, 1) := by decide +kernel
theorem dl_787 : decode code 787 = .ok (.aload_n 0, 1) := by decide +kernel
theorem dl_788 : decode code 788 = .ok (.iload_n 3, 1) := by decide +kernel
theorem dl_789 : decode code 789 = .ok (.iconst 1, 1) := by decide +kernel
theorem dl_790 : decode code 790 = .ok (.iadd, 1) := by decide +kernel
theorem dl_791 : decode code 791 = .ok (.iaload, 1) := by decide +kernel
theorem dl_792 : decode code 792 = .ok (.aload_n 0, 1) := by decide +kernel
theorem dl_793 : decode code 793 = .ok (.iload_n 3, 1) := by decide +kernel
theorem dl_794 : decode code 794 = .ok (.iconst 2, 1) := by decide +kernel
theorem dl_795 : decode code 795 = .ok (.iadd, 1) := by decide +kernel
theorem dl_796 : decode code 796 = .ok (.iaload, 1) := by decide +kernel
theorem dl_797 : decode code 797 = .ok (.aload_n 0, 1) := by decide +kernel
theorem dl_798 : decode code 798 = .ok (.iload_n 3, 1) := by decide +kernel
theorem dl_799 : decode code 799 = .ok (.iconst 3, 1) := by decide +kernel
theorem dl_800 : decode code 800 = .ok (.iadd, 1) := by decide +kernel
theorem dl_801 : decode code 801 = .ok (.iaload, 1) := by decide +kernel
theorem dl_802 : decode code 802 = .ok (.invokevirtual 92, 3) := by decide +kernel
theorem dl_805 : decode code 805 = .ok (.if_icmp .eq 726, 3) := by decide +kernel
theorem dl_808 : decode code 808 = .ok (.iconst 0, 1) := by decide +kernel
theorem dl_809 : decode code 809 = .ok (.ireturn, 1) := by decide +kernel
theorem dl_810 : decode code 810 = .ok (.aload_n 1, 1) := by decide +kernel
theorem dl_811 : decode code 811 = .ok (.aload_n 0, 1) := by decide +kernel
theorem dl_812 : decode code 812 = .ok (.iload_n 3, 1) := by decide +kernel
theorem dl_813 : decode code 813 = .ok (.iconst 1, 1) := by decide +kernel
theorem dl_814 : decode code 814 = .ok (.iadd, 1) := by decide +kernel
theorem dl_815 : decode code 815 = .ok (.iaload, 1) := by decide +kernel
theorem dl_816 : decode code 816 = .ok (.invokevirtual 93, 3) := by decide +kernel
theorem dl_819 : decode code 819 = .ok (.aload_n 2, 1) := by decide +kernel
theorem dl_820 : decode code 820 = .ok (.aload_n 0, 1) := by decide +kernel
theorem dl_821 : decode code 821 = .ok (.iload_n 3, 1) := by decide +kernel
theorem dl_822 : decode code 822 = .ok (.iconst 1, 1) := by decide +kernel
theorem dl_823 : decode code 823 = .ok (.iadd, 1) := by decide +kernel
theorem dl_824 : decode code 824 = .ok (.iaload, 1) := by decide +kernel
theorem dl_825 : decode code 825 = .ok (.invokevirtual 96, 3) := by decide +kernel
theorem dl_828 : decode code 828 = .ok (.if_icmp .eq 703, 3) := by decide +kernel
theorem dl_831 : decode code 831 = .ok (.iconst 0, 1) := by decide +kernel
theorem dl_832 : decode code 832 = .ok (.ireturn, 1) := by decide +kernel
theorem dl_833 : decode code 833 = .ok (.aload_n 1, 1) := by decide +kernel
theorem dl_834 : decode code 834 = .ok (.aload_n 0, 1) := by decide +kernel
theorem dl_835 : decode code 835 = .ok (.iload_n 3, 1) := by decide +kernel
theorem dl_836 : decode code 836 = .ok (.iconst 1, 1) := by decide +kernel
theorem dl_837 : decode code 837 = .ok (.iadd, 1) := by decide +kernel
theorem dl_838 : decode code 838 = .ok (.iaload, 1) := by decide +kernel
theorem dl_839 : decode code 839 = .ok (.aload_n 0, 1) := by decide +kernel
theorem dl_840 : decode code 840 = .ok (.iload_n 3, 1) := by decide +kernel
theorem dl_841 : decode code 841 = .ok (.iconst 2, 1) := by decide +kernel
theorem dl_842 : decode code 842 = .ok (.iadd, 1) := by decide +kernel
theorem dl_843 : decode code 843 = .ok (.iaload, 1) := by decide +kernel
theorem dl_844 : decode code 844 = .ok (.aload_n 0, 1) := by decide +kernel
theorem dl_845 : decode code 845 = .ok (.iload_n 3, 1) := by decide +kernel
theorem dl_846 : decode code 846 = .ok (.iconst 3, 1) := by decide +kernel
theorem dl_847 : decode code 847 = .ok (.iadd, 1) := by decide +kernel
theorem dl_848 : decode code 848 = .ok (.iaload, 1) := by decide +kernel
theorem dl_849 : decode code 849 = .ok (.ifCond .eq 7, 3) := by decide +kernel
theorem dl_852 : decode code 852 = .ok (.iconst 1, 1) := by decide +kernel
theorem dl_853 : decode code 853 = .ok (.goto 4, 3) := by decide +kernel
theorem dl_856 : decode code 856 = .ok (.iconst 0, 1) := by decide +kernel
theorem dl_857 : decode code 857 = .ok (.invokevirtual 97, 3) := by decide +kernel
theorem dl_860 : decode code 860 = .ok (.aload_n 2, 1) := by decide +kernel
theorem dl_861 : decode code 861 = .ok (.aload_n 0, 1) := by decide +kernel
theorem dl_862 : decode code 862 = .ok (.iload_n 3, 1) := by decide +kernel
theorem dl_863 : decode code 863 = .ok (.iconst 1, 1) := by decide +kernel
theorem dl_864 : decode code 864 = .ok (.iadd, 1) := by decide +kernel
theorem dl_865 : decode code 865 = .ok (.iaload, 1) := by decide +kernel
theorem dl_866 : decode code 866 = .ok (.aload_n 0, 1) := by decide +kernel
theorem dl_867 : decode code 867 = .ok (.iload_n 3, 1) := by decide +kernel
theorem dl_868 : decode code 868 = .ok (.iconst 2, 1) := by decide +kernel
theorem dl_869 : decode code 869 = .ok (.iadd, 1) := by decide +kernel
theorem dl_870 : decode code 870 = .ok (.iaload, 1) := by decide +kernel
theorem dl_871 : decode code 871 = .ok (.aload_n 0, 1) := by decide +kernel
theorem dl_872 : decode code 872 = .ok (.iload_n 3, 1) := by decide +kernel
theorem dl_873 : decode code 873 = .ok (.iconst 3, 1) := by decide +kernel
theorem dl_874 : decode code 874 = .ok (.iadd, 1) := by decide +kernel
theorem dl_875 : decode code 875 = .ok (.iaload, 1) := by decide +kernel
theorem dl_876 : decode code 876 = .ok (.ifCond .eq 7, 3) := by decide +kernel
theorem dl_879 : decode code 879 = .ok (.iconst 1, 1) := by decide +kernel
theorem dl_880 : decode code 880 = .ok (.goto 4, 3) := by decide +kernel
theorem dl_883 : decode code 883 = .ok (.iconst 0, 1) := by decide +kernel
theorem dl_884 : decode code 884 = .ok (.invokevirtual 101, 3) := by decide +kernel
theorem dl_887 : decode code 887 = .ok (.lcmp, 1) := by decide +kernel
theorem dl_888 : decode code 888 = .ok (.ifCond .eq 643, 3) := by decide +kernel
theorem dl_891 : decode code 891 = .ok (.iconst 0, 1) := by decide +kernel
theorem dl_892 : decode code 892 = .ok (.ireturn, 1) := by decide +kernel
theorem dl_893 : decode code 893 = .ok (.aload_n 1, 1) := by decide +kernel
theorem dl_894 : decode code 894 = .ok (.aload_n 0, 1) := by decide +kernel
theorem dl_895 : decode code 895 = .ok (.iload_n 3, 1) := by decide +kernel
theorem dl_896 : decode code 896 = .ok (.iconst 1, 1) := by decide +kernel
theorem dl_897 : decode code 897 = .ok (.iadd, 1) := by decide +kernel
theorem dl_898 : decode code 898 = .ok (.iaload, 1) := by decide +kernel
theorem dl_899 : decode code 899 = .ok (.aload_n 0, 1) := by decide +kernel
theorem dl_900 : decode code 900 = .ok (.iload_n 3, 1) := by decide +kernel
theorem dl_901 : decode code 901 = .ok (.iconst 2, 1) := by decide +kernel
theorem dl_902 : decode code 902 = .ok (.iadd, 1) := by decide +kernel
theorem dl_903 : decode code 903 = .ok (.iaload, 1) := by decide +kernel
theorem dl_904 : decode code 904 = .ok (.invokevirtual 102, 3) := by decide +kernel
theorem dl_907 : decode code 907 = .ok (.aload_n 2, 1) := by decide +kernel
theorem dl_908 : decode code 908 = .ok (.aload_n 0, 1) := by decide +kernel
theorem dl_909 : decode code 909 = .ok (.iload_n 3, 1) := by decide +kernel
theorem dl_910 : decode code 910 = .ok (.iconst 1, 1) := by decide +kernel
theorem dl_911 : decode code 911 = .ok (.iadd, 1) := by decide +kernel
theorem dl_912 : decode code 912 = .ok (.iaload, 1) := by decide +kernel
theorem dl_913 : decode code 913 = .ok (.aload_n 0, 1) := by decide +kernel
theorem dl_914 : decode code 914 = .ok (.iload_n 3, 1) := by decide +kernel
theorem dl_915 : decode code 915 = .ok (.iconst 2, 1) := by decide +kernel
theorem dl_916 : decode code 916 = .ok (.iadd, 1) := by decide +kernel
theorem dl_917 : decode code 917 = .ok (.iaload, 1) := by decide +kernel
theorem dl_918 : decode code 918 = .ok (.invokevirtual 105, 3) := by decide +kernel
theorem dl_921 : decode code 921 = .ok (.if_icmp .eq 610, 3) := by decide +kernel
theorem dl_924 : decode code 924 = .ok (.iconst 0, 1) := by decide +kernel
theorem dl_925 : decode code 925 = .ok (.ireturn, 1) := by decide +kernel
theorem dl_926 : decode code 926 = .ok (.aload_n 1, 1) := by decide +kernel
theorem dl_927 : decode code 927 = .ok (.aload_n 0, 1) := by decide +kernel
theorem dl_928 : decode code 928 = .ok (.iload_n 3, 1) := by decide +kernel
theorem dl_929 : decode code 929 = .ok (.iconst 1, 1) := by decide +kernel
theorem dl_930 : decode code 930 = .ok (.iadd, 1) := by decide +kernel
theorem dl_931 : decode code 931 = .ok (.iaload, 1) := by decide +kernel
theorem dl_932 : decode code 932 = .ok (.aload_n 0, 1) := by decide +kernel
theorem dl_933 : decode code 933 = .ok (.iload_n 3, 1) := by decide +kernel
theorem dl_934 : decode code 934 = .ok (.iconst 2, 1) := by decide +kernel
theorem dl_935 : decode code 935 = .ok (.iadd, 1) := by decide +kernel
theorem dl_936 : decode code 936 = .ok (.iaload, 1) := by decide +kernel
theorem dl_937 : decode code 937 = .ok (.aload_n 0, 1) := by decide +kernel
theorem dl_938 : decode code 938 = .ok (.iload_n 3, 1) := by decide +kernel
theorem dl_939 : decode code 939 = .ok (.iconst 3, 1) := by decide +kernel
theorem dl_940 : decode code 940 = .ok (.iadd, 1) := by decide +kernel
theorem dl_941 : decode code 941 = .ok (.iaload, 1) := by decide +kernel
theorem dl_942 : decode code 942 = .ok (.ifCond .eq 7, 3) := by decide +kernel
theorem dl_945 : decode code 945 = .ok (.iconst 1, 1) := by decide +kernel
theorem dl_946 : decode code 946 = .ok (.goto 4, 3) := by decide +kernel
theorem dl_949 : decode code 949 = .ok (.iconst 0, 1) := by decide +kernel
theorem dl_950 : decode code 950 = .ok (.invokevirtual 106, 3) := by decide +kernel
theorem dl_953 : decode code 953 = .ok (.aload_n 2, 1) := by decide +kernel
theorem dl_954 : decode code 954 = .ok (.aload_n 0, 1) := by decide +kernel
theorem dl_955 : decode code 955 = .ok (.iload_n 3, 1) := by decide +kernel
theorem dl_956 : decode code 956 = .ok (.iconst 1, 1) := by decide +kernel
theorem dl_957 : decode code 957 = .ok (.iadd, 1) := by decide +kernel
theorem dl_958 : decode code 958 = .ok (.iaload, 1) := by decide +kernel
theorem dl_959 : decode code 959 = .ok (.aload_n 0, 1) := by decide +kernel
theorem dl_960 : decode code 960 = .ok (.iload_n 3, 1) := by decide +kernel
theorem dl_961 : decode code 961 = .ok (.iconst 2, 1) := by decide +kernel
theorem dl_962 : decode code 962 = .ok (.iadd, 1) := by decide +kernel
theorem dl_963 : decode code 963 = .ok (.iaload, 1) := by decide +kernel
theorem dl_964 : decode code 964 = .ok (.aload_n 0, 1) := by decide +kernel
theorem dl_965 : decode code 965 = .ok (.iload_n 3, 1) := by decide +kernel
theorem dl_966 : decode code 966 = .ok (.iconst 3, 1) := by decide +kernel
theorem dl_967 : decode code 967 = .ok (.iadd, 1) := by decide +kernel
theorem dl_968 : decode code 968 = .ok (.iaload, 1) := by decide +kernel
theorem dl_969 : decode code 969 = .ok (.ifCond .eq 7, 3) := by decide +kernel
theorem dl_972 : decode code 972 = .ok (.iconst 1, 1) := by decide +kernel
theorem dl_973 : decode code 973 = .ok (.goto 4, 3) := by decide +kernel
theorem dl_976 : decode code 976 = .ok (.iconst 0, 1) := by decide +kernel
theorem dl_977 : decode code 977 = .ok (.invokevirtual 109, 3) := by decide +kernel
theorem dl_980 : decode code 980 = .ok (.lcmp, 1) := by decide +kernel
theorem dl_981 : decode code 981 = .ok (.ifCond .eq 550, 3) := by decide +kernel
theorem dl_984 : decode code 984 = .ok (.iconst 0, 1) := by decide +kernel
theorem dl_985 : decode code 985 = .ok (.ireturn, 1) := by decide +kernel
theorem dl_986 : decode code 986 = .ok (.aload_n 1, 1) := by decide +kernel
theorem dl_987 : decode code 987 = .ok (.aload_n 0, 1) := by decide +kernel
theorem dl_988 : decode code 988 = .ok (.iload_n 3, 1) := by decide +kernel
theorem dl_989 : decode code 989 = .ok (.iconst 1, 1) := by decide +kernel
theorem dl_990 : decode code 990 = .ok (.iadd, 1) := by decide +kernel
theorem dl_991 : decode code 991 = .ok (.iaload, 1) := by decide +kernel
theorem dl_992 : decode code 992 = .ok (.invokevirtual 110, 3) := by decide +kernel
theorem dl_995 : decode code 995 = .ok (.aload_n 2, 1) := by decide +kernel
theorem dl_996 : decode code 996 = .ok (.aload_n 0, 1) := by decide +kernel
theorem dl_997 : decode code 997 = .ok (.iload_n 3, 1) := by decide +kernel
theorem dl_998 : decode code 998 = .ok (.iconst 1, 1) := by decide +kernel
theorem dl_999 : decode code 999 = .ok (.iadd, 1) := by decide +kernel
theorem dl_1000 : decode code 1000 = .ok (.iaload, 1) := by decide +kernel
theorem dl_1001 : decode code 1001 = .ok (.invokevirtual 113, 3) := by decide +kernel
theorem dl_1004 : decode code 1004 = .ok (.if_icmp .eq 527, 3) := by decide +kernel
theorem dl_1007 : decode code 1007 = .ok (.iconst 0, 1) := by decide +kernel
theorem dl_1008 : decode code 1008 = .ok (.ireturn, 1) := by decide +kernel
theorem dl_1009 : decode code 1009 = .ok (.aload_n 1, 1) := by decide +kernel
theorem dl_1010 : decode code 1010 = .ok (.invokevirtual 114, 3) := by decide +kernel
theorem dl_1013 : decode code 1013 = .ok (.aload_n 2, 1) := by decide +kernel
theorem dl_1014 : decode code 1014 = .ok (.invokevirtual 117, 3) := by decide +kernel
theorem dl_1017 : decode code 1017 = .ok (.if_icmp .eq 514, 3) := by decide +kernel
theorem dl_1020 : decode code 1020 = .ok (.iconst 0, 1) := by decide +kernel
theorem dl_1021 : decode code 1021 = .ok (.ireturn, 1) := by decide +kernel
theorem dl_1022 : decode code 1022 = .ok (.aload_n 1, 1) := by decide +kernel
theorem dl_1023 : decode code 1023 = .ok (.invokevirtual 118, 3) := by decide +kernel
theorem dl_1026 : decode code 1026 = .ok (.aload_n 2, 1) := by decide +kernel
theorem dl_1027 : decode code 1027 = .ok (.invokevirtual 121, 3) := by decide +kernel
theorem dl_1030 : decode code 1030 = .ok (.if_icmp .eq 501, 3) := by decide +kernel
theorem dl_1033 : decode code 1033 = .ok (.iconst 0, 1) := by decide +kernel
theorem dl_1034 : decode code 1034 = .ok (.ireturn, 1) := by decide +kernel
theorem dl_1035 : decode code 1035 = .ok (.aload_n 1, 1) := by decide +kernel
theorem dl_1036 : decode code 1036 = .ok (.aload_n 0, 1) := by decide +kernel
theorem dl_1037 : decode code 1037 = .ok (.iload_n 3, 1) := by decide +kernel
theorem dl_1038 : decode code 1038 = .ok (.iconst 1, 1) := by decide +kernel
theorem dl_1039 : decode code 1039 = .ok (.iadd, 1) := by decide +kernel
theorem dl_1040 : decode code 1040 = .ok (.iaload, 1) := by decide +kernel
theorem dl_1041 : decode code 1041 = .ok (.invokevirtual 122, 3) := by decide +kernel
theorem dl_1044 : decode code 1044 = .ok (.aload_n 2, 1) := by decide +kernel
theorem dl_1045 : decode code 1045 = .ok (.aload_n 0, 1) := by decide +kernel
theorem dl_1046 : decode code 1046 = .ok (.iload_n 3, 1) := by decide +kernel
theorem dl_1047 : decode code 1047 = .ok (.iconst 1, 1) := by decide +kernel
theorem dl_1048 : decode code 1048 = .ok (.iadd, 1) := by decide +kernel
theorem dl_1049 : decode code 1049 = .ok (.iaload, 1) := by decide +kernel
theorem dl_1050 : decode code 1050 = .ok (.invokevirtual 125, 3) := by decide +kernel
theorem dl_1053 : decode code 1053 = .ok (.if_icmp .eq 478, 3) := by decide +kernel
theorem dl_1056 : decode code 1056 = .ok (.iconst 0, 1) := by decide +kernel
theorem dl_1057 : decode code 1057 = .ok (.ireturn, 1) := by decide +kernel
theorem dl_1058 : decode code 1058 = .ok (.aload_n 1, 1) := by decide +kernel
theorem dl_1059 : decode code 1059 = .ok (.aload_n 0, 1) := by decide +kernel
theorem dl_1060 : decode code 1060 = .ok (.iload_n 3, 1) := by decide +kernel
theorem dl_1061 : decode code 1061 = .ok (.iconst 1, 1) := by decide +kernel
theorem dl_1062 : decode code 1062 = .ok (.iadd, 1) := by decide +kernel
theorem dl_1063 : decode code 1063 = .ok (.iaload, 1) := by decide +kernel
theorem dl_1064 : decode code 1064 = .ok (.aload_n 0, 1) := by decide +kernel
theorem dl_1065 : decode code 1065 = .ok (.iload_n 3, 1) := by decide +kernel
theorem dl_1066 : decode code 1066 = .ok (.iconst 2, 1) := by decide +kernel
theorem dl_1067 : decode code 1067 = .ok (.iadd, 1) := by decide +kernel
theorem dl_1068 : decode code 1068 = .ok (.iaload, 1) := by decide +kernel
theorem dl_1069 : decode code 1069 = .ok (.invokevirtual 126, 3) := by decide +kernel
theorem dl_1072 : decode code 1072 = .ok (.aload_n 2, 1) := by decide +kernel
theorem dl_1073 : decode code 1073 = .ok (.aload_n 0, 1) := by decide +kernel
theorem dl_1074 : decode code 1074 = .ok (.iload_n 3, 1) := by decide +kernel
theorem dl_1075 : decode code 1075 = .ok (.iconst 1, 1) := by decide +kernel
theorem dl_1076 : decode code 1076 = .ok (.iadd, 1) := by decide +kernel
theorem dl_1077 : decode code 1077 = .ok (.iaload, 1) := by decide +kernel
theorem dl_1078 : decode code 1078 = .ok (.aload_n 0, 1) := by decide +kernel
theorem dl_1079 : decode code 1079 = .ok (.iload_n 3, 1) := by decide +kernel
theorem dl_1080 : decode code 1080 = .ok (.iconst 2, 1) := by decide +kernel
theorem dl_1081 : decode code 1081 = .ok (.iadd, 1) := by decide +kernel
theorem dl_1082 : decode code 1082 = .ok (.iaload, 1) := by decide +kernel
theorem dl_1083 : decode code 1083 = .ok (.invokevirtual 129, 3) := by decide +kernel
theorem dl_1086 : decode code 1086 = .ok (.if_icmp .eq 445, 3) := by decide +kernel
theorem dl_1089 : decode code 1089 = .ok (.iconst 0, 1) := by decide +kernel
theorem dl_1090 : decode code 1090 = .ok (.ireturn, 1) := by decide +kernel
theorem dl_1091 : decode code 1091 = .ok (.aload_n 1, 1) := by decide +kernel
theorem dl_1092 : decode code 1092 = .ok (.invokevirtual 130, 3) := by decide +kernel
theorem dl_1095 : decode code 1095 = .ok (.aload_n 2, 1) := by decide +kernel
theorem dl_1096 : decode code 1096 = .ok (.invokevirtual 133, 3) := by decide +kernel
theorem dl_1099 : decode code 1099 = .ok (.if_icmp .eq 432, 3) := by decide +kernel
theorem dl_1102 : decode code 1102 = .ok (.iconst 0, 1) := by decide +kernel
theorem dl_1103 : decode code 1103 = .ok (.ireturn, 1) := by decide +kernel
theorem dl_1104 : decode code 1104 = .ok (.aload_n 1, 1) := by decide +kernel
theorem dl_1105 : decode code 1105 = .ok (.aload_n 0, 1) := by decide +kernel
theorem dl_1106 : decode code 1106 = .ok (.iload_n 3, 1) := by decide +kernel
theorem dl_1107 : decode code 1107 = .ok (.iconst 1, 1) := by decide +kernel
theorem dl_1108 : decode code 1108 = .ok (.iadd, 1) := by decide +kernel
theorem dl_1109 : decode code 1109 = .ok (.iaload, 1) := by decide +kernel
theorem dl_1110 : decode code 1110 = .ok (.invokevirtual 134, 3) := by decide +kernel
theorem dl_1113 : decode code 1113 = .ok (.aload_n 2, 1) := by decide +kernel
theorem dl_1114 : decode code 1114 = .ok (.aload_n 0, 1) := by decide +kernel
theorem dl_1115 : decode code 1115 = .ok (.iload_n 3, 1) := by decide +kernel
theorem dl_1116 : decode code 1116 = .ok (.iconst 1, 1) := by decide +kernel
theorem dl_1117 : decode code 1117 = .ok (.iadd, 1) := by decide +kernel
theorem dl_1118 : decode code 1118 = .ok (.iaload, 1) := by decide +kernel
theorem dl_1119 : decode code 1119 = .ok (.invokevirtual 138, 3) := by decide +kernel
theorem dl_1122 : decode code 1122 = .ok (.lcmp, 1) := by decide +kernel
theorem dl_1123 : decode code 1123 = .ok (.ifCond .eq 408, 3) := by decide +kernel
theorem dl_1126 : decode code 1126 = .ok (.iconst 0, 1) := by decide +kernel
theorem dl_1127 : decode code 1127 = .ok (.ireturn, 1) := by decide +kernel
theorem dl_1128 : decode code 1128 = .ok (.aload_n 1, 1) := by decide +kernel
theorem dl_1129 : decode code 1129 = .ok (.aload_n 0, 1) := by decide +kernel
theorem dl_1130 : decode code 1130 = .ok (.iload_n 3, 1) := by decide +kernel
theorem dl_1131 : decode code 1131 = .ok (.iconst 1, 1) := by decide +kernel
theorem dl_1132 : decode code 1132 = .ok (.iadd, 1) := by decide +kernel
theorem dl_1133 : decode code 1133 = .ok (.iaload, 1) := by decide +kernel
theorem dl_1134 : decode code 1134 = .ok (.ifCond .eq 7, 3) := by decide +kernel
theorem dl_1137 : decode code 1137 = .ok (.iconst 1, 1) := by decide +kernel
theorem dl_1138 : decode code 1138 = .ok (.goto 4, 3) := by decide +kernel
theorem dl_1141 : decode code 1141 = .ok (.iconst 0, 1) := by decide +kernel
theorem dl_1142 : decode code 1142 = .ok (.invokevirtual 139, 3) := by decide +kernel
theorem dl_1145 : decode code 1145 = .ok (.aload_n 2, 1) := by decide +kernel
theorem dl_1146 : decode code 1146 = .ok (.aload_n 0, 1) := by decide +kernel
theorem dl_1147 : decode code 1147 = .ok (.iload_n 3, 1) := by decide +kernel
theorem dl_1148 : decode code 1148 = .ok (.iconst 1, 1) := by decide +kernel
theorem dl_1149 : decode code 1149 = .ok (.iadd, 1) := by decide +kernel
theorem dl_1150 : decode code 1150 = .ok (.iaload, 1) := by decide +kernel
theorem dl_1151 : decode code 1151 = .ok (.ifCond .eq 7, 3) := by decide +kernel
theorem dl_1154 : decode code 1154 = .ok (.iconst 1, 1) := by decide +kernel
theorem dl_1155 : decode code 1155 = .ok (.goto 4, 3) := by decide +kernel
theorem dl_1158 : decode code 1158 = .ok (.iconst 0, 1) := by decide +kernel
theorem dl_1159 : decode code 1159 = .ok (.invokevirtual 143, 3) := by decide +kernel
theorem dl_1162 : decode code 1162 = .ok (.lcmp, 1) := by decide +kernel
theorem dl_1163 : decode code 1163 = .ok (.ifCond .eq 368, 3) := by decide +kernel
theorem dl_1166 : decode code 1166 = .ok (.iconst 0, 1) := by decide +kernel
theorem dl_1167 : decode code 1167 = .ok (.ireturn, 1) := by decide +kernel
theorem dl_1168 : decode code 1168 = .ok (.aload_n 1, 1) := by decide +kernel
theorem dl_1169 : decode code 1169 = .ok (.invokevirtual 144, 3) := by decide +kernel
theorem dl_1172 : decode code 1172 = .ok (.aload_n 2, 1) := by decide +kernel
theorem dl_1173 : decode code 1173 = .ok (.invokevirtual 147, 3) := by decide +kernel
theorem dl_1176 : decode code 1176 = .ok (.if_icmp .eq 355, 3) := by decide +kernel
theorem dl_1179 : decode code 1179 = .ok (.iconst 0, 1) := by decide +kernel
theorem dl_1180 : decode code 1180 = .ok (.ireturn, 1) := by decide +kernel
theorem dl_1181 : decode code 1181 = .ok (.aload_n 1, 1) := by decide +kernel
theorem dl_1182 : decode code 1182 = .ok (.aload_n 0, 1) := by decide +kernel
theorem dl_1183 : decode code 1183 = .ok (.iload_n 3, 1) := by decide +kernel
theorem dl_1184 : decode code 1184 = .ok (.iconst 1, 1) := by decide +kernel
theorem dl_1185 : decode code 1185 = .ok (.iadd, 1) := by decide +kernel
theorem dl_1186 : decode code 1186 = .ok (.iaload, 1) := by decide +kernel
theorem dl_1187 : decode code 1187 = .ok (.ifCond .eq 7, 3) := by decide +kernel
theorem dl_1190 : decode code 1190 = .ok (.iconst 1, 1) := by decide +kernel
theorem dl_1191 : decode code 1191 = .ok (.goto 4, 3) := by decide +kernel
theorem dl_1194 : decode code 1194 = .ok (.iconst 0, 1) := by decide +kernel
theorem dl_1195 : decode code 1195 = .ok (.invokevirtual 148, 3) := by decide +kernel
theorem dl_1198 : decode code 1198 = .ok (.aload_n 2, 1) := by decide +kernel
theorem dl_1199 : decode code 1199 = .ok (.aload_n 0, 1) := by decide +kernel
theorem dl_1200 : decode code 1200 = .ok (.iload_n 3, 1) := by decide +kernel
theorem dl_1201 : decode code 1201 = .ok (.iconst 1, 1) := by decide +kernel
theorem dl_1202 : decode code 1202 = .ok (.iadd, 1) := by decide +kernel
theorem dl_1203 : decode code 1203 = .ok (.iaload, 1) := by decide +kernel
theorem dl_1204 : decode code 1204 = .ok (.ifCond .eq 7, 3) := by decide +kernel
theorem dl_1207 : decode code 1207 = .ok (.iconst 1, 1) := by decide +kernel
theorem dl_1208 : decode code 1208 = .ok (.goto 4, 3) := by decide +kernel
theorem dl_1211 : decode code 1211 = .ok (.iconst 0, 1) := by decide +kernel
theorem dl_1212 : decode code 1212 = .ok (.invokevirtual 151, 3) := by decide +kernel
theorem dl_1215 : decode code 1215 = .ok (.lcmp, 1) := by decide +kernel
theorem dl_1216 : decode code 1216 = .ok (.ifCond .eq 315, 3) := by decide +kernel
theorem dl_1219 : decode code 1219 = .ok (.iconst 0, 1) := by decide +kernel
theorem dl_1220 : decode code 1220 = .ok (.ireturn, 1) := by decide +kernel
theorem dl_1221 : decode code 1221 = .ok (.aload_n 1, 1) := by decide +kernel
theorem dl_1222 : decode code 1222 = .ok (.aload_n 0, 1) := by decide +kernel
theorem dl_1223 : decode code 1223 = .ok (.iload_n 3, 1) := by decide +kernel
theorem dl_1224 : decode code 1224 = .ok (.iconst 1, 1) := by decide +kernel
theorem dl_1225 : decode code 1225 = .ok (.iadd, 1) := by decide +kernel
theorem dl_1226 : decode code 1226 = .ok (.iaload, 1) := by decide +kernel
theorem dl_1227 : decode code 1227 = .ok (.aload_n 0, 1) := by decide +kernel
theorem dl_1228 : decode code 1228 = .ok (.iload_n 3, 1) := by decide +kernel
theorem dl_1229 : decode code 1229 = .ok (.iconst 2, 1) := by decide +kernel
theorem dl_1230 : decode code 1230 = .ok (.iadd, 1) := by decide +kernel
theorem dl_1231 : decode code 1231 = .ok (.iaload, 1) := by decide +kernel
theorem dl_1232 : decode code 1232 = .ok (.invokevirtual 152, 3) := by decide +kernel
theorem dl_1235 : decode code 1235 = .ok (.aload_n 2, 1) := by decide +kernel
theorem dl_1236 : decode code 1236 = .ok (.aload_n 0, 1) := by decide +kernel
theorem dl_1237 : decode code 1237 = .ok (.iload_n 3, 1) := by decide +kernel
theorem dl_1238 : decode code 1238 = .ok (.iconst 1, 1) := by decide +kernel
theorem dl_1239 : decode code 1239 = .ok (.iadd, 1) := by decide +kernel
theorem dl_1240 : decode code 1240 = .ok (.iaload, 1) := by decide +kernel
theorem dl_1241 : decode code 1241 = .ok (.aload_n 0, 1) := by decide +kernel
theorem dl_1242 : decode code 1242 = .ok (.iload_n 3, 1) := by decide +kernel
theorem dl_1243 : decode code 1243 = .ok (.iconst 2, 1) := by decide +kernel
theorem dl_1244 : decode code 1244 = .ok (.iadd, 1) := by decide +kernel
theorem dl_1245 : decode code 1245 = .ok (.iaload, 1) := by decide +kernel
theorem dl_1246 : decode code 1246 = .ok (.invokevirtual 155, 3) := by decide +kernel
theorem dl_1249 : decode code 1249 = .ok (.if_icmp .eq 282, 3) := by decide +kernel
theorem dl_1252 : decode code 1252 = .ok (.iconst 0, 1) := by decide +kernel
theorem dl_1253 : decode code 1253 = .ok (.ireturn, 1) := by decide +kernel
theorem dl_1254 : decode code 1254 = .ok (.aload_n 1, 1) := by decide +kernel
theorem dl_1255 : decode code 1255 = .ok (.aload_n 0, 1) := by decide +kernel
theorem dl_1256 : decode code 1256 = .ok (.iload_n 3, 1) := by decide +kernel
theorem dl_1257 : decode code 1257 = .ok (.iconst 1, 1) := by decide +kernel
theorem dl_1258 : decode code 1258 = .ok (.iadd, 1) := by decide +kernel
theorem dl_1259 : decode code 1259 = .ok (.iaload, 1) := by decide +kernel
theorem dl_1260 : decode code 1260 = .ok (.aload_n 0, 1) := by decide +kernel
theorem dl_1261 : decode code 1261 = .ok (.iload_n 3, 1) := by decide +kernel
theorem dl_1262 : decode code 1262 = .ok (.iconst 2, 1) := by decide +kernel
theorem dl_1263 : decode code 1263 = .ok (.iadd, 1) := by decide +kernel
theorem dl_1264 : decode code 1264 = .ok (.iaload, 1) := by decide +kernel
theorem dl_1265 : decode code 1265 = .ok (.invokevirtual 156, 3) := by decide +kernel
theorem dl_1268 : decode code 1268 = .ok (.aload_n 2, 1) := by decide +kernel
theorem dl_1269 : decode code 1269 = .ok (.aload_n 0, 1) := by decide +kernel
theorem dl_1270 : decode code 1270 = .ok (.iload_n 3, 1) := by decide +kernel
theorem dl_1271 : decode code 1271 = .ok (.iconst 1, 1) := by decide +kernel
theorem dl_1272 : decode code 1272 = .ok (.iadd, 1) := by decide +kernel
theorem dl_1273 : decode code 1273 = .ok (.iaload, 1) := by decide +kernel
theorem dl_1274 : decode code 1274 = .ok (.aload_n 0, 1) := by decide +kernel
theorem dl_1275 : decode code 1275 = .ok (.iload_n 3, 1) := by decide +kernel
theorem dl_1276 : decode code 1276 = .ok (.iconst 2, 1) := by decide +kernel
theorem dl_1277 : decode code 1277 = .ok (.iadd, 1) := by decide +kernel
theorem dl_1278 : decode code 1278 = .ok (.iaload, 1) := by decide +kernel
theorem dl_1279 : decode code 1279 = .ok (.invokevirtual 159, 3) := by decide +kernel
theorem dl_1282 : decode code 1282 = .ok (.if_icmp .eq 249, 3) := by decide +kernel
theorem dl_1285 : decode code 1285 = .ok (.iconst 0, 1) := by decide +kernel
theorem dl_1286 : decode code 1286 = .ok (.ireturn, 1) := by decide +kernel
theorem dl_1287 : decode code 1287 = .ok (.aload_n 1, 1) := by decide +kernel
theorem dl_1288 : decode code 1288 = .ok (.aload_n 0, 1) := by decide +kernel
theorem dl_1289 : decode code 1289 = .ok (.iload_n 3, 1) := by decide +kernel
theorem dl_1290 : decode code 1290 = .ok (.iconst 1, 1) := by decide +kernel
theorem dl_1291 : decode code 1291 = .ok (.iadd, 1) := by decide +kernel
theorem dl_1292 : decode code 1292 = .ok (.iaload, 1) := by decide +kernel
theorem dl_1293 : decode code 1293 = .ok (.aload_n 0, 1) := by decide +kernel
theorem dl_1294 : decode code 1294 = .ok (.iload_n 3, 1) := by decide +kernel
theorem dl_1295 : decode code 1295 = .ok (.iconst 2, 1) := by decide +kernel
theorem dl_1296 : decode code 1296 = .ok (.iadd, 1) := by decide +kernel
theorem dl_1297 : decode code 1297 = .ok (.iaload, 1) := by decide +kernel
theorem dl_1298 : decode code 1298 = .ok (.aload_n 0, 1) := by decide +kernel
theorem dl_1299 : decode code 1299 = .ok (.iload_n 3, 1) := by decide +kernel
theorem dl_1300 : decode code 1300 = .ok (.iconst 3, 1) := by decide +kernel
theorem dl_1301 : decode code 1301 = .ok (.iadd, 1) := by decide +kernel
theorem dl_1302 : decode code 1302 = .ok (.iaload, 1) := by decide +kernel
theorem dl_1303 : decode code 1303 = .ok (.aload_n 0, 1) := by decide +kernel
theorem dl_1304 : decode code 1304 = .ok (.iload_n 3, 1) := by decide +kernel
theorem dl_1305 : decode code 1305 = .ok (.iconst 4, 1) := by decide +kernel
theorem dl_1306 : decode code 1306 = .ok (.iadd, 1) := by decide +kernel
theorem dl_1307 : decode code 1307 = .ok (.iaload, 1) := by decide +kernel
theorem dl_1308 : decode code 1308 = .ok (.invokevirtual 160, 3) := by decide +kernel
theorem dl_1311 : decode code 1311 = .ok (.aload_n 2, 1) := by decide +kernel
theorem dl_1312 : decode code 1312 = .ok (.aload_n 0, 1) := by decide +kernel
theorem dl_1313 : decode code 1313 = .ok (.iload_n 3, 1) := by decide +kernel
theorem dl_1314 : decode code 1314 = .ok (.iconst 1, 1) := by decide +kernel
theorem dl_1315 : decode code 1315 = .ok (.iadd, 1) := by decide +kernel
theorem dl_1316 : decode code 1316 = .ok (.iaload, 1) := by decide +kernel
theorem dl_1317 : decode code 1317 = .ok (.aload_n 0, 1) := by decide +kernel
theorem dl_1318 : decode code 1318 = .ok (.iload_n 3, 1) := by decide +kernel
theorem dl_1319 : decode code 1319 = .ok (.iconst 2, 1) := by decide +kernel
theorem dl_1320 : decode code 1320 = .ok (.iadd, 1) := by decide +kernel
theorem dl_1321 : decode code 1321 = .ok (.iaload, 1) := by decide +kernel
theorem dl_1322 : decode code 1322 = .ok (.aload_n 0, 1) := by decide +kernel
theorem dl_1323 : decode code 1323 = .ok (.iload_n 3, 1) := by decide +kernel
theorem dl_1324 : decode code 1324 = .ok (.iconst 3, 1) := by decide +kernel
theorem dl_1325 : decode code 1325 = .ok (.iadd, 1) := by decide +kernel
theorem dl_1326 : decode code 1326 = .ok (.iaload, 1) := by decide +kernel
theorem dl_1327 : decode code 1327 = .ok (.aload_n 0, 1) := by decide +kernel
theorem dl_1328 : decode code 1328 = .ok (.iload_n 3, 1) := by decide +kernel
theorem dl_1329 : decode code 1329 = .ok (.iconst 4, 1) := by decide +kernel
theorem dl_1330 : decode code 1330 = .ok (.iadd, 1) := by decide +kernel
theorem dl_1331 : decode code 1331 = .ok (.iaload, 1) := by decide +kernel
theorem dl_1332 : decode code 1332 = .ok (.invokevirtual 164, 3) := by decide +kernel
theorem dl_1335 : decode code 1335 = .ok (.if_icmp .eq 196, 3) := by decide +kernel
theorem dl_1338 : decode code 1338 = .ok (.iconst 0, 1) := by decide +kernel
theorem dl_1339 : decode code 1339 = .ok (.ireturn, 1) := by decide +kernel
theorem dl_1340 : decode code 1340 = .ok (.aload_n 1, 1) := by decide +kernel
theorem dl_1341 : decode code 1341 = .ok (.aload_n 0, 1) := by decide +kernel
theorem dl_1342 : decode code 1342 = .ok (.iload_n 3, 1) := by decide +kernel
theorem dl_1343 : decode code 1343 = .ok (.iconst 1, 1) := by decide +kernel
theorem dl_1344 : decode code 1344 = .ok (.iadd, 1) := by decide +kernel
theorem dl_1345 : decode code 1345 = .ok (.iaload, 1) := by decide +kernel
theorem dl_1346 : decode code 1346 = .ok (.invokevirtual 165, 3) := by decide +kernel
theorem dl_1349 : decode code 1349 = .ok (.aload_n 2, 1) := by decide +kernel
theorem dl_1350 : decode code 1350 = .ok (.aload_n 0, 1) := by decide +kernel
theorem dl_1351 : decode code 1351 = .ok (.iload_n 3, 1) := by decide +kernel
theorem dl_1352 : decode code 1352 = .ok (.iconst 1, 1) := by decide +kernel
theorem dl_1353 : decode code 1353 = .ok (.iadd, 1) := by decide +kernel
theorem dl_1354 : decode code 1354 = .ok (.iaload, 1) := by decide +kernel
theorem dl_1355 : decode code 1355 = .ok (.invokevirtual 168, 3) := by decide +kernel
theorem dl_1358 : decode code 1358 = .ok (.if_icmp .eq 173, 3) := by decide +kernel
theorem dl_1361 : decode code 1361 = .ok (.iconst 0, 1) := by decide +kernel
theorem dl_1362 : decode code 1362 = .ok (.ireturn, 1) := by decide +kernel
theorem dl_1363 : decode code 1363 = .ok (.aload_n 1, 1) := by decide +kernel
theorem dl_1364 : decode code 1364 = .ok (.aload_n 0, 1) := by decide +kernel
theorem dl_1365 : decode code 1365 = .ok (.iload_n 3, 1) := by decide +kernel
theorem dl_1366 : decode code 1366 = .ok (.iconst 1, 1) := by decide +kernel
theorem dl_1367 : decode code 1367 = .ok (.iadd, 1) := by decide +kernel
theorem dl_1368 : decode code 1368 = .ok (.iaload, 1) := by decide +kernel
theorem dl_1369 : decode code 1369 = .ok (.invokevirtual 169, 3) := by decide +kernel
theorem dl_1372 : decode code 1372 = .ok (.aload_n 2, 1) := by decide +kernel
theorem dl_1373 : decode code 1373 = .ok (.aload_n 0, 1) := by decide +kernel
theorem dl_1374 : decode code 1374 = .ok (.iload_n 3, 1) := by decide +kernel
theorem dl_1375 : decode code 1375 = .ok (.iconst 1, 1) := by decide +kernel
theorem dl_1376 : decode code 1376 = .ok (.iadd, 1) := by decide +kernel
theorem dl_1377 : decode code 1377 = .ok (.iaload, 1) := by decide +kernel
theorem dl_1378 : decode code 1378 = .ok (.invokevirtual 172, 3) := by decide +kernel
theorem dl_1381 : decode code 1381 = .ok (.if_icmp .eq 150, 3) := by decide +kernel
theorem dl_1384 : decode code 1384 = .ok (.iconst 0, 1) := by decide +kernel
theorem dl_1385 : decode code 1385 = .ok (.ireturn, 1) := by decide +kernel
theorem dl_1386 : decode code 1386 = .ok (.aload_n 1, 1) := by decide +kernel
theorem dl_1387 : decode code 1387 = .ok (.aload_n 0, 1) := by decide +kernel
theorem dl_1388 : decode code 1388 = .ok (.iload_n 3, 1) := by decide +kernel
theorem dl_1389 : decode code 1389 = .ok (.iconst 1, 1) := by decide +kernel
theorem dl_1390 : decode code 1390 = .ok (.iadd, 1) := by decide +kernel
theorem dl_1391 : decode code 1391 = .ok (.iaload, 1) := by decide +kernel
theorem dl_1392 : decode code 1392 = .ok (.aload_n 0, 1) := by decide +kernel
theorem dl_1393 : decode code 1393 = .ok (.iload_n 3, 1) := by decide +kernel
theorem dl_1394 : decode code 1394 = .ok (.iconst 2, 1) := by decide +kernel
theorem dl_1395 : decode code 1395 = .ok (.iadd, 1) := by decide +kernel
theorem dl_1396 : decode code 1396 = .ok (.iaload, 1) := by decide +kernel
theorem dl_1397 : decode code 1397 = .ok (.aload_n 0, 1) := by decide +kernel
theorem dl_1398 : decode code 1398 = .ok (.iload_n 3, 1) := by decide +kernel
theorem dl_1399 : decode code 1399 = .ok (.iconst 3, 1) := by decide +kernel
theorem dl_1400 : decode code 1400 = .ok (.iadd, 1) := by decide +kernel
theorem dl_1401 : decode code 1401 = .ok (.iaload, 1) := by decide +kernel
theorem dl_1402 : decode code 1402 = .ok (.invokevirtual 173, 3) := by decide +kernel
theorem dl_1405 : decode code 1405 = .ok (.aload_n 2, 1) := by decide +kernel
theorem dl_1406 : decode code 1406 = .ok (.aload_n 0, 1) := by decide +kernel
theorem dl_1407 : decode code 1407 = .ok (.iload_n 3, 1) := by decide +kernel
theorem dl_1408 : decode code 1408 = .ok (.iconst 1, 1) := by decide +kernel
theorem dl_1409 : decode code 1409 = .ok (.iadd, 1) := by decide +kernel
theorem dl_1410 : decode code 1410 = .ok (.iaload, 1) := by decide +kernel
theorem dl_1411 : decode code 1411 = .ok (.aload_n 0, 1) := by decide +kernel
theorem dl_1412 : decode code 1412 = .ok (.iload_n 3, 1) := by decide +kernel
theorem dl_1413 : decode code 1413 = .ok (.iconst 2, 1) := by decide +kernel
theorem dl_1414 : decode code 1414 = .ok (.iadd, 1) := by decide +kernel
theorem dl_1415 : decode code 1415 = .ok (.iaload, 1) := by decide +kernel
theorem dl_1416 : decode code 1416 = .ok (.aload_n 0, 1) := by decide +kernel
theorem dl_1417 : decode code 1417 = .ok (.iload_n 3, 1) := by decide +kernel
theorem dl_1418 : decode code 1418 = .ok (.iconst 3, 1) := by decide +kernel
theorem dl_1419 : decode code 1419 = .ok (.iadd, 1) := by decide +kernel
theorem dl_1420 : decode code 1420 = .ok (.iaload, 1) := by decide +kernel
theorem dl_1421 : decode code 1421 = .ok (.invokevirtual 176, 3) := by decide +kernel
theorem dl_1424 : decode code 1424 = .ok (.if_icmp .eq 107, 3) := by decide +kernel
theorem dl_1427 : decode code 1427 = .ok (.iconst 0, 1) := by decide +kernel
theorem dl_1428 : decode code 1428 = .ok (.ireturn, 1) := by decide +kernel
theorem dl_1429 : decode code 1429 = .ok (.aload_n 1, 1) := by decide +kernel
theorem dl_1430 : decode code 1430 = .ok (.aload_n 0, 1) := by decide +kernel
theorem dl_1431 : decode code 1431 = .ok (.iload_n 3, 1) := by decide +kernel
theorem dl_1432 : decode code 1432 = .ok (.iconst 1, 1) := by decide +kernel
theorem dl_1433 : decode code 1433 = .ok (.iadd, 1) := by decide +kernel
theorem dl_1434 : decode code 1434 = .ok (.iaload, 1) := by decide +kernel
theorem dl_1435 : decode code 1435 = .ok (.aload_n 0, 1) := by decide +kernel
theorem dl_1436 : decode code 1436 = .ok (.iload_n 3, 1) := by decide +kernel
theorem dl_1437 : decode code 1437 = .ok (.iconst 2, 1) := by decide +kernel
theorem dl_1438 : decode code 1438 = .ok (.iadd, 1) := by decide +kernel
theorem dl_1439 : decode code 1439 = .ok (.iaload, 1) := by decide +kernel
theorem dl_1440 : decode code 1440 = .ok (.invokevirtual 177, 3) := by decide +kernel
theorem dl_1443 : decode code 1443 = .ok (.aload_n 2, 1) := by decide +kernel
theorem dl_1444 : decode code 1444 = .ok (.aload_n 0, 1) := by decide +kernel
theorem dl_1445 : decode code 1445 = .ok (.iload_n 3, 1) := by decide +kernel
theorem dl_1446 : decode code 1446 = .ok (.iconst 1, 1) := by decide +kernel
theorem dl_1447 : decode code 1447 = .ok (.iadd, 1) := by decide +kernel
theorem dl_1448 : decode code 1448 = .ok (.iaload, 1) := by decide +kernel
theorem dl_1449 : decode code 1449 = .ok (.aload_n 0, 1) := by decide +kernel
theorem dl_1450 : decode code 1450 = .ok (.iload_n 3, 1) := by decide +kernel
theorem dl_1451 : decode code 1451 = .ok (.iconst 2, 1) := by decide +kernel
theorem dl_1452 : decode code 1452 = .ok (.iadd, 1) := by decide +kernel
theorem dl_1453 : decode code 1453 = .ok (.iaload, 1) := by decide +kernel
theorem dl_1454 : decode code 1454 = .ok (.invokevirtual 180, 3) := by decide +kernel
theorem dl_1457 : decode code 1457 = .ok (.if_icmp .eq 74, 3) := by decide +kernel
theorem dl_1460 : decode code 1460 = .ok (.iconst 0, 1) := by decide +kernel
theorem dl_1461 : decode code 1461 = .ok (.ireturn, 1) := by decide +kernel
theorem dl_1462 : decode code 1462 = .ok (.aload_n 1, 1) := by decide +kernel
theorem dl_1463 : decode code 1463 = .ok (.aload_n 0, 1) := by decide +kernel
theorem dl_1464 : decode code 1464 = .ok (.iload_n 3, 1) := by decide +kernel
theorem dl_1465 : decode code 1465 = .ok (.iconst 1, 1) := by decide +kernel
theorem dl_1466 : decode code 1466 = .ok (.iadd, 1) := by decide +kernel
theorem dl_1467 : decode code 1467 = .ok (.iaload, 1) := by decide +kernel
theorem dl_1468 : decode code 1468 = .ok (.invokevirtual 181, 3) := by decide +kernel
theorem dl_1471 : decode code 1471 = .ok (.aload_n 2, 1) := by decide +kernel
theorem dl_1472 : decode code 1472 = .ok (.aload_n 0, 1) := by decide +kernel
theorem dl_1473 : decode code 1473 = .ok (.iload_n 3, 1) := by decide +kernel
theorem dl_1474 : decode code 1474 = .ok (.iconst 1, 1) := by decide +kernel
theorem dl_1475 : decode code 1475 = .ok (.iadd, 1) := by decide +kernel
theorem dl_1476 : decode code 1476 = .ok (.iaload, 1) := by decide +kernel
theorem dl_1477 : decode code 1477 = .ok (.invokevirtual 184, 3) := by decide +kernel
theorem dl_1480 : decode code 1480 = .ok (.if_icmp .eq 51, 3) := by decide +kernel
theorem dl_1483 : decode code 1483 = .ok (.iconst 0, 1) := by decide +kernel
theorem dl_1484 : decode code 1484 = .ok (.ireturn, 1) := by decide +kernel
theorem dl_1485 : decode code 1485 = .ok (.aload_n 1, 1) := by decide +kernel
theorem dl_1486 : decode code 1486 = .ok (.aload_n 0, 1) := by decide +kernel
theorem dl_1487 : decode code 1487 = .ok (.iload_n 3, 1) := by decide +kernel
theorem dl_1488 : decode code 1488 = .ok (.iconst 1, 1) := by decide +kernel
theorem dl_1489 : decode code 1489 = .ok (.iadd, 1) := by decide +kernel
theorem dl_1490 : decode code 1490 = .ok (.iaload, 1) := by decide +kernel
theorem dl_1491 : decode code 1491 = .ok (.invokevirtual 185, 3) := by decide +kernel
theorem dl_1494 : decode code 1494 = .ok (.aload_n 2, 1) := by decide +kernel
theorem dl_1495 : decode code 1495 = .ok (.aload_n 0, 1) := by decide +kernel
theorem dl_1496 : decode code 1496 = .ok (.iload_n 3, 1) := by decide +kernel
theorem dl_1497 : decode code 1497 = .ok (.iconst 1, 1) := by decide +kernel
theorem dl_1498 : decode code 1498 = .ok (.iadd, 1) := by decide +kernel
theorem dl_1499 : decode code 1499 = .ok (.iaload, 1) := by decide +kernel
theorem dl_1500 : decode code 1500 = .ok (.invokevirtual 188, 3) := by decide +kernel
theorem dl_1503 : decode code 1503 = .ok (.if_icmp .eq 28, 3) := by decide +kernel
theorem dl_1506 : decode code 1506 = .ok (.iconst 0, 1) := by decide +kernel
theorem dl_1507 : decode code 1507 = .ok (.ireturn, 1) := by decide +kernel
theorem dl_1508 : decode code 1508 = .ok (.aload_n 1, 1) := by decide +kernel
theorem dl_1509 : decode code 1509 = .ok (.aload_n 0, 1) := by decide +kernel
theorem dl_1510 : decode code 1510 = .ok (.iload_n 3, 1) := by decide +kernel
theorem dl_1511 : decode code 1511 = .ok (.iconst 1, 1) := by decide +kernel
theorem dl_1512 : decode code 1512 = .ok (.iadd, 1) := by decide +kernel
theorem dl_1513 : decode code 1513 = .ok (.iaload, 1) := by decide +kernel
theorem dl_1514 : decode code 1514 = .ok (.invokevirtual 189, 3) := by decide +kernel
theorem dl_1517 : decode code 1517 = .ok (.aload_n 2, 1) := by decide +kernel
theorem dl_1518 : decode code 1518 = .ok (.aload_n 0, 1) := by decide +kernel
theorem dl_1519 : decode code 1519 = .ok (.iload_n 3, 1) := by decide +kernel
theorem dl_1520 : decode code 1520 = .ok (.iconst 1, 1) := by decide +kernel
theorem dl_1521 : decode code 1521 = .ok (.iadd, 1) := by decide +kernel
theorem dl_1522 : decode code 1522 = .ok (.iaload, 1) := by decide +kernel
theorem dl_1523 : decode code 1523 = .ok (.invokevirtual 192, 3) := by decide +kernel
theorem dl_1526 : decode code 1526 = .ok (.if_icmp .eq 5, 3) := by decide +kernel
theorem dl_1529 : decode code 1529 = .ok (.iconst 0, 1) := by decide +kernel
theorem dl_1530 : decode code 1530 = .ok (.ireturn, 1) := by decide +kernel
theorem dl_1531 : decode code 1531 = .ok (.iinc 3 6, 3) := by decide +kernel
theorem dl_1534 : decode code 1534 = .ok (.goto (-1516), 3) := by decide +kernel
theorem dl_1537 : decode code 1537 = .ok (.iconst 1, 1) := by decide +kernel
theorem dl_1538 : decode code 1538 = .ok (.ireturn, 1) := by decide +kernel

