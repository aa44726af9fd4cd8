theorem d0_0 : mm_dec q0 0 = some (.new 8) := by decide +kernel
theorem d0_3 : mm_dec q0 3 = some (.dup) := by decide +kernel
theorem d0_4 : mm_dec q0 4 = some (.invokespecial 15) := by decide +kernel
theorem d0_7 : mm_dec q0 7 = some (.astore_n 1) := by decide +kernel
theorem d0_8 : mm_dec q0 8 = some (.new 16) := by decide +kernel
theorem d0_11 : mm_dec q0 11 = some (.dup) := by decide +kernel
theorem d0_12 : mm_dec q0 12 = some (.invokespecial 18) := by decide +kernel
theorem d0_15 : mm_dec q0 15 = some (.astore_n 2) := by decide +kernel
theorem d0_16 : mm_dec q0 16 = some (.iconst 1) := by decide +kernel
theorem d0_17 : mm_dec q0 17 = some (.newarray .long) := by decide +kernel
theorem d0_19 : mm_dec q0 19 = some (.astore_n 3) := by decide +kernel
theorem d0_20 : mm_dec q0 20 = some (.iconst 0) := by decide +kernel
theorem d0_21 : mm_dec q0 21 = some (.istore 4) := by decide +kernel
theorem d0_23 : mm_dec q0 23 = some (.iload 4) := by decide +kernel
theorem d0_25 : mm_dec q0 25 = some (.aload_n 0) := by decide +kernel
theorem d0_26 : mm_dec q0 26 = some (.arraylength) := by decide +kernel
theorem d0_27 : mm_dec q0 27 = some (.bipush 6) := by decide +kernel
theorem d0_29 : mm_dec q0 29 = some (.isub) := by decide +kernel
theorem d0_30 : mm_dec q0 30 = some (.if_icmp .gt 1426) := by decide +kernel
theorem d0_33 : mm_dec q0 33 = some (.aload_n 0) := by decide +kernel
theorem d0_34 : mm_dec q0 34 = some (.iload 4) := by decide +kernel
theorem d0_36 : mm_dec q0 36 = some (.iaload) := by decide +kernel
theorem d0_37 : mm_dec q0 37 = some (.bipush 63) := by decide +kernel
theorem d0_39 : mm_dec q0 39 = some (.iand) := by decide +kernel
theorem d0_40 : mm_dec q0 40 = some (.tableswitch 1410 0 34 #[156, 229, 254, 279, 304, 372, 409, 434, 483, 508, 565, 590, 603, 652, 689, 726, 763, 800, 837, 862, 887, 948, 985, 1034, 1087, 1112, 1149, 1174, 1223, 1248, 1285, 1322, 1359, 1372, 1385]) := by decide +kernel
theorem d0_196 : mm_dec q0 196 = some (.aload_n 1) := by decide +kernel
theorem d0_197 : mm_dec q0 197 = some (.aload_n 0) := by decide +kernel
theorem d0_198 : mm_dec q0 198 = some (.iload 4) := by decide +kernel
theorem d0_200 : mm_dec q0 200 = some (.iconst 1) := by decide +kernel
theorem d0_201 : mm_dec q0 201 = some (.iadd) := by decide +kernel
theorem d0_202 : mm_dec q0 202 = some (.iaload) := by decide +kernel
theorem d0_203 : mm_dec q0 203 = some (.aload_n 0) := by decide +kernel
theorem d0_204 : mm_dec q0 204 = some (.iload 4) := by decide +kernel
theorem d0_206 : mm_dec q0 206 = some (.iconst 2) := by decide +kernel
theorem d0_207 : mm_dec q0 207 = some (.iadd) := by decide +kernel
theorem d0_208 : mm_dec q0 208 = some (.iaload) := by decide +kernel
theorem d0_209 : mm_dec q0 209 = some (.aload_n 0) := by decide +kernel
theorem d0_210 : mm_dec q0 210 = some (.iload 4) := by decide +kernel
theorem d0_212 : mm_dec q0 212 = some (.iconst 3) := by decide +kernel
theorem d0_213 : mm_dec q0 213 = some (.iadd) := by decide +kernel
theorem d0_214 : mm_dec q0 214 = some (.iaload) := by decide +kernel
theorem d0_215 : mm_dec q0 215 = some (.aload_n 0) := by decide +kernel
theorem d0_216 : mm_dec q0 216 = some (.iload 4) := by decide +kernel
theorem d0_218 : mm_dec q0 218 = some (.iconst 4) := by decide +kernel
theorem d0_219 : mm_dec q0 219 = some (.iadd) := by decide +kernel
theorem d0_220 : mm_dec q0 220 = some (.iaload) := by decide +kernel
theorem d0_221 : mm_dec q0 221 = some (.aload_n 0) := by decide +kernel
theorem d0_222 : mm_dec q0 222 = some (.iload 4) := by decide +kernel
theorem d0_224 : mm_dec q0 224 = some (.iconst 5) := by decide +kernel
theorem d0_225 : mm_dec q0 225 = some (.iadd) := by decide +kernel
theorem d0_226 : mm_dec q0 226 = some (.iaload) := by decide +kernel
theorem d0_227 : mm_dec q0 227 = some (.invokevirtual 19) := by decide +kernel
theorem d0_230 : mm_dec q0 230 = some (.aload_n 2) := by decide +kernel
theorem d0_231 : mm_dec q0 231 = some (.aload_n 0) := by decide +kernel
theorem d0_232 : mm_dec q0 232 = some (.iload 4) := by decide +kernel
theorem d0_234 : mm_dec q0 234 = some (.iconst 1) := by decide +kernel
theorem d0_235 : mm_dec q0 235 = some (.iadd) := by decide +kernel
theorem d0_236 : mm_dec q0 236 = some (.iaload) := by decide +kernel
theorem d0_237 : mm_dec q0 237 = some (.aload_n 0) := by decide +kernel
theorem d0_238 : mm_dec q0 238 = some (.iload 4) := by decide +kernel
theorem d0_240 : mm_dec q0 240 = some (.iconst 2) := by decide +kernel
theorem d0_241 : mm_dec q0 241 = some (.iadd) := by decide +kernel
theorem d0_242 : mm_dec q0 242 = some (.iaload) := by decide +kernel
theorem d0_243 : mm_dec q0 243 = some (.aload_n 0) := by decide +kernel
theorem d0_244 : mm_dec q0 244 = some (.iload 4) := by decide +kernel
theorem d0_246 : mm_dec q0 246 = some (.iconst 3) := by decide +kernel
theorem d0_247 : mm_dec q0 247 = some (.iadd) := by decide +kernel
theorem d0_248 : mm_dec q0 248 = some (.iaload) := by decide +kernel
theorem d0_249 : mm_dec q0 249 = some (.aload_n 0) := by decide +kernel
theorem d0_250 : mm_dec q0 250 = some (.iload 4) := by decide +kernel
theorem d0_252 : mm_dec q0 252 = some (.iconst 4) := by decide +kernel
theorem d0_253 : mm_dec q0 253 = some (.iadd) := by decide +kernel
theorem d0_254 : mm_dec q0 254 = some (.iaload) := by decide +kernel
theorem d0_255 : mm_dec q0 255 = some (.aload_n 0) := by decide +kernel
theorem d0_256 : mm_dec q0 256 = some (.iload 4) := by decide +kernel
theorem d0_258 : mm_dec q0 258 = some (.iconst 5) := by decide +kernel
theorem d0_259 : mm_dec q0 259 = some (.iadd) := by decide +kernel
theorem d0_260 : mm_dec q0 260 = some (.iaload) := by decide +kernel
theorem d0_261 : mm_dec q0 261 = some (.invokevirtual 23) := by decide +kernel
theorem d0_264 : mm_dec q0 264 = some (.if_icmp .eq 1186) := by decide +kernel
theorem d0_267 : mm_dec q0 267 = some (.iconst 0) := by decide +kernel
theorem d0_268 : mm_dec q0 268 = some (.ireturn) := by decide +kernel
theorem d0_269 : mm_dec q0 269 = some (.aload_n 1) := by decide +kernel
theorem d0_270 : mm_dec q0 270 = some (.aload_n 0) := by decide +kernel
theorem d0_271 : mm_dec q0 271 = some (.iload 4) := by decide +kernel
theorem d0_273 : mm_dec q0 273 = some (.iconst 1) := by decide +kernel
theorem d0_274 : mm_dec q0 274 = some (.iadd) := by decide +kernel
theorem d0_275 : mm_dec q0 275 = some (.iaload) := by decide +kernel
theorem d0_276 : mm_dec q0 276 = some (.invokevirtual 24) := by decide +kernel
theorem d0_279 : mm_dec q0 279 = some (.aload_n 2) := by decide +kernel
theorem d0_280 : mm_dec q0 280 = some (.aload_n 0) := by decide +kernel
theorem d0_281 : mm_dec q0 281 = some (.iload 4) := by decide +kernel
theorem d0_283 : mm_dec q0 283 = some (.iconst 1) := by decide +kernel
theorem d0_284 : mm_dec q0 284 = some (.iadd) := by decide +kernel
theorem d0_285 : mm_dec q0 285 = some (.iaload) := by decide +kernel
theorem d0_286 : mm_dec q0 286 = some (.invokevirtual 28) := by decide +kernel
theorem d0_289 : mm_dec q0 289 = some (.if_icmp .eq 1161) := by decide +kernel
theorem d0_292 : mm_dec q0 292 = some (.iconst 0) := by decide +kernel
theorem d0_293 : mm_dec q0 293 = some (.ireturn) := by decide +kernel
theorem d0_294 : mm_dec q0 294 = some (.aload_n 1) := by decide +kernel
theorem d0_295 : mm_dec q0 295 = some (.aload_n 0) := by decide +kernel
theorem d0_296 : mm_dec q0 296 = some (.iload 4) := by decide +kernel
theorem d0_298 : mm_dec q0 298 = some (.iconst 1) := by decide +kernel
theorem d0_299 : mm_dec q0 299 = some (.iadd) := by decide +kernel
theorem d0_300 : mm_dec q0 300 = some (.iaload) := by decide +kernel
theorem d0_301 : mm_dec q0 301 = some (.invokevirtual 29) := by decide +kernel
theorem d0_304 : mm_dec q0 304 = some (.aload_n 2) := by decide +kernel
theorem d0_305 : mm_dec q0 305 = some (.aload_n 0) := by decide +kernel
theorem d0_306 : mm_dec q0 306 = some (.iload 4) := by decide +kernel
theorem d0_308 : mm_dec q0 308 = some (.iconst 1) := by decide +kernel
theorem d0_309 : mm_dec q0 309 = some (.iadd) := by decide +kernel
theorem d0_310 : mm_dec q0 310 = some (.iaload) := by decide +kernel
theorem d0_311 : mm_dec q0 311 = some (.invokevirtual 33) := by decide +kernel
theorem d0_314 : mm_dec q0 314 = some (.if_icmp .eq 1136) := by decide +kernel
theorem d0_317 : mm_dec q0 317 = some (.iconst 0) := by decide +kernel
theorem d0_318 : mm_dec q0 318 = some (.ireturn) := by decide +kernel
theorem d0_319 : mm_dec q0 319 = some (.aload_n 1) := by decide +kernel
theorem d0_320 : mm_dec q0 320 = some (.aload_n 0) := by decide +kernel
theorem d0_321 : mm_dec q0 321 = some (.iload 4) := by decide +kernel
theorem d0_323 : mm_dec q0 323 = some (.iconst 1) := by decide +kernel
theorem d0_324 : mm_dec q0 324 = some (.iadd) := by decide +kernel
theorem d0_325 : mm_dec q0 325 = some (.iaload) := by decide +kernel
theorem d0_326 : mm_dec q0 326 = some (.invokevirtual 34) := by decide +kernel
theorem d0_329 : mm_dec q0 329 = some (.aload_n 2) := by decide +kernel
theorem d0_330 : mm_dec q0 330 = some (.aload_n 0) := by decide +kernel
theorem d0_331 : mm_dec q0 331 = some (.iload 4) := by decide +kernel
theorem d0_333 : mm_dec q0 333 = some (.iconst 1) := by decide +kernel
theorem d0_334 : mm_dec q0 334 = some (.iadd) := by decide +kernel
theorem d0_335 : mm_dec q0 335 = some (.iaload) := by decide +kernel
theorem d0_336 : mm_dec q0 336 = some (.invokevirtual 37) := by decide +kernel
theorem d0_339 : mm_dec q0 339 = some (.if_icmp .eq 1111) := by decide +kernel
theorem d0_342 : mm_dec q0 342 = some (.iconst 0) := by decide +kernel
theorem d0_343 : mm_dec q0 343 = some (.ireturn) := by decide +kernel
theorem d0_344 : mm_dec q0 344 = some (.aload_n 1) := by decide +kernel
theorem d0_345 : mm_dec q0 345 = some (.aload_n 0) := by decide +kernel
theorem d0_346 : mm_dec q0 346 = some (.iload 4) := by decide +kernel
theorem d0_348 : mm_dec q0 348 = some (.iconst 1) := by decide +kernel
theorem d0_349 : mm_dec q0 349 = some (.iadd) := by decide +kernel
theorem d0_350 : mm_dec q0 350 = some (.iaload) := by decide +kernel
theorem d0_351 : mm_dec q0 351 = some (.aload_n 0) := by decide +kernel
theorem d0_352 : mm_dec q0 352 = some (.iload 4) := by decide +kernel
theorem d0_354 : mm_dec q0 354 = some (.iconst 2) := by decide +kernel
theorem d0_355 : mm_dec q0 355 = some (.iadd) := by decide +kernel
theorem d0_356 : mm_dec q0 356 = some (.iaload) := by decide +kernel
theorem d0_357 : mm_dec q0 357 = some (.aload_n 3) := by decide +kernel
theorem d0_358 : mm_dec q0 358 = some (.invokestatic 38) := by decide +kernel
theorem d0_361 : mm_dec q0 361 = some (.istore 5) := by decide +kernel
theorem d0_363 : mm_dec q0 363 = some (.aload_n 2) := by decide +kernel
theorem d0_364 : mm_dec q0 364 = some (.aload_n 0) := by decide +kernel
theorem d0_365 : mm_dec q0 365 = some (.iload 4) := by decide +kernel
theorem d0_367 : mm_dec q0 367 = some (.iconst 1) := by decide +kernel
theorem d0_368 : mm_dec q0 368 = some (.iadd) := by decide +kernel
theorem d0_369 : mm_dec q0 369 = some (.iaload) := by decide +kernel
theorem d0_370 : mm_dec q0 370 = some (.aload_n 0) := by decide +kernel
theorem d0_371 : mm_dec q0 371 = some (.iload 4) := by decide +kernel
theorem d0_373 : mm_dec q0 373 = some (.iconst 2) := by decide +kernel
theorem d0_374 : mm_dec q0 374 = some (.iadd) := by decide +kernel
theorem d0_375 : mm_dec q0 375 = some (.iaload) := by decide +kernel
theorem d0_376 : mm_dec q0 376 = some (.invokevirtual 43) := by decide +kernel
theorem d0_379 : mm_dec q0 379 = some (.istore 6) := by decide +kernel
theorem d0_381 : mm_dec q0 381 = some (.aload_n 2) := by decide +kernel
theorem d0_382 : mm_dec q0 382 = some (.invokevirtual 44) := by decide +kernel
theorem d0_385 : mm_dec q0 385 = some (.iload 5) := by decide +kernel
theorem d0_387 : mm_dec q0 387 = some (.if_icmp .eq 5) := by decide +kernel
theorem d0_390 : mm_dec q0 390 = some (.iconst 0) := by decide +kernel
theorem d0_391 : mm_dec q0 391 = some (.ireturn) := by decide +kernel
theorem d0_392 : mm_dec q0 392 = some (.iload 5) := by decide +kernel
theorem d0_394 : mm_dec q0 394 = some (.ifCond .ne 15) := by decide +kernel
theorem d0_397 : mm_dec q0 397 = some (.aload_n 3) := by decide +kernel
theorem d0_398 : mm_dec q0 398 = some (.iconst 0) := by decide +kernel
theorem d0_399 : mm_dec q0 399 = some (.laload) := by decide +kernel
theorem d0_400 : mm_dec q0 400 = some (.iload 6) := by decide +kernel
theorem d0_402 : mm_dec q0 402 = some (.i2l) := by decide +kernel
theorem d0_403 : mm_dec q0 403 = some (.lcmp) := by decide +kernel
theorem d0_404 : mm_dec q0 404 = some (.ifCond .eq 5) := by decide +kernel
theorem d0_407 : mm_dec q0 407 = some (.iconst 0) := by decide +kernel
theorem d0_408 : mm_dec q0 408 = some (.ireturn) := by decide +kernel
theorem d0_409 : mm_dec q0 409 = some (.goto 1041) := by decide +kernel
theorem d0_412 : mm_dec q0 412 = some (.aload_n 1) := by decide +kernel
theorem d0_413 : mm_dec q0 413 = some (.aload_n 0) := by decide +kernel
theorem d0_414 : mm_dec q0 414 = some (.iload 4) := by decide +kernel
theorem d0_416 : mm_dec q0 416 = some (.iconst 1) := by decide +kernel
theorem d0_417 : mm_dec q0 417 = some (.iadd) := by decide +kernel
theorem d0_418 : mm_dec q0 418 = some (.iaload) := by decide +kernel
theorem d0_419 : mm_dec q0 419 = some (.aload_n 0) := by decide +kernel
theorem d0_420 : mm_dec q0 420 = some (.iload 4) := by decide +kernel
theorem d0_422 : mm_dec q0 422 = some (.iconst 2) := by decide +kernel
theorem d0_423 : mm_dec q0 423 = some (.iadd) := by decide +kernel
theorem d0_424 : mm_dec q0 424 = some (.iaload) := by decide +kernel
theorem d0_425 : mm_dec q0 425 = some (.invokevirtual 48) := by decide +kernel
theorem d0_428 : mm_dec q0 428 = some (.aload_n 2) := by decide +kernel
theorem d0_429 : mm_dec q0 429 = some (.aload_n 0) := by decide +kernel
theorem d0_430 : mm_dec q0 430 = some (.iload 4) := by decide +kernel
theorem d0_432 : mm_dec q0 432 = some (.iconst 1) := by decide +kernel
theorem d0_433 : mm_dec q0 433 = some (.iadd) := by decide +kernel
theorem d0_434 : mm_dec q0 434 = some (.iaload) := by decide +kernel
theorem d0_435 : mm_dec q0 435 = some (.aload_n 0) := by decide +kernel
theorem d0_436 : mm_dec q0 436 = some (.iload 4) := by decide +kernel
theorem d0_438 : mm_dec q0 438 = some (.iconst 2) := by decide +kernel
theorem d0_439 : mm_dec q0 439 = some (.iadd) := by decide +kernel
theorem d0_440 : mm_dec q0 440 = some (.iaload) := by decide +kernel
theorem d0_441 : mm_dec q0 441 = some (.invokevirtual 51) := by decide +kernel
theorem d0_444 : mm_dec q0 444 = some (.if_icmp .eq 1006) := by decide +kernel
theorem d0_447 : mm_dec q0 447 = some (.iconst 0) := by decide +kernel
theorem d0_448 : mm_dec q0 448 = some (.ireturn) := by decide +kernel
theorem d0_449 : mm_dec q0 449 = some (.aload_n 1) := by decide +kernel
theorem d0_450 : mm_dec q0 450 = some (.aload_n 0) := by decide +kernel
theorem d0_451 : mm_dec q0 451 = some (.iload 4) := by decide +kernel
theorem d0_453 : mm_dec q0 453 = some (.iconst 1) := by decide +kernel
theorem d0_454 : mm_dec q0 454 = some (.iadd) := by decide +kernel
theorem d0_455 : mm_dec q0 455 = some (.iaload) := by decide +kernel
theorem d0_456 : mm_dec q0 456 = some (.invokevirtual 52) := by decide +kernel
theorem d0_459 : mm_dec q0 459 = some (.aload_n 2) := by decide +kernel
theorem d0_460 : mm_dec q0 460 = some (.aload_n 0) := by decide +kernel
theorem d0_461 : mm_dec q0 461 = some (.iload 4) := by decide +kernel
theorem d0_463 : mm_dec q0 463 = some (.iconst 1) := by decide +kernel
theorem d0_464 : mm_dec q0 464 = some (.iadd) := by decide +kernel
theorem d0_465 : mm_dec q0 465 = some (.iaload) := by decide +kernel
theorem d0_466 : mm_dec q0 466 = some (.invokevirtual 55) := by decide +kernel
theorem d0_469 : mm_dec q0 469 = some (.if_icmp .eq 981) := by decide +kernel
theorem d0_472 : mm_dec q0 472 = some (.iconst 0) := by decide +kernel
theorem d0_473 : mm_dec q0 473 = some (.ireturn) := by decide +kernel
theorem d0_474 : mm_dec q0 474 = some (.aload_n 1) := by decide +kernel
theorem d0_475 : mm_dec q0 475 = some (.aload_n 0) := by decide +kernel
theorem d0_476 : mm_dec q0 476 = some (.iload 4) := by decide +kernel
theorem d0_478 : mm_dec q0 478 = some (.iconst 1) := by decide +kernel
theorem d0_479 : mm_dec q0 479 = some (.iadd) := by decide +kernel
theorem d0_480 : mm_dec q0 480 = some (.iaload) := by decide +kernel
theorem d0_481 : mm_dec q0 481 = some (.aload_n 0) := by decide +kernel
theorem d0_482 : mm_dec q0 482 = some (.iload 4) := by decide +kernel
theorem d0_484 : mm_dec q0 484 = some (.iconst 2) := by decide +kernel
theorem d0_485 : mm_dec q0 485 = some (.iadd) := by decide +kernel
theorem d0_486 : mm_dec q0 486 = some (.iaload) := by decide +kernel
theorem d0_487 : mm_dec q0 487 = some (.aload_n 0) := by decide +kernel
theorem d0_488 : mm_dec q0 488 = some (.iload 4) := by decide +kernel
theorem d0_490 : mm_dec q0 490 = some (.iconst 3) := by decide +kernel
theorem d0_491 : mm_dec q0 491 = some (.iadd) := by decide +kernel
theorem d0_492 : mm_dec q0 492 = some (.iaload) := by decide +kernel
theorem d0_493 : mm_dec q0 493 = some (.invokevirtual 56) := by decide +kernel
theorem d0_496 : mm_dec q0 496 = some (.aload_n 2) := by decide +kernel
theorem d0_497 : mm_dec q0 497 = some (.aload_n 0) := by decide +kernel
theorem d0_498 : mm_dec q0 498 = some (.iload 4) := by decide +kernel
theorem d0_500 : mm_dec q0 500 = some (.iconst 1) := by decide +kernel
theorem d0_501 : mm_dec q0 501 = some (.iadd) := by decide +kernel
theorem d0_502 : mm_dec q0 502 = some (.iaload) := by decide +kernel
theorem d0_503 : mm_dec q0 503 = some (.aload_n 0) := by decide +kernel
theorem d0_504 : mm_dec q0 504 = some (.iload 4) := by decide +kernel
theorem d0_506 : mm_dec q0 506 = some (.iconst 2) := by decide +kernel
theorem d0_507 : mm_dec q0 507 = some (.iadd) := by decide +kernel
theorem d0_508 : mm_dec q0 508 = some (.iaload) := by decide +kernel
theorem d0_509 : mm_dec q0 509 = some (.aload_n 0) := by decide +kernel
theorem d0_510 : mm_dec q0 510 = some (.iload 4) := by decide +kernel
theorem d0_512 : mm_dec q0 512 = some (.iconst 3) := by decide +kernel
theorem d0_513 : mm_dec q0 513 = some (.iadd) := by decide +kernel
theorem d0_514 : mm_dec q0 514 = some (.iaload) := by decide +kernel
theorem d0_515 : mm_dec q0 515 = some (.invokevirtual 60) := by decide +kernel
theorem d0_518 : mm_dec q0 518 = some (.if_icmp .eq 932) := by decide +kernel
theorem d0_521 : mm_dec q0 521 = some (.iconst 0) := by decide +kernel
theorem d0_522 : mm_dec q0 522 = some (.ireturn) := by decide +kernel
theorem d0_523 : mm_dec q0 523 = some (.aload_n 1) := by decide +kernel
theorem d0_524 : mm_dec q0 524 = some (.aload_n 0) := by decide +kernel
theorem d0_525 : mm_dec q0 525 = some (.iload 4) := by decide +kernel
theorem d0_527 : mm_dec q0 527 = some (.iconst 1) := by decide +kernel
theorem d0_528 : mm_dec q0 528 = some (.iadd) := by decide +kernel
theorem d0_529 : mm_dec q0 529 = some (.iaload) := by decide +kernel
theorem d0_530 : mm_dec q0 530 = some (.invokevirtual 61) := by decide +kernel
theorem d0_533 : mm_dec q0 533 = some (.aload_n 2) := by decide +kernel
theorem d0_534 : mm_dec q0 534 = some (.aload_n 0) := by decide +kernel
theorem d0_535 : mm_dec q0 535 = some (.iload 4) := by decide +kernel
theorem d0_537 : mm_dec q0 537 = some (.iconst 1) := by decide +kernel
theorem d0_538 : mm_dec q0 538 = some (.iadd) := by decide +kernel
theorem d0_539 : mm_dec q0 539 = some (.iaload) := by decide +kernel
theorem d0_540 : mm_dec q0 540 = some (.invokevirtual 64) := by decide +kernel
theorem d0_543 : mm_dec q0 543 = some (.if_icmp .eq 907) := by decide +kernel
theorem d0_546 : mm_dec q0 546 = some (.iconst 0) := by decide +kernel
theorem d0_547 : mm_dec q0 547 = some (.ireturn) := by decide +kernel
theorem d0_548 : mm_dec q0 548 = some (.aload_n 1) := by decide +kernel
theorem d0_549 : mm_dec q0 549 = some (.aload_n 0) := by decide +kernel
theorem d0_550 : mm_dec q0 550 = some (.iload 4) := by decide +kernel
theorem d0_552 : mm_dec q0 552 = some (.iconst 1) := by decide +kernel
theorem d0_553 : mm_dec q0 553 = some (.iadd) := by decide +kernel
theorem d0_554 : mm_dec q0 554 = some (.iaload) := by decide +kernel
theorem d0_555 : mm_dec q0 555 = some (.i2l) := by decide +kernel
theorem d0_556 : mm_dec q0 556 = some (.bipush 32) := by decide +kernel
theorem d0_558 : mm_dec q0 558 = some (.lshl) := by decide +kernel
theorem d0_559 : mm_dec q0 559 = some (.aload_n 0) := by decide +kernel
theorem d0_560 : mm_dec q0 560 = some (.iload 4) := by decide +kernel
theorem d0_562 : mm_dec q0 562 = some (.iconst 2) := by decide +kernel
theorem d0_563 : mm_dec q0 563 = some (.iadd) := by decide +kernel
theorem d0_564 : mm_dec q0 564 = some (.iaload) := by decide +kernel
theorem d0_565 : mm_dec q0 565 = some (.i2l) := by decide +kernel
theorem d0_566 : mm_dec q0 566 = some (.ldc2_w 65) := by decide +kernel
theorem d0_569 : mm_dec q0 569 = some (.land) := by decide +kernel
theorem d0_570 : mm_dec q0 570 = some (.lor) := by decide +kernel
theorem d0_571 : mm_dec q0 571 = some (.invokevirtual 67) := by decide +kernel
theorem d0_574 : mm_dec q0 574 = some (.aload_n 2) := by decide +kernel
theorem d0_575 : mm_dec q0 575 = some (.aload_n 0) := by decide +kernel
theorem d0_576 : mm_dec q0 576 = some (.iload 4) := by decide +kernel
theorem d0_578 : mm_dec q0 578 = some (.iconst 1) := by decide +kernel
theorem d0_579 : mm_dec q0 579 = some (.iadd) := by decide +kernel
theorem d0_580 : mm_dec q0 580 = some (.iaload) := by decide +kernel
theorem d0_581 : mm_dec q0 581 = some (.i2l) := by decide +kernel
theorem d0_582 : mm_dec q0 582 = some (.bipush 32) := by decide +kernel
theorem d0_584 : mm_dec q0 584 = some (.lshl) := by decide +kernel
theorem d0_585 : mm_dec q0 585 = some (.aload_n 0) := by decide +kernel
theorem d0_586 : mm_dec q0 586 = some (.iload 4) := by decide +kernel
theorem d0_588 : mm_dec q0 588 = some (.iconst 2) := by decide +kernel
theorem d0_589 : mm_dec q0 589 = some (.iadd) := by decide +kernel
theorem d0_590 : mm_dec q0 590 = some (.iaload) := by decide +kernel
theorem d0_591 : mm_dec q0 591 = some (.i2l) := by decide +kernel
theorem d0_592 : mm_dec q0 592 = some (.ldc2_w 65) := by decide +kernel
theorem d0_595 : mm_dec q0 595 = some (.land) := by decide +kernel
theorem d0_596 : mm_dec q0 596 = some (.lor) := by decide +kernel
theorem d0_597 : mm_dec q0 597 = some (.invokevirtual 71) := by decide +kernel
theorem d0_600 : mm_dec q0 600 = some (.if_icmp .eq 850) := by decide +kernel
theorem d0_603 : mm_dec q0 603 = some (.iconst 0) := by decide +kernel
theorem d0_604 : mm_dec q0 604 = some (.ireturn) := by decide +kernel
theorem d0_605 : mm_dec q0 605 = some (.aload_n 1) := by decide +kernel
theorem d0_606 : mm_dec q0 606 = some (.aload_n 0) := by decide +kernel
theorem d0_607 : mm_dec q0 607 = some (.iload 4) := by decide +kernel
theorem d0_609 : mm_dec q0 609 = some (.iconst 1) := by decide +kernel
theorem d0_610 : mm_dec q0 610 = some (.iadd) := by decide +kernel
theorem d0_611 : mm_dec q0 611 = some (.iaload) := by decide +kernel
theorem d0_612 : mm_dec q0 612 = some (.invokevirtual 72) := by decide +kernel
theorem d0_615 : mm_dec q0 615 = some (.aload_n 2) := by decide +kernel
theorem d0_616 : mm_dec q0 616 = some (.aload_n 0) := by decide +kernel
theorem d0_617 : mm_dec q0 617 = some (.iload 4) := by decide +kernel
theorem d0_619 : mm_dec q0 619 = some (.iconst 1) := by decide +kernel
theorem d0_620 : mm_dec q0 620 = some (.iadd) := by decide +kernel
theorem d0_621 : mm_dec q0 621 = some (.iaload) := by decide +kernel
theorem d0_622 : mm_dec q0 622 = some (.invokevirtual 75) := by decide +kernel
theorem d0_625 : mm_dec q0 625 = some (.if_icmp .eq 825) := by decide +kernel
theorem d0_628 : mm_dec q0 628 = some (.iconst 0) := by decide +kernel
theorem d0_629 : mm_dec q0 629 = some (.ireturn) := by decide +kernel
theorem d0_630 : mm_dec q0 630 = some (.aload_n 1) := by decide +kernel
theorem d0_631 : mm_dec q0 631 = some (.invokevirtual 76) := by decide +kernel
theorem d0_634 : mm_dec q0 634 = some (.aload_n 2) := by decide +kernel
theorem d0_635 : mm_dec q0 635 = some (.invokevirtual 79) := by decide +kernel
theorem d0_638 : mm_dec q0 638 = some (.if_icmp .eq 812) := by decide +kernel
theorem d0_641 : mm_dec q0 641 = some (.iconst 0) := by decide +kernel
theorem d0_642 : mm_dec q0 642 = some (.ireturn) := by decide +kernel
theorem d0_643 : mm_dec q0 643 = some (.aload_n 1) := by decide +kernel
theorem d0_644 : mm_dec q0 644 = some (.aload_n 0) := by decide +kernel
theorem d0_645 : mm_dec q0 645 = some (.iload 4) := by decide +kernel
theorem d0_647 : mm_dec q0 647 = some (.iconst 1) := by decide +kernel
theorem d0_648 : mm_dec q0 648 = some (.iadd) := by decide +kernel
theorem d0_649 : mm_dec q0 649 = some (.iaload) := by decide +kernel
theorem d0_650 : mm_dec q0 650 = some (.aload_n 0) := by decide +kernel
theorem d0_651 : mm_dec q0 651 = some (.iload 4) := by decide +kernel
theorem d0_653 : mm_dec q0 653 = some (.iconst 2) := by decide +kernel
theorem d0_654 : mm_dec q0 654 = some (.iadd) := by decide +kernel
theorem d0_655 : mm_dec q0 655 = some (.iaload) := by decide +kernel
theorem d0_656 : mm_dec q0 656 = some (.aload_n 0) := by decide +kernel
theorem d0_657 : mm_dec q0 657 = some (.iload 4) := by decide +kernel
theorem d0_659 : mm_dec q0 659 = some (.iconst 3) := by decide +kernel
theorem d0_660 : mm_dec q0 660 = some (.iadd) := by decide +kernel
theorem d0_661 : mm_dec q0 661 = some (.iaload) := by decide +kernel
theorem d0_662 : mm_dec q0 662 = some (.invokevirtual 80) := by decide +kernel
theorem d0_665 : mm_dec q0 665 = some (.aload_n 2) := by decide +kernel
theorem d0_666 : mm_dec q0 666 = some (.aload_n 0) := by decide +kernel
theorem d0_667 : mm_dec q0 667 = some (.iload 4) := by decide +kernel
theorem d0_669 : mm_dec q0 669 = some (.iconst 1) := by decide +kernel
theorem d0_670 : mm_dec q0 670 = some (.iadd) := by decide +kernel
theorem d0_671 : mm_dec q0 671 = some (.iaload) := by decide +kernel
theorem d0_672 : mm_dec q0 672 = some (.aload_n 0) := by decide +kernel
theorem d0_673 : mm_dec q0 673 = some (.iload 4) := by decide +kernel
theorem d0_675 : mm_dec q0 675 = some (.iconst 2) := by decide +kernel
theorem d0_676 : mm_dec q0 676 = some (.iadd) := by decide +kernel
theorem d0_677 : mm_dec q0 677 = some (.iaload) := by decide +kernel
theorem d0_678 : mm_dec q0 678 = some (.aload_n 0) := by decide +kernel
theorem d0_679 : mm_dec q0 679 = some (.iload 4) := by decide +kernel
theorem d0_681 : mm_dec q0 681 = some (.iconst 3) := by decide +kernel
theorem d0_682 : mm_dec q0 682 = some (.iadd) := by decide +kernel
theorem d0_683 : mm_dec q0 683 = some (.iaload) := by decide +kernel
theorem d0_684 : mm_dec q0 684 = some (.invokevirtual 84) := by decide +kernel
theorem d0_687 : mm_dec q0 687 = some (.if_icmp .eq 763) := by decide +kernel
theorem d0_690 : mm_dec q0 690 = some (.iconst 0) := by decide +kernel
theorem d0_691 : mm_dec q0 691 = some (.ireturn) := by decide +kernel
theorem d0_692 : mm_dec q0 692 = some (.aload_n 1) := by decide +kernel
theorem d0_693 : mm_dec q0 693 = some (.aload_n 0) := by decide +kernel
theorem d0_694 : mm_dec q0 694 = some (.iload 4) := by decide +kernel
theorem d0_696 : mm_dec q0 696 = some (.iconst 1) := by decide +kernel
theorem d0_697 : mm_dec q0 697 = some (.iadd) := by decide +kernel
theorem d0_698 : mm_dec q0 698 = some (.iaload) := by decide +kernel
theorem d0_699 : mm_dec q0 699 = some (.aload_n 0) := by decide +kernel
theorem d0_700 : mm_dec q0 700 = some (.iload 4) := by decide +kernel
theorem d0_702 : mm_dec q0 702 = some (.iconst 2) := by decide +kernel
theorem d0_703 : mm_dec q0 703 = some (.iadd) := by decide +kernel
theorem d0_704 : mm_dec q0 704 = some (.iaload) := by decide +kernel
theorem d0_705 : mm_dec q0 705 = some (.invokevirtual 85) := by decide +kernel
theorem d0_708 : mm_dec q0 708 = some (.aload_n 2) := by decide +kernel
theorem d0_709 : mm_dec q0 709 = some (.aload_n 0) := by decide +kernel
theorem d0_710 : mm_dec q0 710 = some (.iload 4) := by decide +kernel
theorem d0_712 : mm_dec q0 712 = some (.iconst 1) := by decide +kernel
theorem d0_713 : mm_dec q0 713 = some (.iadd) := by decide +kernel
theorem d0_714 : mm_dec q0 714 = some (.iaload) := by decide +kernel
theorem d0_715 : mm_dec q0 715 = some (.aload_n 0) := by decide +kernel
theorem d0_716 : mm_dec q0 716 = some (.iload 4) := by decide +kernel
theorem d0_718 : mm_dec q0 718 = some (.iconst 2) := by decide +kernel
theorem d0_719 : mm_dec q0 719 = some (.iadd) := by decide +kernel
theorem d0_720 : mm_dec q0 720 = some (.iaload) := by decide +kernel
theorem d0_721 : mm_dec q0 721 = some (.invokevirtual 88) := by decide +kernel
theorem d0_724 : mm_dec q0 724 = some (.if_icmp .eq 726) := by decide +kernel
theorem d0_727 : mm_dec q0 727 = some (.iconst 0) := by decide +kernel
theorem d0_728 : mm_dec q0 728 = some (.ireturn) := by decide +kernel
theorem d0_729 : mm_dec q0 729 = some (.aload_n 1) := by decide +kernel
theorem d0_730 : mm_dec q0 730 = some (.aload_n 0) := by decide +kernel
theorem d0_731 : mm_dec q0 731 = some (.iload 4) := by decide +kernel
theorem d0_733 : mm_dec q0 733 = some (.iconst 1) := by decide +kernel
theorem d0_734 : mm_dec q0 734 = some (.iadd) := by decide +kernel
theorem d0_735 : mm_dec q0 735 = some (.iaload) := by decide +kernel
theorem d0_736 : mm_dec q0 736 = some (.aload_n 0) := by decide +kernel
theorem d0_737 : mm_dec q0 737 = some (.iload 4) := by decide +kernel
theorem d0_739 : mm_dec q0 739 = some (.iconst 2) := by decide +kernel
theorem d0_740 : mm_dec q0 740 = some (.iadd) := by decide +kernel
theorem d0_741 : mm_dec q0 741 = some (.iaload) := by decide +kernel
theorem d0_742 : mm_dec q0 742 = some (.invokevirtual 89) := by decide +kernel
theorem d0_745 : mm_dec q0 745 = some (.aload_n 2) := by decide +kernel
theorem d0_746 : mm_dec q0 746 = some (.aload_n 0) := by decide +kernel
theorem d0_747 : mm_dec q0 747 = some (.iload 4) := by decide +kernel
theorem d0_749 : mm_dec q0 749 = some (.iconst 1) := by decide +kernel
theorem d0_750 : mm_dec q0 750 = some (.iadd) := by decide +kernel
theorem d0_751 : mm_dec q0 751 = some (.iaload) := by decide +kernel
theorem d0_752 : mm_dec q0 752 = some (.aload_n 0) := by decide +kernel
theorem d0_753 : mm_dec q0 753 = some (.iload 4) := by decide +kernel
theorem d0_755 : mm_dec q0 755 = some (.iconst 2) := by decide +kernel
theorem d0_756 : mm_dec q0 756 = some (.iadd) := by decide +kernel
theorem d0_757 : mm_dec q0 757 = some (.iaload) := by decide +kernel
theorem d0_758 : mm_dec q0 758 = some (.invokevirtual 92) := by decide +kernel
theorem d0_761 : mm_dec q0 761 = some (.if_icmp .eq 689) := by decide +kernel
theorem d0_764 : mm_dec q0 764 = some (.iconst 0) := by decide +kernel
theorem d0_765 : mm_dec q0 765 = some (.ireturn) := by decide +kernel
theorem d0_766 : mm_dec q0 766 = some (.aload_n 1) := by decide +kernel
theorem d0_767 : mm_dec q0 767 = some (.aload_n 0) := by decide +kernel
theorem d0_768 : mm_dec q0 768 = some (.iload 4) := by decide +kernel
theorem d0_770 : mm_dec q0 770 = some (.iconst 1) := by decide +kernel
theorem d0_771 : mm_dec q0 771 = some (.iadd) := by decide +kernel
theorem d0_772 : mm_dec q0 772 = some (.iaload) := by decide +kernel
theorem d0_773 : mm_dec q0 773 = some (.aload_n 0) := by decide +kernel
theorem d0_774 : mm_dec q0 774 = some (.iload 4) := by decide +kernel
theorem d0_776 : mm_dec q0 776 = some (.iconst 2) := by decide +kernel
theorem d0_777 : mm_dec q0 777 = some (.iadd) := by decide +kernel
theorem d0_778 : mm_dec q0 778 = some (.iaload) := by decide +kernel
theorem d0_779 : mm_dec q0 779 = some (.invokevirtual 93) := by decide +kernel
theorem d0_782 : mm_dec q0 782 = some (.aload_n 2) := by decide +kernel
theorem d0_783 : mm_dec q0 783 = some (.aload_n 0) := by decide +kernel
theorem d0_784 : mm_dec q0 784 = some (.iload 4) := by decide +kernel
theorem d0_786 : mm_dec q0 786 = some (.iconst 1) := by decide +kernel
theorem d0_787 : mm_dec q0 787 = some (.iadd) := by decide +kernel
theorem d0_788 : mm_dec q0 788 = some (.iaload) := by decide +kernel
theorem d0_789 : mm_dec q0 789 = some (.aload_n 0) := by decide +kernel
theorem d0_790 : mm_dec q0 790 = some (.iload 4) := by decide +kernel
theorem d0_792 : mm_dec q0 792 = some (.iconst 2) := by decide +kernel
theorem d0_793 : mm_dec q0 793 = some (.iadd) := by decide +kernel
theorem d0_794 : mm_dec q0 794 = some (.iaload) := by decide +kernel
theorem d0_795 : mm_dec q0 795 = some (.invokevirtual 96) := by decide +kernel
theorem d0_798 : mm_dec q0 798 = some (.if_icmp .eq 652) := by decide +kernel
theorem d0_801 : mm_dec q0 801 = some (.iconst 0) := by decide +kernel
theorem d0_802 : mm_dec q0 802 = some (.ireturn) := by decide +kernel
theorem d0_803 : mm_dec q0 803 = some (.aload_n 1) := by decide +kernel
theorem d0_804 : mm_dec q0 804 = some (.aload_n 0) := by decide +kernel
theorem d0_805 : mm_dec q0 805 = some (.iload 4) := by decide +kernel
theorem d0_807 : mm_dec q0 807 = some (.iconst 1) := by decide +kernel
theorem d0_808 : mm_dec q0 808 = some (.iadd) := by decide +kernel
theorem d0_809 : mm_dec q0 809 = some (.iaload) := by decide +kernel
theorem d0_810 : mm_dec q0 810 = some (.aload_n 0) := by decide +kernel
theorem d0_811 : mm_dec q0 811 = some (.iload 4) := by decide +kernel
theorem d0_813 : mm_dec q0 813 = some (.iconst 2) := by decide +kernel
theorem d0_814 : mm_dec q0 814 = some (.iadd) := by decide +kernel
theorem d0_815 : mm_dec q0 815 = some (.iaload) := by decide +kernel
theorem d0_816 : mm_dec q0 816 = some (.invokevirtual 97) := by decide +kernel
theorem d0_819 : mm_dec q0 819 = some (.aload_n 2) := by decide +kernel
theorem d0_820 : mm_dec q0 820 = some (.aload_n 0) := by decide +kernel
theorem d0_821 : mm_dec q0 821 = some (.iload 4) := by decide +kernel
theorem d0_823 : mm_dec q0 823 = some (.iconst 1) := by decide +kernel
theorem d0_824 : mm_dec q0 824 = some (.iadd) := by decide +kernel
theorem d0_825 : mm_dec q0 825 = some (.iaload) := by decide +kernel
theorem d0_826 : mm_dec q0 826 = some (.aload_n 0) := by decide +kernel
theorem d0_827 : mm_dec q0 827 = some (.iload 4) := by decide +kernel
theorem d0_829 : mm_dec q0 829 = some (.iconst 2) := by decide +kernel
theorem d0_830 : mm_dec q0 830 = some (.iadd) := by decide +kernel
theorem d0_831 : mm_dec q0 831 = some (.iaload) := by decide +kernel
theorem d0_832 : mm_dec q0 832 = some (.invokevirtual 100) := by decide +kernel
theorem d0_835 : mm_dec q0 835 = some (.if_icmp .eq 615) := by decide +kernel
theorem d0_838 : mm_dec q0 838 = some (.iconst 0) := by decide +kernel
theorem d0_839 : mm_dec q0 839 = some (.ireturn) := by decide +kernel
theorem d0_840 : mm_dec q0 840 = some (.aload_n 1) := by decide +kernel
theorem d0_841 : mm_dec q0 841 = some (.aload_n 0) := by decide +kernel
theorem d0_842 : mm_dec q0 842 = some (.iload 4) := by decide +kernel
theorem d0_844 : mm_dec q0 844 = some (.iconst 1) := by decide +kernel
theorem d0_845 : mm_dec q0 845 = some (.iadd) := by decide +kernel
theorem d0_846 : mm_dec q0 846 = some (.iaload) := by decide +kernel
theorem d0_847 : mm_dec q0 847 = some (.aload_n 0) := by decide +kernel
theorem d0_848 : mm_dec q0 848 = some (.iload 4) := by decide +kernel
theorem d0_850 : mm_dec q0 850 = some (.iconst 2) := by decide +kernel
theorem d0_851 : mm_dec q0 851 = some (.iadd) := by decide +kernel
theorem d0_852 : mm_dec q0 852 = some (.iaload) := by decide +kernel
theorem d0_853 : mm_dec q0 853 = some (.invokevirtual 101) := by decide +kernel
theorem d0_856 : mm_dec q0 856 = some (.aload_n 2) := by decide +kernel
theorem d0_857 : mm_dec q0 857 = some (.aload_n 0) := by decide +kernel
theorem d0_858 : mm_dec q0 858 = some (.iload 4) := by decide +kernel
theorem d0_860 : mm_dec q0 860 = some (.iconst 1) := by decide +kernel
theorem d0_861 : mm_dec q0 861 = some (.iadd) := by decide +kernel
theorem d0_862 : mm_dec q0 862 = some (.iaload) := by decide +kernel
theorem d0_863 : mm_dec q0 863 = some (.aload_n 0) := by decide +kernel
theorem d0_864 : mm_dec q0 864 = some (.iload 4) := by decide +kernel
theorem d0_866 : mm_dec q0 866 = some (.iconst 2) := by decide +kernel
theorem d0_867 : mm_dec q0 867 = some (.iadd) := by decide +kernel
theorem d0_868 : mm_dec q0 868 = some (.iaload) := by decide +kernel
theorem d0_869 : mm_dec q0 869 = some (.invokevirtual 104) := by decide +kernel
theorem d0_872 : mm_dec q0 872 = some (.if_icmp .eq 578) := by decide +kernel
theorem d0_875 : mm_dec q0 875 = some (.iconst 0) := by decide +kernel
theorem d0_876 : mm_dec q0 876 = some (.ireturn) := by decide +kernel
theorem d0_877 : mm_dec q0 877 = some (.aload_n 1) := by decide +kernel
theorem d0_878 : mm_dec q0 878 = some (.aload_n 0) := by decide +kernel
theorem d0_879 : mm_dec q0 879 = some (.iload 4) := by decide +kernel
theorem d0_881 : mm_dec q0 881 = some (.iconst 1) := by decide +kernel
theorem d0_882 : mm_dec q0 882 = some (.iadd) := by decide +kernel
theorem d0_883 : mm_dec q0 883 = some (.iaload) := by decide +kernel
theorem d0_884 : mm_dec q0 884 = some (.invokevirtual 105) := by decide +kernel
theorem d0_887 : mm_dec q0 887 = some (.aload_n 2) := by decide +kernel
theorem d0_888 : mm_dec q0 888 = some (.aload_n 0) := by decide +kernel
theorem d0_889 : mm_dec q0 889 = some (.iload 4) := by decide +kernel
theorem d0_891 : mm_dec q0 891 = some (.iconst 1) := by decide +kernel
theorem d0_892 : mm_dec q0 892 = some (.iadd) := by decide +kernel
theorem d0_893 : mm_dec q0 893 = some (.iaload) := by decide +kernel
theorem d0_894 : mm_dec q0 894 = some (.invokevirtual 108) := by decide +kernel
theorem d0_897 : mm_dec q0 897 = some (.if_icmp .eq 553) := by decide +kernel
theorem d0_900 : mm_dec q0 900 = some (.iconst 0) := by decide +kernel
theorem d0_901 : mm_dec q0 901 = some (.ireturn) := by decide +kernel
theorem d0_902 : mm_dec q0 902 = some (.aload_n 1) := by decide +kernel
theorem d0_903 : mm_dec q0 903 = some (.aload_n 0) := by decide +kernel
theorem d0_904 : mm_dec q0 904 = some (.iload 4) := by decide +kernel
theorem d0_906 : mm_dec q0 906 = some (.iconst 1) := by decide +kernel
theorem d0_907 : mm_dec q0 907 = some (.iadd) := by decide +kernel
theorem d0_908 : mm_dec q0 908 = some (.iaload) := by decide +kernel
theorem d0_909 : mm_dec q0 909 = some (.invokevirtual 109) := by decide +kernel
theorem d0_912 : mm_dec q0 912 = some (.aload_n 2) := by decide +kernel
theorem d0_913 : mm_dec q0 913 = some (.aload_n 0) := by decide +kernel
theorem d0_914 : mm_dec q0 914 = some (.iload 4) := by decide +kernel
theorem d0_916 : mm_dec q0 916 = some (.iconst 1) := by decide +kernel
theorem d0_917 : mm_dec q0 917 = some (.iadd) := by decide +kernel
theorem d0_918 : mm_dec q0 918 = some (.iaload) := by decide +kernel
theorem d0_919 : mm_dec q0 919 = some (.invokevirtual 112) := by decide +kernel
theorem d0_922 : mm_dec q0 922 = some (.if_icmp .eq 528) := by decide +kernel
theorem d0_925 : mm_dec q0 925 = some (.iconst 0) := by decide +kernel
theorem d0_926 : mm_dec q0 926 = some (.ireturn) := by decide +kernel
theorem d0_927 : mm_dec q0 927 = some (.aload_n 1) := by decide +kernel
theorem d0_928 : mm_dec q0 928 = some (.aload_n 0) := by decide +kernel
theorem d0_929 : mm_dec q0 929 = some (.iload 4) := by decide +kernel
theorem d0_931 : mm_dec q0 931 = some (.iconst 1) := by decide +kernel
theorem d0_932 : mm_dec q0 932 = some (.iadd) := by decide +kernel
theorem d0_933 : mm_dec q0 933 = some (.iaload) := by decide +kernel
theorem d0_934 : mm_dec q0 934 = some (.aload_n 0) := by decide +kernel
theorem d0_935 : mm_dec q0 935 = some (.iload 4) := by decide +kernel
theorem d0_937 : mm_dec q0 937 = some (.iconst 2) := by decide +kernel
theorem d0_938 : mm_dec q0 938 = some (.iadd) := by decide +kernel
theorem d0_939 : mm_dec q0 939 = some (.iaload) := by decide +kernel
theorem d0_940 : mm_dec q0 940 = some (.aload_n 0) := by decide +kernel
theorem d0_941 : mm_dec q0 941 = some (.iload 4) := by decide +kernel
theorem d0_943 : mm_dec q0 943 = some (.iconst 3) := by decide +kernel
theorem d0_944 : mm_dec q0 944 = some (.iadd) := by decide +kernel
theorem d0_945 : mm_dec q0 945 = some (.iaload) := by decide +kernel
theorem d0_946 : mm_dec q0 946 = some (.aload_n 0) := by decide +kernel
theorem d0_947 : mm_dec q0 947 = some (.iload 4) := by decide +kernel
theorem d0_949 : mm_dec q0 949 = some (.iconst 4) := by decide +kernel
theorem d0_950 : mm_dec q0 950 = some (.iadd) := by decide +kernel
theorem d0_951 : mm_dec q0 951 = some (.iaload) := by decide +kernel
theorem d0_952 : mm_dec q0 952 = some (.invokevirtual 113) := by decide +kernel
theorem d0_955 : mm_dec q0 955 = some (.aload_n 2) := by decide +kernel
theorem d0_956 : mm_dec q0 956 = some (.aload_n 0) := by decide +kernel
theorem d0_957 : mm_dec q0 957 = some (.iload 4) := by decide +kernel
theorem d0_959 : mm_dec q0 959 = some (.iconst 1) := by decide +kernel
theorem d0_960 : mm_dec q0 960 = some (.iadd) := by decide +kernel
theorem d0_961 : mm_dec q0 961 = some (.iaload) := by decide +kernel
theorem d0_962 : mm_dec q0 962 = some (.aload_n 0) := by decide +kernel
theorem d0_963 : mm_dec q0 963 = some (.iload 4) := by decide +kernel
theorem d0_965 : mm_dec q0 965 = some (.iconst 2) := by decide +kernel
theorem d0_966 : mm_dec q0 966 = some (.iadd) := by decide +kernel
theorem d0_967 : mm_dec q0 967 = some (.iaload) := by decide +kernel
theorem d0_968 : mm_dec q0 968 = some (.aload_n 0) := by decide +kernel
theorem d0_969 : mm_dec q0 969 = some (.iload 4) := by decide +kernel
theorem d0_971 : mm_dec q0 971 = some (.iconst 3) := by decide +kernel
theorem d0_972 : mm_dec q0 972 = some (.iadd) := by decide +kernel
theorem d0_973 : mm_dec q0 973 = some (.iaload) := by decide +kernel
theorem d0_974 : mm_dec q0 974 = some (.aload_n 0) := by decide +kernel
theorem d0_975 : mm_dec q0 975 = some (.iload 4) := by decide +kernel
theorem d0_977 : mm_dec q0 977 = some (.iconst 4) := by decide +kernel
theorem d0_978 : mm_dec q0 978 = some (.iadd) := by decide +kernel
theorem d0_979 : mm_dec q0 979 = some (.iaload) := by decide +kernel
theorem d0_980 : mm_dec q0 980 = some (.invokevirtual 117) := by decide +kernel
theorem d0_983 : mm_dec q0 983 = some (.if_icmp .eq 467) := by decide +kernel
theorem d0_986 : mm_dec q0 986 = some (.iconst 0) := by decide +kernel
theorem d0_987 : mm_dec q0 987 = some (.ireturn) := by decide +kernel
theorem d0_988 : mm_dec q0 988 = some (.aload_n 1) := by decide +kernel
theorem d0_989 : mm_dec q0 989 = some (.aload_n 0) := by decide +kernel
theorem d0_990 : mm_dec q0 990 = some (.iload 4) := by decide +kernel
theorem d0_992 : mm_dec q0 992 = some (.iconst 1) := by decide +kernel
theorem d0_993 : mm_dec q0 993 = some (.iadd) := by decide +kernel
theorem d0_994 : mm_dec q0 994 = some (.iaload) := by decide +kernel
theorem d0_995 : mm_dec q0 995 = some (.aload_n 0) := by decide +kernel
theorem d0_996 : mm_dec q0 996 = some (.iload 4) := by decide +kernel
theorem d0_998 : mm_dec q0 998 = some (.iconst 2) := by decide +kernel
theorem d0_999 : mm_dec q0 999 = some (.iadd) := by decide +kernel
theorem d0_1000 : mm_dec q0 1000 = some (.iaload) := by decide +kernel
theorem d0_1001 : mm_dec q0 1001 = some (.invokevirtual 118) := by decide +kernel
theorem d0_1004 : mm_dec q0 1004 = some (.aload_n 2) := by decide +kernel
theorem d0_1005 : mm_dec q0 1005 = some (.aload_n 0) := by decide +kernel
theorem d0_1006 : mm_dec q0 1006 = some (.iload 4) := by decide +kernel
theorem d0_1008 : mm_dec q0 1008 = some (.iconst 1) := by decide +kernel
theorem d0_1009 : mm_dec q0 1009 = some (.iadd) := by decide +kernel
theorem d0_1010 : mm_dec q0 1010 = some (.iaload) := by decide +kernel
theorem d0_1011 : mm_dec q0 1011 = some (.aload_n 0) := by decide +kernel
theorem d0_1012 : mm_dec q0 1012 = some (.iload 4) := by decide +kernel
theorem d0_1014 : mm_dec q0 1014 = some (.iconst 2) := by decide +kernel
theorem d0_1015 : mm_dec q0 1015 = some (.iadd) := by decide +kernel
theorem d0_1016 : mm_dec q0 1016 = some (.iaload) := by decide +kernel
theorem d0_1017 : mm_dec q0 1017 = some (.invokevirtual 121) := by decide +kernel
theorem d0_1020 : mm_dec q0 1020 = some (.if_icmp .eq 430) := by decide +kernel
theorem d0_1023 : mm_dec q0 1023 = some (.iconst 0) := by decide +kernel
theorem d0_1024 : mm_dec q0 1024 = some (.ireturn) := by decide +kernel
theorem d0_1025 : mm_dec q0 1025 = some (.aload_n 1) := by decide +kernel
theorem d0_1026 : mm_dec q0 1026 = some (.aload_n 0) := by decide +kernel
theorem d0_1027 : mm_dec q0 1027 = some (.iload 4) := by decide +kernel
theorem d0_1029 : mm_dec q0 1029 = some (.iconst 1) := by decide +kernel
theorem d0_1030 : mm_dec q0 1030 = some (.iadd) := by decide +kernel
theorem d0_1031 : mm_dec q0 1031 = some (.iaload) := by decide +kernel
theorem d0_1032 : mm_dec q0 1032 = some (.aload_n 0) := by decide +kernel
theorem d0_1033 : mm_dec q0 1033 = some (.iload 4) := by decide +kernel
theorem d0_1035 : mm_dec q0 1035 = some (.iconst 2) := by decide +kernel
theorem d0_1036 : mm_dec q0 1036 = some (.iadd) := by decide +kernel
theorem d0_1037 : mm_dec q0 1037 = some (.iaload) := by decide +kernel
theorem d0_1038 : mm_dec q0 1038 = some (.aload_n 0) := by decide +kernel
theorem d0_1039 : mm_dec q0 1039 = some (.iload 4) := by decide +kernel
theorem d0_1041 : mm_dec q0 1041 = some (.iconst 3) := by decide +kernel
theorem d0_1042 : mm_dec q0 1042 = some (.iadd) := by decide +kernel
theorem d0_1043 : mm_dec q0 1043 = some (.iaload) := by decide +kernel
theorem d0_1044 : mm_dec q0 1044 = some (.invokevirtual 122) := by decide +kernel
theorem d0_1047 : mm_dec q0 1047 = some (.aload_n 2) := by decide +kernel
theorem d0_1048 : mm_dec q0 1048 = some (.aload_n 0) := by decide +kernel
theorem d0_1049 : mm_dec q0 1049 = some (.iload 4) := by decide +kernel
theorem d0_1051 : mm_dec q0 1051 = some (.iconst 1) := by decide +kernel
theorem d0_1052 : mm_dec q0 1052 = some (.iadd) := by decide +kernel
theorem d0_1053 : mm_dec q0 1053 = some (.iaload) := by decide +kernel
theorem d0_1054 : mm_dec q0 1054 = some (.aload_n 0) := by decide +kernel
theorem d0_1055 : mm_dec q0 1055 = some (.iload 4) := by decide +kernel
theorem d0_1057 : mm_dec q0 1057 = some (.iconst 2) := by decide +kernel
theorem d0_1058 : mm_dec q0 1058 = some (.iadd) := by decide +kernel
theorem d0_1059 : mm_dec q0 1059 = some (.iaload) := by decide +kernel
theorem d0_1060 : mm_dec q0 1060 = some (.aload_n 0) := by decide +kernel
theorem d0_1061 : mm_dec q0 1061 = some (.iload 4) := by decide +kernel
theorem d0_1063 : mm_dec q0 1063 = some (.iconst 3) := by decide +kernel
theorem d0_1064 : mm_dec q0 1064 = some (.iadd) := by decide +kernel
theorem d0_1065 : mm_dec q0 1065 = some (.iaload) := by decide +kernel
theorem d0_1066 : mm_dec q0 1066 = some (.invokevirtual 125) := by decide +kernel
theorem d0_1069 : mm_dec q0 1069 = some (.if_icmp .eq 381) := by decide +kernel
theorem d0_1072 : mm_dec q0 1072 = some (.iconst 0) := by decide +kernel
theorem d0_1073 : mm_dec q0 1073 = some (.ireturn) := by decide +kernel
theorem d0_1074 : mm_dec q0 1074 = some (.aload_n 1) := by decide +kernel
theorem d0_1075 : mm_dec q0 1075 = some (.aload_n 0) := by decide +kernel
theorem d0_1076 : mm_dec q0 1076 = some (.iload 4) := by decide +kernel
theorem d0_1078 : mm_dec q0 1078 = some (.iconst 1) := by decide +kernel
theorem d0_1079 : mm_dec q0 1079 = some (.iadd) := by decide +kernel
theorem d0_1080 : mm_dec q0 1080 = some (.iaload) := by decide +kernel
theorem d0_1081 : mm_dec q0 1081 = some (.aload_n 0) := by decide +kernel
theorem d0_1082 : mm_dec q0 1082 = some (.iload 4) := by decide +kernel
theorem d0_1084 : mm_dec q0 1084 = some (.iconst 2) := by decide +kernel
theorem d0_1085 : mm_dec q0 1085 = some (.iadd) := by decide +kernel
theorem d0_1086 : mm_dec q0 1086 = some (.iaload) := by decide +kernel
theorem d0_1087 : mm_dec q0 1087 = some (.ifCond .eq 7) := by decide +kernel
theorem d0_1090 : mm_dec q0 1090 = some (.iconst 1) := by decide +kernel
theorem d0_1091 : mm_dec q0 1091 = some (.goto 4) := by decide +kernel
theorem d0_1094 : mm_dec q0 1094 = some (.iconst 0) := by decide +kernel
theorem d0_1095 : mm_dec q0 1095 = some (.invokevirtual 126) := by decide +kernel
theorem d0_1098 : mm_dec q0 1098 = some (.aload_n 2) := by decide +kernel
theorem d0_1099 : mm_dec q0 1099 = some (.aload_n 0) := by decide +kernel
theorem d0_1100 : mm_dec q0 1100 = some (.iload 4) := by decide +kernel
theorem d0_1102 : mm_dec q0 1102 = some (.iconst 1) := by decide +kernel
theorem d0_1103 : mm_dec q0 1103 = some (.iadd) := by decide +kernel
theorem d0_1104 : mm_dec q0 1104 = some (.iaload) := by decide +kernel
theorem d0_1105 : mm_dec q0 1105 = some (.aload_n 0) := by decide +kernel
theorem d0_1106 : mm_dec q0 1106 = some (.iload 4) := by decide +kernel
theorem d0_1108 : mm_dec q0 1108 = some (.iconst 2) := by decide +kernel
theorem d0_1109 : mm_dec q0 1109 = some (.iadd) := by decide +kernel
theorem d0_1110 : mm_dec q0 1110 = some (.iaload) := by decide +kernel
theorem d0_1111 : mm_dec q0 1111 = some (.ifCond .eq 7) := by decide +kernel
theorem d0_1114 : mm_dec q0 1114 = some (.iconst 1) := by decide +kernel
theorem d0_1115 : mm_dec q0 1115 = some (.goto 4) := by decide +kernel
theorem d0_1118 : mm_dec q0 1118 = some (.iconst 0) := by decide +kernel
theorem d0_1119 : mm_dec q0 1119 = some (.invokevirtual 130) := by decide +kernel
theorem d0_1122 : mm_dec q0 1122 = some (.if_icmp .eq 328) := by decide +kernel
theorem d0_1125 : mm_dec q0 1125 = some (.iconst 0) := by decide +kernel
theorem d0_1126 : mm_dec q0 1126 = some (.ireturn) := by decide +kernel
theorem d0_1127 : mm_dec q0 1127 = some (.aload_n 1) := by decide +kernel
theorem d0_1128 : mm_dec q0 1128 = some (.aload_n 0) := by decide +kernel
theorem d0_1129 : mm_dec q0 1129 = some (.iload 4) := by decide +kernel
theorem d0_1131 : mm_dec q0 1131 = some (.iconst 1) := by decide +kernel
theorem d0_1132 : mm_dec q0 1132 = some (.iadd) := by decide +kernel
theorem d0_1133 : mm_dec q0 1133 = some (.iaload) := by decide +kernel
theorem d0_1134 : mm_dec q0 1134 = some (.invokevirtual 131) := by decide +kernel
theorem d0_1137 : mm_dec q0 1137 = some (.aload_n 2) := by decide +kernel
theorem d0_1138 : mm_dec q0 1138 = some (.aload_n 0) := by decide +kernel
theorem d0_1139 : mm_dec q0 1139 = some (.iload 4) := by decide +kernel
theorem d0_1141 : mm_dec q0 1141 = some (.iconst 1) := by decide +kernel
theorem d0_1142 : mm_dec q0 1142 = some (.iadd) := by decide +kernel
theorem d0_1143 : mm_dec q0 1143 = some (.iaload) := by decide +kernel
theorem d0_1144 : mm_dec q0 1144 = some (.invokevirtual 134) := by decide +kernel
theorem d0_1147 : mm_dec q0 1147 = some (.if_icmp .eq 303) := by decide +kernel
theorem d0_1150 : mm_dec q0 1150 = some (.iconst 0) := by decide +kernel
theorem d0_1151 : mm_dec q0 1151 = some (.ireturn) := by decide +kernel
theorem d0_1152 : mm_dec q0 1152 = some (.aload_n 1) := by decide +kernel
theorem d0_1153 : mm_dec q0 1153 = some (.aload_n 0) := by decide +kernel
theorem d0_1154 : mm_dec q0 1154 = some (.iload 4) := by decide +kernel
theorem d0_1156 : mm_dec q0 1156 = some (.iconst 1) := by decide +kernel
theorem d0_1157 : mm_dec q0 1157 = some (.iadd) := by decide +kernel
theorem d0_1158 : mm_dec q0 1158 = some (.iaload) := by decide +kernel
theorem d0_1159 : mm_dec q0 1159 = some (.aload_n 0) := by decide +kernel
theorem d0_1160 : mm_dec q0 1160 = some (.iload 4) := by decide +kernel
theorem d0_1162 : mm_dec q0 1162 = some (.iconst 2) := by decide +kernel
theorem d0_1163 : mm_dec q0 1163 = some (.iadd) := by decide +kernel
theorem d0_1164 : mm_dec q0 1164 = some (.iaload) := by decide +kernel
theorem d0_1165 : mm_dec q0 1165 = some (.invokevirtual 135) := by decide +kernel
theorem d0_1168 : mm_dec q0 1168 = some (.aload_n 2) := by decide +kernel
theorem d0_1169 : mm_dec q0 1169 = some (.aload_n 0) := by decide +kernel
theorem d0_1170 : mm_dec q0 1170 = some (.iload 4) := by decide +kernel
theorem d0_1172 : mm_dec q0 1172 = some (.iconst 1) := by decide +kernel
theorem d0_1173 : mm_dec q0 1173 = some (.iadd) := by decide +kernel
theorem d0_1174 : mm_dec q0 1174 = some (.iaload) := by decide +kernel
theorem d0_1175 : mm_dec q0 1175 = some (.aload_n 0) := by decide +kernel
theorem d0_1176 : mm_dec q0 1176 = some (.iload 4) := by decide +kernel
theorem d0_1178 : mm_dec q0 1178 = some (.iconst 2) := by decide +kernel
theorem d0_1179 : mm_dec q0 1179 = some (.iadd) := by decide +kernel
theorem d0_1180 : mm_dec q0 1180 = some (.iaload) := by decide +kernel
theorem d0_1181 : mm_dec q0 1181 = some (.invokevirtual 138) := by decide +kernel
theorem d0_1184 : mm_dec q0 1184 = some (.if_icmp .eq 266) := by decide +kernel
theorem d0_1187 : mm_dec q0 1187 = some (.iconst 0) := by decide +kernel
theorem d0_1188 : mm_dec q0 1188 = some (.ireturn) := by decide +kernel
theorem d0_1189 : mm_dec q0 1189 = some (.aload_n 1) := by decide +kernel
theorem d0_1190 : mm_dec q0 1190 = some (.aload_n 0) := by decide +kernel
theorem d0_1191 : mm_dec q0 1191 = some (.iload 4) := by decide +kernel
theorem d0_1193 : mm_dec q0 1193 = some (.iconst 1) := by decide +kernel
theorem d0_1194 : mm_dec q0 1194 = some (.iadd) := by decide +kernel
theorem d0_1195 : mm_dec q0 1195 = some (.iaload) := by decide +kernel
theorem d0_1196 : mm_dec q0 1196 = some (.invokevirtual 139) := by decide +kernel
theorem d0_1199 : mm_dec q0 1199 = some (.aload_n 2) := by decide +kernel
theorem d0_1200 : mm_dec q0 1200 = some (.aload_n 0) := by decide +kernel
theorem d0_1201 : mm_dec q0 1201 = some (.iload 4) := by decide +kernel
theorem d0_1203 : mm_dec q0 1203 = some (.iconst 1) := by decide +kernel
theorem d0_1204 : mm_dec q0 1204 = some (.iadd) := by decide +kernel
theorem d0_1205 : mm_dec q0 1205 = some (.iaload) := by decide +kernel
theorem d0_1206 : mm_dec q0 1206 = some (.invokevirtual 142) := by decide +kernel
theorem d0_1209 : mm_dec q0 1209 = some (.if_icmp .eq 241) := by decide +kernel
theorem d0_1212 : mm_dec q0 1212 = some (.iconst 0) := by decide +kernel
theorem d0_1213 : mm_dec q0 1213 = some (.ireturn) := by decide +kernel
theorem d0_1214 : mm_dec q0 1214 = some (.aload_n 1) := by decide +kernel
theorem d0_1215 : mm_dec q0 1215 = some (.aload_n 0) := by decide +kernel
theorem d0_1216 : mm_dec q0 1216 = some (.iload 4) := by decide +kernel
theorem d0_1218 : mm_dec q0 1218 = some (.iconst 1) := by decide +kernel
theorem d0_1219 : mm_dec q0 1219 = some (.iadd) := by decide +kernel
theorem d0_1220 : mm_dec q0 1220 = some (.iaload) := by decide +kernel
theorem d0_1221 : mm_dec q0 1221 = some (.aload_n 0) := by decide +kernel
theorem d0_1222 : mm_dec q0 1222 = some (.iload 4) := by decide +kernel
theorem d0_1224 : mm_dec q0 1224 = some (.iconst 2) := by decide +kernel
theorem d0_1225 : mm_dec q0 1225 = some (.iadd) := by decide +kernel
theorem d0_1226 : mm_dec q0 1226 = some (.iaload) := by decide +kernel
theorem d0_1227 : mm_dec q0 1227 = some (.aload_n 0) := by decide +kernel
theorem d0_1228 : mm_dec q0 1228 = some (.iload 4) := by decide +kernel
theorem d0_1230 : mm_dec q0 1230 = some (.iconst 3) := by decide +kernel
theorem d0_1231 : mm_dec q0 1231 = some (.iadd) := by decide +kernel
theorem d0_1232 : mm_dec q0 1232 = some (.iaload) := by decide +kernel
theorem d0_1233 : mm_dec q0 1233 = some (.invokevirtual 143) := by decide +kernel
theorem d0_1236 : mm_dec q0 1236 = some (.aload_n 2) := by decide +kernel
theorem d0_1237 : mm_dec q0 1237 = some (.aload_n 0) := by decide +kernel
theorem d0_1238 : mm_dec q0 1238 = some (.iload 4) := by decide +kernel
theorem d0_1240 : mm_dec q0 1240 = some (.iconst 1) := by decide +kernel
theorem d0_1241 : mm_dec q0 1241 = some (.iadd) := by decide +kernel
theorem d0_1242 : mm_dec q0 1242 = some (.iaload) := by decide +kernel
theorem d0_1243 : mm_dec q0 1243 = some (.aload_n 0) := by decide +kernel
theorem d0_1244 : mm_dec q0 1244 = some (.iload 4) := by decide +kernel
theorem d0_1246 : mm_dec q0 1246 = some (.iconst 2) := by decide +kernel
theorem d0_1247 : mm_dec q0 1247 = some (.iadd) := by decide +kernel
theorem d0_1248 : mm_dec q0 1248 = some (.iaload) := by decide +kernel
theorem d0_1249 : mm_dec q0 1249 = some (.aload_n 0) := by decide +kernel
theorem d0_1250 : mm_dec q0 1250 = some (.iload 4) := by decide +kernel
theorem d0_1252 : mm_dec q0 1252 = some (.iconst 3) := by decide +kernel
theorem d0_1253 : mm_dec q0 1253 = some (.iadd) := by decide +kernel
theorem d0_1254 : mm_dec q0 1254 = some (.iaload) := by decide +kernel
theorem d0_1255 : mm_dec q0 1255 = some (.invokevirtual 146) := by decide +kernel
theorem d0_1258 : mm_dec q0 1258 = some (.if_icmp .eq 192) := by decide +kernel
theorem d0_1261 : mm_dec q0 1261 = some (.iconst 0) := by decide +kernel
theorem d0_1262 : mm_dec q0 1262 = some (.ireturn) := by decide +kernel
theorem d0_1263 : mm_dec q0 1263 = some (.aload_n 1) := by decide +kernel
theorem d0_1264 : mm_dec q0 1264 = some (.aload_n 0) := by decide +kernel
theorem d0_1265 : mm_dec q0 1265 = some (.iload 4) := by decide +kernel
theorem d0_1267 : mm_dec q0 1267 = some (.iconst 1) := by decide +kernel
theorem d0_1268 : mm_dec q0 1268 = some (.iadd) := by decide +kernel
theorem d0_1269 : mm_dec q0 1269 = some (.iaload) := by decide +kernel
theorem d0_1270 : mm_dec q0 1270 = some (.invokevirtual 147) := by decide +kernel
theorem d0_1273 : mm_dec q0 1273 = some (.aload_n 2) := by decide +kernel
theorem d0_1274 : mm_dec q0 1274 = some (.aload_n 0) := by decide +kernel
theorem d0_1275 : mm_dec q0 1275 = some (.iload 4) := by decide +kernel
theorem d0_1277 : mm_dec q0 1277 = some (.iconst 1) := by decide +kernel
theorem d0_1278 : mm_dec q0 1278 = some (.iadd) := by decide +kernel
theorem d0_1279 : mm_dec q0 1279 = some (.iaload) := by decide +kernel
theorem d0_1280 : mm_dec q0 1280 = some (.invokevirtual 150) := by decide +kernel
theorem d0_1283 : mm_dec q0 1283 = some (.if_icmp .eq 167) := by decide +kernel
theorem d0_1286 : mm_dec q0 1286 = some (.iconst 0) := by decide +kernel
theorem d0_1287 : mm_dec q0 1287 = some (.ireturn) := by decide +kernel
theorem d0_1288 : mm_dec q0 1288 = some (.aload_n 1) := by decide +kernel
theorem d0_1289 : mm_dec q0 1289 = some (.aload_n 0) := by decide +kernel
theorem d0_1290 : mm_dec q0 1290 = some (.iload 4) := by decide +kernel
theorem d0_1292 : mm_dec q0 1292 = some (.iconst 1) := by decide +kernel
theorem d0_1293 : mm_dec q0 1293 = some (.iadd) := by decide +kernel
theorem d0_1294 : mm_dec q0 1294 = some (.iaload) := by decide +kernel
theorem d0_1295 : mm_dec q0 1295 = some (.aload_n 0) := by decide +kernel
theorem d0_1296 : mm_dec q0 1296 = some (.iload 4) := by decide +kernel
theorem d0_1298 : mm_dec q0 1298 = some (.iconst 2) := by decide +kernel
theorem d0_1299 : mm_dec q0 1299 = some (.iadd) := by decide +kernel
theorem d0_1300 : mm_dec q0 1300 = some (.iaload) := by decide +kernel
theorem d0_1301 : mm_dec q0 1301 = some (.invokevirtual 151) := by decide +kernel
theorem d0_1304 : mm_dec q0 1304 = some (.aload_n 2) := by decide +kernel
theorem d0_1305 : mm_dec q0 1305 = some (.aload_n 0) := by decide +kernel
theorem d0_1306 : mm_dec q0 1306 = some (.iload 4) := by decide +kernel
theorem d0_1308 : mm_dec q0 1308 = some (.iconst 1) := by decide +kernel
theorem d0_1309 : mm_dec q0 1309 = some (.iadd) := by decide +kernel
theorem d0_1310 : mm_dec q0 1310 = some (.iaload) := by decide +kernel
theorem d0_1311 : mm_dec q0 1311 = some (.aload_n 0) := by decide +kernel
theorem d0_1312 : mm_dec q0 1312 = some (.iload 4) := by decide +kernel
theorem d0_1314 : mm_dec q0 1314 = some (.iconst 2) := by decide +kernel
theorem d0_1315 : mm_dec q0 1315 = some (.iadd) := by decide +kernel
theorem d0_1316 : mm_dec q0 1316 = some (.iaload) := by decide +kernel
theorem d0_1317 : mm_dec q0 1317 = some (.invokevirtual 154) := by decide +kernel
theorem d0_1320 : mm_dec q0 1320 = some (.if_icmp .eq 130) := by decide +kernel
theorem d0_1323 : mm_dec q0 1323 = some (.iconst 0) := by decide +kernel
theorem d0_1324 : mm_dec q0 1324 = some (.ireturn) := by decide +kernel
theorem d0_1325 : mm_dec q0 1325 = some (.aload_n 1) := by decide +kernel
theorem d0_1326 : mm_dec q0 1326 = some (.aload_n 0) := by decide +kernel
theorem d0_1327 : mm_dec q0 1327 = some (.iload 4) := by decide +kernel
theorem d0_1329 : mm_dec q0 1329 = some (.iconst 1) := by decide +kernel
theorem d0_1330 : mm_dec q0 1330 = some (.iadd) := by decide +kernel
theorem d0_1331 : mm_dec q0 1331 = some (.iaload) := by decide +kernel
theorem d0_1332 : mm_dec q0 1332 = some (.aload_n 0) := by decide +kernel
theorem d0_1333 : mm_dec q0 1333 = some (.iload 4) := by decide +kernel
theorem d0_1335 : mm_dec q0 1335 = some (.iconst 2) := by decide +kernel
theorem d0_1336 : mm_dec q0 1336 = some (.iadd) := by decide +kernel
theorem d0_1337 : mm_dec q0 1337 = some (.iaload) := by decide +kernel
theorem d0_1338 : mm_dec q0 1338 = some (.invokevirtual 155) := by decide +kernel
theorem d0_1341 : mm_dec q0 1341 = some (.aload_n 2) := by decide +kernel
theorem d0_1342 : mm_dec q0 1342 = some (.aload_n 0) := by decide +kernel
theorem d0_1343 : mm_dec q0 1343 = some (.iload 4) := by decide +kernel
theorem d0_1345 : mm_dec q0 1345 = some (.iconst 1) := by decide +kernel
theorem d0_1346 : mm_dec q0 1346 = some (.iadd) := by decide +kernel
theorem d0_1347 : mm_dec q0 1347 = some (.iaload) := by decide +kernel
theorem d0_1348 : mm_dec q0 1348 = some (.aload_n 0) := by decide +kernel
theorem d0_1349 : mm_dec q0 1349 = some (.iload 4) := by decide +kernel
theorem d0_1351 : mm_dec q0 1351 = some (.iconst 2) := by decide +kernel
theorem d0_1352 : mm_dec q0 1352 = some (.iadd) := by decide +kernel
theorem d0_1353 : mm_dec q0 1353 = some (.iaload) := by decide +kernel
theorem d0_1354 : mm_dec q0 1354 = some (.invokevirtual 158) := by decide +kernel
theorem d0_1357 : mm_dec q0 1357 = some (.if_icmp .eq 93) := by decide +kernel
theorem d0_1360 : mm_dec q0 1360 = some (.iconst 0) := by decide +kernel
theorem d0_1361 : mm_dec q0 1361 = some (.ireturn) := by decide +kernel
theorem d0_1362 : mm_dec q0 1362 = some (.aload_n 1) := by decide +kernel
theorem d0_1363 : mm_dec q0 1363 = some (.aload_n 0) := by decide +kernel
theorem d0_1364 : mm_dec q0 1364 = some (.iload 4) := by decide +kernel
theorem d0_1366 : mm_dec q0 1366 = some (.iconst 1) := by decide +kernel
theorem d0_1367 : mm_dec q0 1367 = some (.iadd) := by decide +kernel
theorem d0_1368 : mm_dec q0 1368 = some (.iaload) := by decide +kernel
theorem d0_1369 : mm_dec q0 1369 = some (.aload_n 0) := by decide +kernel
theorem d0_1370 : mm_dec q0 1370 = some (.iload 4) := by decide +kernel
theorem d0_1372 : mm_dec q0 1372 = some (.iconst 2) := by decide +kernel
theorem d0_1373 : mm_dec q0 1373 = some (.iadd) := by decide +kernel
theorem d0_1374 : mm_dec q0 1374 = some (.iaload) := by decide +kernel
theorem d0_1375 : mm_dec q0 1375 = some (.invokevirtual 159) := by decide +kernel
theorem d0_1378 : mm_dec q0 1378 = some (.aload_n 2) := by decide +kernel
theorem d0_1379 : mm_dec q0 1379 = some (.aload_n 0) := by decide +kernel
theorem d0_1380 : mm_dec q0 1380 = some (.iload 4) := by decide +kernel
theorem d0_1382 : mm_dec q0 1382 = some (.iconst 1) := by decide +kernel
theorem d0_1383 : mm_dec q0 1383 = some (.iadd) := by decide +kernel
theorem d0_1384 : mm_dec q0 1384 = some (.iaload) := by decide +kernel
theorem d0_1385 : mm_dec q0 1385 = some (.aload_n 0) := by decide +kernel
theorem d0_1386 : mm_dec q0 1386 = some (.iload 4) := by decide +kernel
theorem d0_1388 : mm_dec q0 1388 = some (.iconst 2) := by decide +kernel
theorem d0_1389 : mm_dec q0 1389 = some (.iadd) := by decide +kernel
theorem d0_1390 : mm_dec q0 1390 = some (.iaload) := by decide +kernel
theorem d0_1391 : mm_dec q0 1391 = some (.invokevirtual 162) := by decide +kernel
theorem d0_1394 : mm_dec q0 1394 = some (.if_icmp .eq 56) := by decide +kernel
theorem d0_1397 : mm_dec q0 1397 = some (.iconst 0) := by decide +kernel
theorem d0_1398 : mm_dec q0 1398 = some (.ireturn) := by decide +kernel
theorem d0_1399 : mm_dec q0 1399 = some (.aload_n 1) := by decide +kernel
theorem d0_1400 : mm_dec q0 1400 = some (.invokevirtual 163) := by decide +kernel
theorem d0_1403 : mm_dec q0 1403 = some (.aload_n 2) := by decide +kernel
theorem d0_1404 : mm_dec q0 1404 = some (.invokevirtual 166) := by decide +kernel
theorem d0_1407 : mm_dec q0 1407 = some (.if_icmp .eq 43) := by decide +kernel
theorem d0_1410 : mm_dec q0 1410 = some (.iconst 0) := by decide +kernel
theorem d0_1411 : mm_dec q0 1411 = some (.ireturn) := by decide +kernel
theorem d0_1412 : mm_dec q0 1412 = some (.aload_n 1) := by decide +kernel
theorem d0_1413 : mm_dec q0 1413 = some (.invokevirtual 167) := by decide +kernel
theorem d0_1416 : mm_dec q0 1416 = some (.aload_n 2) := by decide +kernel
theorem d0_1417 : mm_dec q0 1417 = some (.invokevirtual 170) := by decide +kernel
theorem d0_1420 : mm_dec q0 1420 = some (.if_icmp .eq 30) := by decide +kernel
theorem d0_1423 : mm_dec q0 1423 = some (.iconst 0) := by decide +kernel
theorem d0_1424 : mm_dec q0 1424 = some (.ireturn) := by decide +kernel
theorem d0_1425 : mm_dec q0 1425 = some (.aload_n 1) := by decide +kernel
theorem d0_1426 : mm_dec q0 1426 = some (.aload_n 0) := by decide +kernel
theorem d0_1427 : mm_dec q0 1427 = some (.iload 4) := by decide +kernel
theorem d0_1429 : mm_dec q0 1429 = some (.iconst 1) := by decide +kernel
theorem d0_1430 : mm_dec q0 1430 = some (.iadd) := by decide +kernel
theorem d0_1431 : mm_dec q0 1431 = some (.iaload) := by decide +kernel
theorem d0_1432 : mm_dec q0 1432 = some (.invokevirtual 171) := by decide +kernel
theorem d0_1435 : mm_dec q0 1435 = some (.aload_n 2) := by decide +kernel
theorem d0_1436 : mm_dec q0 1436 = some (.aload_n 0) := by decide +kernel
theorem d0_1437 : mm_dec q0 1437 = some (.iload 4) := by decide +kernel
theorem d0_1439 : mm_dec q0 1439 = some (.iconst 1) := by decide +kernel
theorem d0_1440 : mm_dec q0 1440 = some (.iadd) := by decide +kernel
theorem d0_1441 : mm_dec q0 1441 = some (.iaload) := by decide +kernel
theorem d0_1442 : mm_dec q0 1442 = some (.invokevirtual 174) := by decide +kernel
theorem d0_1445 : mm_dec q0 1445 = some (.if_icmp .eq 5) := by decide +kernel
theorem d0_1448 : mm_dec q0 1448 = some (.iconst 0) := by decide +kernel
theorem d0_1449 : mm_dec q0 1449 = some (.ireturn) := by decide +kernel
theorem d0_1450 : mm_dec q0 1450 = some (.iinc 4 6) := by decide +kernel
theorem d0_1453 : mm_dec q0 1453 = some (.goto (-1430)) := by decide +kernel
theorem d0_1456 : mm_dec q0 1456 = some (.iconst 1) := by decide +kernel
theorem d0_1457 : mm_dec q0 1457 = some (.ireturn) := by decide +kernel
theorem d2_0 : mm_dec q2 0 = some (.aload_n 0) := by decide +kernel
theorem d2_1 : mm_dec q2 1 = some (.invokespecial 3) := by decide +kernel
theorem d2_4 : mm_dec q2 4 = some (.aload_n 0) := by decide +kernel
theorem d2_5 : mm_dec q2 5 = some (.sipush 160) := by decide +kernel
theorem d2_8 : mm_dec q2 8 = some (.newarray .int) := by decide +kernel
theorem d2_10 : mm_dec q2 10 = some (.putfield 9) := by decide +kernel
theorem d2_13 : mm_dec q2 13 = some (.aload_n 0) := by decide +kernel
theorem d2_14 : mm_dec q2 14 = some (.bipush 32) := by decide +kernel
theorem d2_16 : mm_dec q2 16 = some (.newarray .int) := by decide +kernel
theorem d2_18 : mm_dec q2 18 = some (.putfield 15) := by decide +kernel
theorem d2_21 : mm_dec q2 21 = some (.aload_n 0) := by decide +kernel
theorem d2_22 : mm_dec q2 22 = some (.iload_n 1) := by decide +kernel
theorem d2_23 : mm_dec q2 23 = some (.putfield 18) := by decide +kernel
theorem d2_26 : mm_dec q2 26 = some (.return_) := by decide +kernel
theorem d3_0 : mm_dec q3 0 = some (.iload_n 0) := by decide +kernel
theorem d3_1 : mm_dec q3 1 = some (.tableswitch 95 100 116 #[91, 95, 95, 95, 85, 95, 95, 95, 95, 87, 95, 89, 93, 95, 95, 95, 83]) := by decide +kernel
theorem d3_84 : mm_dec q3 84 = some (.iconst 0) := by decide +kernel
theorem d3_85 : mm_dec q3 85 = some (.ireturn) := by decide +kernel
theorem d3_86 : mm_dec q3 86 = some (.iconst 1) := by decide +kernel
theorem d3_87 : mm_dec q3 87 = some (.ireturn) := by decide +kernel
theorem d3_88 : mm_dec q3 88 = some (.iconst 2) := by decide +kernel
theorem d3_89 : mm_dec q3 89 = some (.ireturn) := by decide +kernel
theorem d3_90 : mm_dec q3 90 = some (.iconst 3) := by decide +kernel
theorem d3_91 : mm_dec q3 91 = some (.ireturn) := by decide +kernel
theorem d3_92 : mm_dec q3 92 = some (.iconst 4) := by decide +kernel
theorem d3_93 : mm_dec q3 93 = some (.ireturn) := by decide +kernel
theorem d3_94 : mm_dec q3 94 = some (.iconst 5) := by decide +kernel
theorem d3_95 : mm_dec q3 95 = some (.ireturn) := by decide +kernel
theorem d3_96 : mm_dec q3 96 = some (.iconst (-1)) := by decide +kernel
theorem d3_97 : mm_dec q3 97 = some (.ireturn) := by decide +kernel
theorem d4_0 : mm_dec q4 0 = some (.aload_n 0) := by decide +kernel
theorem d4_1 : mm_dec q4 1 = some (.iconst 0) := by decide +kernel
theorem d4_2 : mm_dec q4 2 = some (.putfield 22) := by decide +kernel
theorem d4_5 : mm_dec q4 5 = some (.return_) := by decide +kernel
theorem d5_0 : mm_dec q5 0 = some (.aload_n 0) := by decide +kernel
theorem d5_1 : mm_dec q5 1 = some (.getfield 22) := by decide +kernel
theorem d5_4 : mm_dec q5 4 = some (.ifCond .lt 35) := by decide +kernel
theorem d5_7 : mm_dec q5 7 = some (.aload_n 0) := by decide +kernel
theorem d5_8 : mm_dec q5 8 = some (.getfield 22) := by decide +kernel
theorem d5_11 : mm_dec q5 11 = some (.aload_n 0) := by decide +kernel
theorem d5_12 : mm_dec q5 12 = some (.getfield 9) := by decide +kernel
theorem d5_15 : mm_dec q5 15 = some (.arraylength) := by decide +kernel
theorem d5_16 : mm_dec q5 16 = some (.if_icmp .ge 23) := by decide +kernel
theorem d5_19 : mm_dec q5 19 = some (.aload_n 0) := by decide +kernel
theorem d5_20 : mm_dec q5 20 = some (.getfield 9) := by decide +kernel
theorem d5_23 : mm_dec q5 23 = some (.aload_n 0) := by decide +kernel
theorem d5_24 : mm_dec q5 24 = some (.getfield 22) := by decide +kernel
theorem d5_27 : mm_dec q5 27 = some (.iload_n 1) := by decide +kernel
theorem d5_28 : mm_dec q5 28 = some (.iastore) := by decide +kernel
theorem d5_29 : mm_dec q5 29 = some (.aload_n 0) := by decide +kernel
theorem d5_30 : mm_dec q5 30 = some (.dup) := by decide +kernel
theorem d5_31 : mm_dec q5 31 = some (.getfield 22) := by decide +kernel
theorem d5_34 : mm_dec q5 34 = some (.iconst 1) := by decide +kernel
theorem d5_35 : mm_dec q5 35 = some (.iadd) := by decide +kernel
theorem d5_36 : mm_dec q5 36 = some (.putfield 22) := by decide +kernel
theorem d5_39 : mm_dec q5 39 = some (.return_) := by decide +kernel
theorem d6_0 : mm_dec q6 0 = some (.aload_n 0) := by decide +kernel
theorem d6_1 : mm_dec q6 1 = some (.invokevirtual 25) := by decide +kernel
theorem d6_4 : mm_dec q6 4 = some (.iconst 0) := by decide +kernel
theorem d6_5 : mm_dec q6 5 = some (.istore_n 2) := by decide +kernel
theorem d6_6 : mm_dec q6 6 = some (.iload_n 2) := by decide +kernel
theorem d6_7 : mm_dec q6 7 = some (.aload_n 1) := by decide +kernel
theorem d6_8 : mm_dec q6 8 = some (.getfield 22) := by decide +kernel
theorem d6_11 : mm_dec q6 11 = some (.if_icmp .ge 28) := by decide +kernel
theorem d6_14 : mm_dec q6 14 = some (.iload_n 2) := by decide +kernel
theorem d6_15 : mm_dec q6 15 = some (.aload_n 1) := by decide +kernel
theorem d6_16 : mm_dec q6 16 = some (.getfield 9) := by decide +kernel
theorem d6_19 : mm_dec q6 19 = some (.arraylength) := by decide +kernel
theorem d6_20 : mm_dec q6 20 = some (.if_icmp .ge 19) := by decide +kernel
theorem d6_23 : mm_dec q6 23 = some (.aload_n 0) := by decide +kernel
theorem d6_24 : mm_dec q6 24 = some (.aload_n 1) := by decide +kernel
theorem d6_25 : mm_dec q6 25 = some (.getfield 9) := by decide +kernel
theorem d6_28 : mm_dec q6 28 = some (.iload_n 2) := by decide +kernel
theorem d6_29 : mm_dec q6 29 = some (.iaload) := by decide +kernel
theorem d6_30 : mm_dec q6 30 = some (.invokevirtual 28) := by decide +kernel
theorem d6_33 : mm_dec q6 33 = some (.iinc 2 1) := by decide +kernel
theorem d6_36 : mm_dec q6 36 = some (.goto (-30)) := by decide +kernel
theorem d6_39 : mm_dec q6 39 = some (.return_) := by decide +kernel
theorem d7_0 : mm_dec q7 0 = some (.iconst 0) := by decide +kernel
theorem d7_1 : mm_dec q7 1 = some (.istore_n 1) := by decide +kernel
theorem d7_2 : mm_dec q7 2 = some (.iload_n 1) := by decide +kernel
theorem d7_3 : mm_dec q7 3 = some (.aload_n 0) := by decide +kernel
theorem d7_4 : mm_dec q7 4 = some (.getfield 22) := by decide +kernel
theorem d7_7 : mm_dec q7 7 = some (.if_icmp .ge 31) := by decide +kernel
theorem d7_10 : mm_dec q7 10 = some (.iload_n 1) := by decide +kernel
theorem d7_11 : mm_dec q7 11 = some (.aload_n 0) := by decide +kernel
theorem d7_12 : mm_dec q7 12 = some (.getfield 9) := by decide +kernel
theorem d7_15 : mm_dec q7 15 = some (.arraylength) := by decide +kernel
theorem d7_16 : mm_dec q7 16 = some (.if_icmp .ge 22) := by decide +kernel
theorem d7_19 : mm_dec q7 19 = some (.aload_n 0) := by decide +kernel
theorem d7_20 : mm_dec q7 20 = some (.getfield 9) := by decide +kernel
theorem d7_23 : mm_dec q7 23 = some (.iload_n 1) := by decide +kernel
theorem d7_24 : mm_dec q7 24 = some (.iaload) := by decide +kernel
theorem d7_25 : mm_dec q7 25 = some (.bipush (-5)) := by decide +kernel
theorem d7_27 : mm_dec q7 27 = some (.if_icmp .ne 5) := by decide +kernel
theorem d7_30 : mm_dec q7 30 = some (.iconst 1) := by decide +kernel
theorem d7_31 : mm_dec q7 31 = some (.ireturn) := by decide +kernel
theorem d7_32 : mm_dec q7 32 = some (.iinc 1 1) := by decide +kernel
theorem d7_35 : mm_dec q7 35 = some (.goto (-33)) := by decide +kernel
theorem d7_38 : mm_dec q7 38 = some (.iconst 0) := by decide +kernel
theorem d7_39 : mm_dec q7 39 = some (.ireturn) := by decide +kernel
theorem d8_0 : mm_dec q8 0 = some (.iconst 0) := by decide +kernel
theorem d8_1 : mm_dec q8 1 = some (.istore_n 2) := by decide +kernel
theorem d8_2 : mm_dec q8 2 = some (.iconst 0) := by decide +kernel
theorem d8_3 : mm_dec q8 3 = some (.istore_n 3) := by decide +kernel
theorem d8_4 : mm_dec q8 4 = some (.iconst 0) := by decide +kernel
theorem d8_5 : mm_dec q8 5 = some (.istore 4) := by decide +kernel
theorem d8_7 : mm_dec q8 7 = some (.iload 4) := by decide +kernel
theorem d8_9 : mm_dec q8 9 = some (.aload_n 0) := by decide +kernel
theorem d8_10 : mm_dec q8 10 = some (.getfield 22) := by decide +kernel
theorem d8_13 : mm_dec q8 13 = some (.if_icmp .ge 245) := by decide +kernel
theorem d8_16 : mm_dec q8 16 = some (.iload 4) := by decide +kernel
theorem d8_18 : mm_dec q8 18 = some (.aload_n 0) := by decide +kernel
theorem d8_19 : mm_dec q8 19 = some (.getfield 9) := by decide +kernel
theorem d8_22 : mm_dec q8 22 = some (.arraylength) := by decide +kernel
theorem d8_23 : mm_dec q8 23 = some (.if_icmp .ge 235) := by decide +kernel
theorem d8_26 : mm_dec q8 26 = some (.aload_n 0) := by decide +kernel
theorem d8_27 : mm_dec q8 27 = some (.getfield 9) := by decide +kernel
theorem d8_30 : mm_dec q8 30 = some (.iload 4) := by decide +kernel
theorem d8_32 : mm_dec q8 32 = some (.iaload) := by decide +kernel
theorem d8_33 : mm_dec q8 33 = some (.istore 5) := by decide +kernel
theorem d8_35 : mm_dec q8 35 = some (.bipush (-2)) := by decide +kernel
theorem d8_37 : mm_dec q8 37 = some (.iload 5) := by decide +kernel
theorem d8_39 : mm_dec q8 39 = some (.isub) := by decide +kernel
theorem d8_40 : mm_dec q8 40 = some (.istore 6) := by decide +kernel
theorem d8_42 : mm_dec q8 42 = some (.iload_n 3) := by decide +kernel
theorem d8_43 : mm_dec q8 43 = some (.ifCond .eq 19) := by decide +kernel
theorem d8_46 : mm_dec q8 46 = some (.iload 5) := by decide +kernel
theorem d8_48 : mm_dec q8 48 = some (.bipush (-10)) := by decide +kernel
theorem d8_50 : mm_dec q8 50 = some (.if_icmp .eq 7) := by decide +kernel
theorem d8_53 : mm_dec q8 53 = some (.iconst 1) := by decide +kernel
theorem d8_54 : mm_dec q8 54 = some (.goto 4) := by decide +kernel
theorem d8_57 : mm_dec q8 57 = some (.iconst 0) := by decide +kernel
theorem d8_58 : mm_dec q8 58 = some (.istore_n 3) := by decide +kernel
theorem d8_59 : mm_dec q8 59 = some (.goto 193) := by decide +kernel
theorem d8_62 : mm_dec q8 62 = some (.iload 5) := by decide +kernel
theorem d8_64 : mm_dec q8 64 = some (.ifCond .ge 22) := by decide +kernel
theorem d8_67 : mm_dec q8 67 = some (.iload 6) := by decide +kernel
theorem d8_69 : mm_dec q8 69 = some (.ifCond .lt 52) := by decide +kernel
theorem d8_72 : mm_dec q8 72 = some (.iload 6) := by decide +kernel
theorem d8_74 : mm_dec q8 74 = some (.bipush 6) := by decide +kernel
theorem d8_76 : mm_dec q8 76 = some (.if_icmp .ge 45) := by decide +kernel
theorem d8_79 : mm_dec q8 79 = some (.iload 6) := by decide +kernel
theorem d8_81 : mm_dec q8 81 = some (.aload_n 1) := by decide +kernel
theorem d8_82 : mm_dec q8 82 = some (.arraylength) := by decide +kernel
theorem d8_83 : mm_dec q8 83 = some (.if_icmp .ge 38) := by decide +kernel
theorem d8_86 : mm_dec q8 86 = some (.iload_n 2) := by decide +kernel
theorem d8_87 : mm_dec q8 87 = some (.aload_n 0) := by decide +kernel
theorem d8_88 : mm_dec q8 88 = some (.getfield 15) := by decide +kernel
theorem d8_91 : mm_dec q8 91 = some (.arraylength) := by decide +kernel
theorem d8_92 : mm_dec q8 92 = some (.if_icmp .ge 160) := by decide +kernel
theorem d8_95 : mm_dec q8 95 = some (.aload_n 0) := by decide +kernel
theorem d8_96 : mm_dec q8 96 = some (.getfield 15) := by decide +kernel
theorem d8_99 : mm_dec q8 99 = some (.iload_n 2) := by decide +kernel
theorem d8_100 : mm_dec q8 100 = some (.iload 5) := by decide +kernel
theorem d8_102 : mm_dec q8 102 = some (.ifCond .lt 8) := by decide +kernel
theorem d8_105 : mm_dec q8 105 = some (.iload 5) := by decide +kernel
theorem d8_107 : mm_dec q8 107 = some (.goto 7) := by decide +kernel
theorem d8_110 : mm_dec q8 110 = some (.aload_n 1) := by decide +kernel
theorem d8_111 : mm_dec q8 111 = some (.iload 6) := by decide +kernel
theorem d8_113 : mm_dec q8 113 = some (.iaload) := by decide +kernel
theorem d8_114 : mm_dec q8 114 = some (.iastore) := by decide +kernel
theorem d8_115 : mm_dec q8 115 = some (.iinc 2 1) := by decide +kernel
theorem d8_118 : mm_dec q8 118 = some (.goto 134) := by decide +kernel
theorem d8_121 : mm_dec q8 121 = some (.iload_n 2) := by decide +kernel
theorem d8_122 : mm_dec q8 122 = some (.iconst 1) := by decide +kernel
theorem d8_123 : mm_dec q8 123 = some (.if_icmp .lt 12) := by decide +kernel
theorem d8_126 : mm_dec q8 126 = some (.iload_n 2) := by decide +kernel
theorem d8_127 : mm_dec q8 127 = some (.aload_n 0) := by decide +kernel
theorem d8_128 : mm_dec q8 128 = some (.getfield 15) := by decide +kernel
theorem d8_131 : mm_dec q8 131 = some (.arraylength) := by decide +kernel
theorem d8_132 : mm_dec q8 132 = some (.if_icmp .le 5) := by decide +kernel
theorem d8_135 : mm_dec q8 135 = some (.iconst 0) := by decide +kernel
theorem d8_136 : mm_dec q8 136 = some (.ireturn) := by decide +kernel
theorem d8_137 : mm_dec q8 137 = some (.iload 5) := by decide +kernel
theorem d8_139 : mm_dec q8 139 = some (.bipush (-10)) := by decide +kernel
theorem d8_141 : mm_dec q8 141 = some (.if_icmp .ne 12) := by decide +kernel
theorem d8_144 : mm_dec q8 144 = some (.aload_n 0) := by decide +kernel
theorem d8_145 : mm_dec q8 145 = some (.getfield 15) := by decide +kernel
theorem d8_148 : mm_dec q8 148 = some (.iload_n 2) := by decide +kernel
theorem d8_149 : mm_dec q8 149 = some (.iconst 1) := by decide +kernel
theorem d8_150 : mm_dec q8 150 = some (.isub) := by decide +kernel
theorem d8_151 : mm_dec q8 151 = some (.iaload) := by decide +kernel
theorem d8_152 : mm_dec q8 152 = some (.ireturn) := by decide +kernel
theorem d8_153 : mm_dec q8 153 = some (.iload 5) := by decide +kernel
theorem d8_155 : mm_dec q8 155 = some (.bipush (-14)) := by decide +kernel
theorem d8_157 : mm_dec q8 157 = some (.if_icmp .ne 30) := by decide +kernel
theorem d8_160 : mm_dec q8 160 = some (.aload_n 0) := by decide +kernel
theorem d8_161 : mm_dec q8 161 = some (.getfield 15) := by decide +kernel
theorem d8_164 : mm_dec q8 164 = some (.iload_n 2) := by decide +kernel
theorem d8_165 : mm_dec q8 165 = some (.iconst 1) := by decide +kernel
theorem d8_166 : mm_dec q8 166 = some (.isub) := by decide +kernel
theorem d8_167 : mm_dec q8 167 = some (.aload_n 0) := by decide +kernel
theorem d8_168 : mm_dec q8 168 = some (.getfield 15) := by decide +kernel
theorem d8_171 : mm_dec q8 171 = some (.iload_n 2) := by decide +kernel
theorem d8_172 : mm_dec q8 172 = some (.iconst 1) := by decide +kernel
theorem d8_173 : mm_dec q8 173 = some (.isub) := by decide +kernel
theorem d8_174 : mm_dec q8 174 = some (.iaload) := by decide +kernel
theorem d8_175 : mm_dec q8 175 = some (.ifCond .ne 7) := by decide +kernel
theorem d8_178 : mm_dec q8 178 = some (.iconst 1) := by decide +kernel
theorem d8_179 : mm_dec q8 179 = some (.goto 4) := by decide +kernel
theorem d8_182 : mm_dec q8 182 = some (.iconst 0) := by decide +kernel
theorem d8_183 : mm_dec q8 183 = some (.iastore) := by decide +kernel
theorem d8_184 : mm_dec q8 184 = some (.goto 68) := by decide +kernel
theorem d8_187 : mm_dec q8 187 = some (.iload 5) := by decide +kernel
theorem d8_189 : mm_dec q8 189 = some (.bipush (-11)) := by decide +kernel
theorem d8_191 : mm_dec q8 191 = some (.if_icmp .ne 24) := by decide +kernel
theorem d8_194 : mm_dec q8 194 = some (.iinc 2 (-1)) := by decide +kernel
theorem d8_197 : mm_dec q8 197 = some (.aload_n 0) := by decide +kernel
theorem d8_198 : mm_dec q8 198 = some (.getfield 15) := by decide +kernel
theorem d8_201 : mm_dec q8 201 = some (.iload_n 2) := by decide +kernel
theorem d8_202 : mm_dec q8 202 = some (.iaload) := by decide +kernel
theorem d8_203 : mm_dec q8 203 = some (.ifCond .ne 7) := by decide +kernel
theorem d8_206 : mm_dec q8 206 = some (.iconst 1) := by decide +kernel
theorem d8_207 : mm_dec q8 207 = some (.goto 4) := by decide +kernel
theorem d8_210 : mm_dec q8 210 = some (.iconst 0) := by decide +kernel
theorem d8_211 : mm_dec q8 211 = some (.istore_n 3) := by decide +kernel
theorem d8_212 : mm_dec q8 212 = some (.goto 40) := by decide +kernel
theorem d8_215 : mm_dec q8 215 = some (.iload_n 2) := by decide +kernel
theorem d8_216 : mm_dec q8 216 = some (.iconst 1) := by decide +kernel
theorem d8_217 : mm_dec q8 217 = some (.if_icmp .le 35) := by decide +kernel
theorem d8_220 : mm_dec q8 220 = some (.iinc 2 (-1)) := by decide +kernel
theorem d8_223 : mm_dec q8 223 = some (.aload_n 0) := by decide +kernel
theorem d8_224 : mm_dec q8 224 = some (.getfield 15) := by decide +kernel
theorem d8_227 : mm_dec q8 227 = some (.iload_n 2) := by decide +kernel
theorem d8_228 : mm_dec q8 228 = some (.iconst 1) := by decide +kernel
theorem d8_229 : mm_dec q8 229 = some (.isub) := by decide +kernel
theorem d8_230 : mm_dec q8 230 = some (.iload 5) := by decide +kernel
theorem d8_232 : mm_dec q8 232 = some (.aload_n 0) := by decide +kernel
theorem d8_233 : mm_dec q8 233 = some (.getfield 15) := by decide +kernel
theorem d8_236 : mm_dec q8 236 = some (.iload_n 2) := by decide +kernel
theorem d8_237 : mm_dec q8 237 = some (.iconst 1) := by decide +kernel
theorem d8_238 : mm_dec q8 238 = some (.isub) := by decide +kernel
theorem d8_239 : mm_dec q8 239 = some (.iaload) := by decide +kernel
theorem d8_240 : mm_dec q8 240 = some (.i2l) := by decide +kernel
theorem d8_241 : mm_dec q8 241 = some (.aload_n 0) := by decide +kernel
theorem d8_242 : mm_dec q8 242 = some (.getfield 15) := by decide +kernel
theorem d8_245 : mm_dec q8 245 = some (.iload_n 2) := by decide +kernel
theorem d8_246 : mm_dec q8 246 = some (.iaload) := by decide +kernel
theorem d8_247 : mm_dec q8 247 = some (.i2l) := by decide +kernel
theorem d8_248 : mm_dec q8 248 = some (.invokestatic 32) := by decide +kernel
theorem d8_251 : mm_dec q8 251 = some (.iastore) := by decide +kernel
theorem d8_252 : mm_dec q8 252 = some (.iinc 4 1) := by decide +kernel
theorem d8_255 : mm_dec q8 255 = some (.goto (-248)) := by decide +kernel
theorem d8_258 : mm_dec q8 258 = some (.iconst 0) := by decide +kernel
theorem d8_259 : mm_dec q8 259 = some (.ireturn) := by decide +kernel
theorem d9_0 : mm_dec q9 0 = some (.lconst 0) := by decide +kernel
theorem d9_1 : mm_dec q9 1 = some (.lstore 5) := by decide +kernel
theorem d9_3 : mm_dec q9 3 = some (.iload_n 0) := by decide +kernel
theorem d9_4 : mm_dec q9 4 = some (.tableswitch 190 (-21) (-12) #[172, 164, 156, 148, 132, 116, 100, 190, 78, 56]) := by decide +kernel
theorem d9_60 : mm_dec q9 60 = some (.lload_n 1) := by decide +kernel
theorem d9_61 : mm_dec q9 61 = some (.lconst 0) := by decide +kernel
theorem d9_62 : mm_dec q9 62 = some (.lcmp) := by decide +kernel
theorem d9_63 : mm_dec q9 63 = some (.ifCond .ne 9) := by decide +kernel
theorem d9_66 : mm_dec q9 66 = some (.lload_n 3) := by decide +kernel
theorem d9_67 : mm_dec q9 67 = some (.lconst 0) := by decide +kernel
theorem d9_68 : mm_dec q9 68 = some (.lcmp) := by decide +kernel
theorem d9_69 : mm_dec q9 69 = some (.ifCond .eq 7) := by decide +kernel
theorem d9_72 : mm_dec q9 72 = some (.lconst 1) := by decide +kernel
theorem d9_73 : mm_dec q9 73 = some (.goto 4) := by decide +kernel
theorem d9_76 : mm_dec q9 76 = some (.lconst 0) := by decide +kernel
theorem d9_77 : mm_dec q9 77 = some (.lstore 5) := by decide +kernel
theorem d9_79 : mm_dec q9 79 = some (.goto 115) := by decide +kernel
theorem d9_82 : mm_dec q9 82 = some (.lload_n 1) := by decide +kernel
theorem d9_83 : mm_dec q9 83 = some (.lconst 0) := by decide +kernel
theorem d9_84 : mm_dec q9 84 = some (.lcmp) := by decide +kernel
theorem d9_85 : mm_dec q9 85 = some (.ifCond .eq 13) := by decide +kernel
theorem d9_88 : mm_dec q9 88 = some (.lload_n 3) := by decide +kernel
theorem d9_89 : mm_dec q9 89 = some (.lconst 0) := by decide +kernel
theorem d9_90 : mm_dec q9 90 = some (.lcmp) := by decide +kernel
theorem d9_91 : mm_dec q9 91 = some (.ifCond .eq 7) := by decide +kernel
theorem d9_94 : mm_dec q9 94 = some (.lconst 1) := by decide +kernel
theorem d9_95 : mm_dec q9 95 = some (.goto 4) := by decide +kernel
theorem d9_98 : mm_dec q9 98 = some (.lconst 0) := by decide +kernel
theorem d9_99 : mm_dec q9 99 = some (.lstore 5) := by decide +kernel
theorem d9_101 : mm_dec q9 101 = some (.goto 93) := by decide +kernel
theorem d9_104 : mm_dec q9 104 = some (.lload_n 1) := by decide +kernel
theorem d9_105 : mm_dec q9 105 = some (.lload_n 3) := by decide +kernel
theorem d9_106 : mm_dec q9 106 = some (.lcmp) := by decide +kernel
theorem d9_107 : mm_dec q9 107 = some (.ifCond .ne 7) := by decide +kernel
theorem d9_110 : mm_dec q9 110 = some (.lconst 1) := by decide +kernel
theorem d9_111 : mm_dec q9 111 = some (.goto 4) := by decide +kernel
theorem d9_114 : mm_dec q9 114 = some (.lconst 0) := by decide +kernel
theorem d9_115 : mm_dec q9 115 = some (.lstore 5) := by decide +kernel
theorem d9_117 : mm_dec q9 117 = some (.goto 77) := by decide +kernel
theorem d9_120 : mm_dec q9 120 = some (.lload_n 1) := by decide +kernel
theorem d9_121 : mm_dec q9 121 = some (.lload_n 3) := by decide +kernel
theorem d9_122 : mm_dec q9 122 = some (.lcmp) := by decide +kernel
theorem d9_123 : mm_dec q9 123 = some (.ifCond .ge 7) := by decide +kernel
theorem d9_126 : mm_dec q9 126 = some (.lconst 1) := by decide +kernel
theorem d9_127 : mm_dec q9 127 = some (.goto 4) := by decide +kernel
theorem d9_130 : mm_dec q9 130 = some (.lconst 0) := by decide +kernel
theorem d9_131 : mm_dec q9 131 = some (.lstore 5) := by decide +kernel
theorem d9_133 : mm_dec q9 133 = some (.goto 61) := by decide +kernel
theorem d9_136 : mm_dec q9 136 = some (.lload_n 1) := by decide +kernel
theorem d9_137 : mm_dec q9 137 = some (.lload_n 3) := by decide +kernel
theorem d9_138 : mm_dec q9 138 = some (.lcmp) := by decide +kernel
theorem d9_139 : mm_dec q9 139 = some (.ifCond .le 7) := by decide +kernel
theorem d9_142 : mm_dec q9 142 = some (.lconst 1) := by decide +kernel
theorem d9_143 : mm_dec q9 143 = some (.goto 4) := by decide +kernel
theorem d9_146 : mm_dec q9 146 = some (.lconst 0) := by decide +kernel
theorem d9_147 : mm_dec q9 147 = some (.lstore 5) := by decide +kernel
theorem d9_149 : mm_dec q9 149 = some (.goto 45) := by decide +kernel
theorem d9_152 : mm_dec q9 152 = some (.lload_n 1) := by decide +kernel
theorem d9_153 : mm_dec q9 153 = some (.lload_n 3) := by decide +kernel
theorem d9_154 : mm_dec q9 154 = some (.ladd) := by decide +kernel
theorem d9_155 : mm_dec q9 155 = some (.lstore 5) := by decide +kernel
theorem d9_157 : mm_dec q9 157 = some (.goto 37) := by decide +kernel
theorem d9_160 : mm_dec q9 160 = some (.lload_n 1) := by decide +kernel
theorem d9_161 : mm_dec q9 161 = some (.lload_n 3) := by decide +kernel
theorem d9_162 : mm_dec q9 162 = some (.lsub) := by decide +kernel
theorem d9_163 : mm_dec q9 163 = some (.lstore 5) := by decide +kernel
theorem d9_165 : mm_dec q9 165 = some (.goto 29) := by decide +kernel
theorem d9_168 : mm_dec q9 168 = some (.lload_n 1) := by decide +kernel
theorem d9_169 : mm_dec q9 169 = some (.lload_n 3) := by decide +kernel
theorem d9_170 : mm_dec q9 170 = some (.lmul) := by decide +kernel
theorem d9_171 : mm_dec q9 171 = some (.lstore 5) := by decide +kernel
theorem d9_173 : mm_dec q9 173 = some (.goto 21) := by decide +kernel
theorem d9_176 : mm_dec q9 176 = some (.lload_n 3) := by decide +kernel
theorem d9_177 : mm_dec q9 177 = some (.lconst 0) := by decide +kernel
theorem d9_178 : mm_dec q9 178 = some (.lcmp) := by decide +kernel
theorem d9_179 : mm_dec q9 179 = some (.ifCond .ne 7) := by decide +kernel
theorem d9_182 : mm_dec q9 182 = some (.lconst 0) := by decide +kernel
theorem d9_183 : mm_dec q9 183 = some (.goto 6) := by decide +kernel
theorem d9_186 : mm_dec q9 186 = some (.lload_n 1) := by decide +kernel
theorem d9_187 : mm_dec q9 187 = some (.lload_n 3) := by decide +kernel
theorem d9_188 : mm_dec q9 188 = some (.ldiv) := by decide +kernel
theorem d9_189 : mm_dec q9 189 = some (.lstore 5) := by decide +kernel
theorem d9_191 : mm_dec q9 191 = some (.goto 3) := by decide +kernel
theorem d9_194 : mm_dec q9 194 = some (.ldc2_w 36) := by decide +kernel
theorem d9_197 : mm_dec q9 197 = some (.ldc2_w 38) := by decide +kernel
theorem d9_200 : mm_dec q9 200 = some (.lload 5) := by decide +kernel
theorem d9_202 : mm_dec q9 202 = some (.invokestatic 40) := by decide +kernel
theorem d9_205 : mm_dec q9 205 = some (.invokestatic 46) := by decide +kernel
theorem d9_208 : mm_dec q9 208 = some (.l2i) := by decide +kernel
theorem d9_209 : mm_dec q9 209 = some (.ireturn) := by decide +kernel
theorem d10_0 : mm_dec q10 0 = some (.aload_n 0) := by decide +kernel
theorem d10_1 : mm_dec q10 1 = some (.invokespecial 3) := by decide +kernel
theorem d10_4 : mm_dec q10 4 = some (.aload_n 0) := by decide +kernel
theorem d10_5 : mm_dec q10 5 = some (.aload_n 1) := by decide +kernel
theorem d10_6 : mm_dec q10 6 = some (.putfield 9) := by decide +kernel
theorem d10_9 : mm_dec q10 9 = some (.aload_n 0) := by decide +kernel
theorem d10_10 : mm_dec q10 10 = some (.aload_n 2) := by decide +kernel
theorem d10_11 : mm_dec q10 11 = some (.putfield 15) := by decide +kernel
theorem d10_14 : mm_dec q10 14 = some (.return_) := by decide +kernel
theorem d11_0 : mm_dec q11 0 = some (.aload_n 0) := by decide +kernel
theorem d11_1 : mm_dec q11 1 = some (.getfield 9) := by decide +kernel
theorem d11_4 : mm_dec q11 4 = some (.invokevirtual 19) := by decide +kernel
theorem d11_7 : mm_dec q11 7 = some (.aload_n 0) := by decide +kernel
theorem d11_8 : mm_dec q11 8 = some (.getfield 15) := by decide +kernel
theorem d11_11 : mm_dec q11 11 = some (.invokevirtual 24) := by decide +kernel
theorem d11_14 : mm_dec q11 14 = some (.iconst 1) := by decide +kernel
theorem d11_15 : mm_dec q11 15 = some (.istore_n 1) := by decide +kernel
theorem d11_16 : mm_dec q11 16 = some (.iconst 0) := by decide +kernel
theorem d11_17 : mm_dec q11 17 = some (.istore_n 2) := by decide +kernel
theorem d11_18 : mm_dec q11 18 = some (.iload_n 1) := by decide +kernel
theorem d11_19 : mm_dec q11 19 = some (.ifCond .eq 50) := by decide +kernel
theorem d11_22 : mm_dec q11 22 = some (.iload_n 2) := by decide +kernel
theorem d11_23 : mm_dec q11 23 = some (.sipush 160) := by decide +kernel
theorem d11_26 : mm_dec q11 26 = some (.if_icmp .ge 43) := by decide +kernel
theorem d11_29 : mm_dec q11 29 = some (.aload_n 0) := by decide +kernel
theorem d11_30 : mm_dec q11 30 = some (.invokevirtual 29) := by decide +kernel
theorem d11_33 : mm_dec q11 33 = some (.ifCond .ne 11) := by decide +kernel
theorem d11_36 : mm_dec q11 36 = some (.aload_n 0) := by decide +kernel
theorem d11_37 : mm_dec q11 37 = some (.getfield 9) := by decide +kernel
theorem d11_40 : mm_dec q11 40 = some (.getfield 33) := by decide +kernel
theorem d11_43 : mm_dec q11 43 = some (.ireturn) := by decide +kernel
theorem d11_44 : mm_dec q11 44 = some (.aload_n 0) := by decide +kernel
theorem d11_45 : mm_dec q11 45 = some (.getfield 15) := by decide +kernel
theorem d11_48 : mm_dec q11 48 = some (.bipush (-10)) := by decide +kernel
theorem d11_50 : mm_dec q11 50 = some (.invokevirtual 37) := by decide +kernel
theorem d11_53 : mm_dec q11 53 = some (.aload_n 0) := by decide +kernel
theorem d11_54 : mm_dec q11 54 = some (.getfield 9) := by decide +kernel
theorem d11_57 : mm_dec q11 57 = some (.bipush 59) := by decide +kernel
theorem d11_59 : mm_dec q11 59 = some (.invokevirtual 41) := by decide +kernel
theorem d11_62 : mm_dec q11 62 = some (.istore_n 1) := by decide +kernel
theorem d11_63 : mm_dec q11 63 = some (.iinc 2 1) := by decide +kernel
theorem d11_66 : mm_dec q11 66 = some (.goto (-48)) := by decide +kernel
theorem d11_69 : mm_dec q11 69 = some (.aload_n 0) := by decide +kernel
theorem d11_70 : mm_dec q11 70 = some (.getfield 9) := by decide +kernel
theorem d11_73 : mm_dec q11 73 = some (.invokevirtual 45) := by decide +kernel
theorem d11_76 : mm_dec q11 76 = some (.iconst (-1)) := by decide +kernel
theorem d11_77 : mm_dec q11 77 = some (.if_icmp .ne 7) := by decide +kernel
theorem d11_80 : mm_dec q11 80 = some (.iconst (-1)) := by decide +kernel
theorem d11_81 : mm_dec q11 81 = some (.goto 10) := by decide +kernel
theorem d11_84 : mm_dec q11 84 = some (.aload_n 0) := by decide +kernel
theorem d11_85 : mm_dec q11 85 = some (.getfield 9) := by decide +kernel
theorem d11_88 : mm_dec q11 88 = some (.getfield 49) := by decide +kernel
theorem d11_91 : mm_dec q11 91 = some (.ireturn) := by decide +kernel
theorem d12_0 : mm_dec q12 0 = some (.aload_n 0) := by decide +kernel
theorem d12_1 : mm_dec q12 1 = some (.getfield 9) := by decide +kernel
theorem d12_4 : mm_dec q12 4 = some (.bipush 121) := by decide +kernel
theorem d12_6 : mm_dec q12 6 = some (.invokevirtual 52) := by decide +kernel
theorem d12_9 : mm_dec q12 9 = some (.ifCond .eq 15) := by decide +kernel
theorem d12_12 : mm_dec q12 12 = some (.aload_n 0) := by decide +kernel
theorem d12_13 : mm_dec q12 13 = some (.getfield 9) := by decide +kernel
theorem d12_16 : mm_dec q12 16 = some (.bipush 58) := by decide +kernel
theorem d12_18 : mm_dec q12 18 = some (.invokevirtual 52) := by decide +kernel
theorem d12_21 : mm_dec q12 21 = some (.ifCond .ne 5) := by decide +kernel
theorem d12_24 : mm_dec q12 24 = some (.iconst 0) := by decide +kernel
theorem d12_25 : mm_dec q12 25 = some (.ireturn) := by decide +kernel
theorem d12_26 : mm_dec q12 26 = some (.aload_n 0) := by decide +kernel
theorem d12_27 : mm_dec q12 27 = some (.getfield 9) := by decide +kernel
theorem d12_30 : mm_dec q12 30 = some (.invokevirtual 45) := by decide +kernel
theorem d12_33 : mm_dec q12 33 = some (.istore_n 1) := by decide +kernel
theorem d12_34 : mm_dec q12 34 = some (.iload_n 1) := by decide +kernel
theorem d12_35 : mm_dec q12 35 = some (.bipush 33) := by decide +kernel
theorem d12_37 : mm_dec q12 37 = some (.if_icmp .eq 9) := by decide +kernel
theorem d12_40 : mm_dec q12 40 = some (.iload_n 1) := by decide +kernel
theorem d12_41 : mm_dec q12 41 = some (.bipush 40) := by decide +kernel
theorem d12_43 : mm_dec q12 43 = some (.if_icmp .ne 7) := by decide +kernel
theorem d12_46 : mm_dec q12 46 = some (.iconst 1) := by decide +kernel
theorem d12_47 : mm_dec q12 47 = some (.goto 4) := by decide +kernel
theorem d12_50 : mm_dec q12 50 = some (.iconst 0) := by decide +kernel
theorem d12_51 : mm_dec q12 51 = some (.istore_n 2) := by decide +kernel
theorem d12_52 : mm_dec q12 52 = some (.iload_n 2) := by decide +kernel
theorem d12_53 : mm_dec q12 53 = some (.ifCond .eq 14) := by decide +kernel
theorem d12_56 : mm_dec q12 56 = some (.aload_n 0) := by decide +kernel
theorem d12_57 : mm_dec q12 57 = some (.iconst 0) := by decide +kernel
theorem d12_58 : mm_dec q12 58 = some (.invokevirtual 55) := by decide +kernel
theorem d12_61 : mm_dec q12 61 = some (.ifCond .ne 16) := by decide +kernel
theorem d12_64 : mm_dec q12 64 = some (.goto 11) := by decide +kernel
theorem d12_67 : mm_dec q12 67 = some (.aload_n 0) := by decide +kernel
theorem d12_68 : mm_dec q12 68 = some (.iconst 0) := by decide +kernel
theorem d12_69 : mm_dec q12 69 = some (.invokevirtual 58) := by decide +kernel
theorem d12_72 : mm_dec q12 72 = some (.ifCond .ne 5) := by decide +kernel
theorem d12_75 : mm_dec q12 75 = some (.iconst 0) := by decide +kernel
theorem d12_76 : mm_dec q12 76 = some (.ireturn) := by decide +kernel
theorem d12_77 : mm_dec q12 77 = some (.iload_n 2) := by decide +kernel
theorem d12_78 : mm_dec q12 78 = some (.ifCond .ne 45) := by decide +kernel
theorem d12_81 : mm_dec q12 81 = some (.aload_n 0) := by decide +kernel
theorem d12_82 : mm_dec q12 82 = some (.getfield 9) := by decide +kernel
theorem d12_85 : mm_dec q12 85 = some (.invokevirtual 45) := by decide +kernel
theorem d12_88 : mm_dec q12 88 = some (.invokestatic 61) := by decide +kernel
theorem d12_91 : mm_dec q12 91 = some (.iconst (-1)) := by decide +kernel
theorem d12_92 : mm_dec q12 92 = some (.if_icmp .eq 31) := by decide +kernel
theorem d12_95 : mm_dec q12 95 = some (.iconst 1) := by decide +kernel
theorem d12_96 : mm_dec q12 96 = some (.istore_n 2) := by decide +kernel
theorem d12_97 : mm_dec q12 97 = some (.aload_n 0) := by decide +kernel
theorem d12_98 : mm_dec q12 98 = some (.iconst 0) := by decide +kernel
theorem d12_99 : mm_dec q12 99 = some (.invokevirtual 65) := by decide +kernel
theorem d12_102 : mm_dec q12 102 = some (.ifCond .eq 19) := by decide +kernel
theorem d12_105 : mm_dec q12 105 = some (.aload_n 0) := by decide +kernel
theorem d12_106 : mm_dec q12 106 = some (.iconst 0) := by decide +kernel
theorem d12_107 : mm_dec q12 107 = some (.invokevirtual 68) := by decide +kernel
theorem d12_110 : mm_dec q12 110 = some (.ifCond .eq 11) := by decide +kernel
theorem d12_113 : mm_dec q12 113 = some (.aload_n 0) := by decide +kernel
theorem d12_114 : mm_dec q12 114 = some (.iconst 0) := by decide +kernel
theorem d12_115 : mm_dec q12 115 = some (.invokevirtual 71) := by decide +kernel
theorem d12_118 : mm_dec q12 118 = some (.ifCond .ne 5) := by decide +kernel
theorem d12_121 : mm_dec q12 121 = some (.iconst 0) := by decide +kernel
theorem d12_122 : mm_dec q12 122 = some (.ireturn) := by decide +kernel
theorem d12_123 : mm_dec q12 123 = some (.iload_n 2) := by decide +kernel
theorem d12_124 : mm_dec q12 124 = some (.ifCond .ne 5) := by decide +kernel
theorem d12_127 : mm_dec q12 127 = some (.iconst 1) := by decide +kernel
theorem d12_128 : mm_dec q12 128 = some (.ireturn) := by decide +kernel
theorem d12_129 : mm_dec q12 129 = some (.aload_n 0) := by decide +kernel
theorem d12_130 : mm_dec q12 130 = some (.getfield 15) := by decide +kernel
theorem d12_133 : mm_dec q12 133 = some (.bipush (-11)) := by decide +kernel
theorem d12_135 : mm_dec q12 135 = some (.invokevirtual 37) := by decide +kernel
theorem d12_138 : mm_dec q12 138 = some (.aload_n 0) := by decide +kernel
theorem d12_139 : mm_dec q12 139 = some (.getfield 9) := by decide +kernel
theorem d12_142 : mm_dec q12 142 = some (.bipush 63) := by decide +kernel
theorem d12_144 : mm_dec q12 144 = some (.invokevirtual 52) := by decide +kernel
theorem d12_147 : mm_dec q12 147 = some (.ifCond .eq 15) := by decide +kernel
theorem d12_150 : mm_dec q12 150 = some (.aload_n 0) := by decide +kernel
theorem d12_151 : mm_dec q12 151 = some (.iconst 0) := by decide +kernel
theorem d12_152 : mm_dec q12 152 = some (.invokevirtual 58) := by decide +kernel
theorem d12_155 : mm_dec q12 155 = some (.ifCond .eq 7) := by decide +kernel
theorem d12_158 : mm_dec q12 158 = some (.iconst 1) := by decide +kernel
theorem d12_159 : mm_dec q12 159 = some (.goto 4) := by decide +kernel
theorem d12_162 : mm_dec q12 162 = some (.iconst 0) := by decide +kernel
theorem d12_163 : mm_dec q12 163 = some (.ireturn) := by decide +kernel
theorem d13_0 : mm_dec q13 0 = some (.aload_n 0) := by decide +kernel
theorem d13_1 : mm_dec q13 1 = some (.iload_n 1) := by decide +kernel
theorem d13_2 : mm_dec q13 2 = some (.invokevirtual 74) := by decide +kernel
theorem d13_5 : mm_dec q13 5 = some (.ifCond .eq 15) := by decide +kernel
theorem d13_8 : mm_dec q13 8 = some (.aload_n 0) := by decide +kernel
theorem d13_9 : mm_dec q13 9 = some (.iload_n 1) := by decide +kernel
theorem d13_10 : mm_dec q13 10 = some (.invokevirtual 71) := by decide +kernel
theorem d13_13 : mm_dec q13 13 = some (.ifCond .eq 7) := by decide +kernel
theorem d13_16 : mm_dec q13 16 = some (.iconst 1) := by decide +kernel
theorem d13_17 : mm_dec q13 17 = some (.goto 4) := by decide +kernel
theorem d13_20 : mm_dec q13 20 = some (.iconst 0) := by decide +kernel
theorem d13_21 : mm_dec q13 21 = some (.ireturn) := by decide +kernel
theorem d14_0 : mm_dec q14 0 = some (.iconst 0) := by decide +kernel
theorem d14_1 : mm_dec q14 1 = some (.istore_n 2) := by decide +kernel
theorem d14_2 : mm_dec q14 2 = some (.iload_n 2) := by decide +kernel
theorem d14_3 : mm_dec q14 3 = some (.sipush 160) := by decide +kernel
theorem d14_6 : mm_dec q14 6 = some (.if_icmp .ge 40) := by decide +kernel
theorem d14_9 : mm_dec q14 9 = some (.aload_n 0) := by decide +kernel
theorem d14_10 : mm_dec q14 10 = some (.getfield 9) := by decide +kernel
theorem d14_13 : mm_dec q14 13 = some (.bipush 124) := by decide +kernel
theorem d14_15 : mm_dec q14 15 = some (.invokevirtual 41) := by decide +kernel
theorem d14_18 : mm_dec q14 18 = some (.ifCond .eq 28) := by decide +kernel
theorem d14_21 : mm_dec q14 21 = some (.aload_n 0) := by decide +kernel
theorem d14_22 : mm_dec q14 22 = some (.iload_n 1) := by decide +kernel
theorem d14_23 : mm_dec q14 23 = some (.invokevirtual 74) := by decide +kernel
theorem d14_26 : mm_dec q14 26 = some (.ifCond .ne 5) := by decide +kernel
theorem d14_29 : mm_dec q14 29 = some (.iconst 0) := by decide +kernel
theorem d14_30 : mm_dec q14 30 = some (.ireturn) := by decide +kernel
theorem d14_31 : mm_dec q14 31 = some (.aload_n 0) := by decide +kernel
theorem d14_32 : mm_dec q14 32 = some (.getfield 15) := by decide +kernel
theorem d14_35 : mm_dec q14 35 = some (.bipush (-12)) := by decide +kernel
theorem d14_37 : mm_dec q14 37 = some (.invokevirtual 37) := by decide +kernel
theorem d14_40 : mm_dec q14 40 = some (.iinc 2 1) := by decide +kernel
theorem d14_43 : mm_dec q14 43 = some (.goto (-41)) := by decide +kernel
theorem d14_46 : mm_dec q14 46 = some (.iconst 1) := by decide +kernel
theorem d14_47 : mm_dec q14 47 = some (.ireturn) := by decide +kernel
theorem d15_0 : mm_dec q15 0 = some (.aload_n 0) := by decide +kernel
theorem d15_1 : mm_dec q15 1 = some (.iload_n 1) := by decide +kernel
theorem d15_2 : mm_dec q15 2 = some (.invokevirtual 77) := by decide +kernel
theorem d15_5 : mm_dec q15 5 = some (.ifCond .eq 15) := by decide +kernel
theorem d15_8 : mm_dec q15 8 = some (.aload_n 0) := by decide +kernel
theorem d15_9 : mm_dec q15 9 = some (.iload_n 1) := by decide +kernel
theorem d15_10 : mm_dec q15 10 = some (.invokevirtual 68) := by decide +kernel
theorem d15_13 : mm_dec q15 13 = some (.ifCond .eq 7) := by decide +kernel
theorem d15_16 : mm_dec q15 16 = some (.iconst 1) := by decide +kernel
theorem d15_17 : mm_dec q15 17 = some (.goto 4) := by decide +kernel
theorem d15_20 : mm_dec q15 20 = some (.iconst 0) := by decide +kernel
theorem d15_21 : mm_dec q15 21 = some (.ireturn) := by decide +kernel
theorem d16_0 : mm_dec q16 0 = some (.iconst 0) := by decide +kernel
theorem d16_1 : mm_dec q16 1 = some (.istore_n 2) := by decide +kernel
theorem d16_2 : mm_dec q16 2 = some (.iload_n 2) := by decide +kernel
theorem d16_3 : mm_dec q16 3 = some (.sipush 160) := by decide +kernel
theorem d16_6 : mm_dec q16 6 = some (.if_icmp .ge 40) := by decide +kernel
theorem d16_9 : mm_dec q16 9 = some (.aload_n 0) := by decide +kernel
theorem d16_10 : mm_dec q16 10 = some (.getfield 9) := by decide +kernel
theorem d16_13 : mm_dec q16 13 = some (.bipush 38) := by decide +kernel
theorem d16_15 : mm_dec q16 15 = some (.invokevirtual 41) := by decide +kernel
theorem d16_18 : mm_dec q16 18 = some (.ifCond .eq 28) := by decide +kernel
theorem d16_21 : mm_dec q16 21 = some (.aload_n 0) := by decide +kernel
theorem d16_22 : mm_dec q16 22 = some (.iload_n 1) := by decide +kernel
theorem d16_23 : mm_dec q16 23 = some (.invokevirtual 77) := by decide +kernel
theorem d16_26 : mm_dec q16 26 = some (.ifCond .ne 5) := by decide +kernel
theorem d16_29 : mm_dec q16 29 = some (.iconst 0) := by decide +kernel
theorem d16_30 : mm_dec q16 30 = some (.ireturn) := by decide +kernel
theorem d16_31 : mm_dec q16 31 = some (.aload_n 0) := by decide +kernel
theorem d16_32 : mm_dec q16 32 = some (.getfield 15) := by decide +kernel
theorem d16_35 : mm_dec q16 35 = some (.bipush (-13)) := by decide +kernel
theorem d16_37 : mm_dec q16 37 = some (.invokevirtual 37) := by decide +kernel
theorem d16_40 : mm_dec q16 40 = some (.iinc 2 1) := by decide +kernel
theorem d16_43 : mm_dec q16 43 = some (.goto (-41)) := by decide +kernel
theorem d16_46 : mm_dec q16 46 = some (.iconst 1) := by decide +kernel
theorem d16_47 : mm_dec q16 47 = some (.ireturn) := by decide +kernel
theorem d17_0 : mm_dec q17 0 = some (.aload_n 0) := by decide +kernel
theorem d17_1 : mm_dec q17 1 = some (.getfield 9) := by decide +kernel
theorem d17_4 : mm_dec q17 4 = some (.invokevirtual 45) := by decide +kernel
theorem d17_7 : mm_dec q17 7 = some (.istore_n 2) := by decide +kernel
theorem d17_8 : mm_dec q17 8 = some (.iload_n 2) := by decide +kernel
theorem d17_9 : mm_dec q17 9 = some (.bipush 33) := by decide +kernel
theorem d17_11 : mm_dec q17 11 = some (.if_icmp .eq 31) := by decide +kernel
theorem d17_14 : mm_dec q17 14 = some (.iload_n 2) := by decide +kernel
theorem d17_15 : mm_dec q17 15 = some (.bipush 40) := by decide +kernel
theorem d17_17 : mm_dec q17 17 = some (.if_icmp .eq 25) := by decide +kernel
theorem d17_20 : mm_dec q17 20 = some (.aload_n 0) := by decide +kernel
theorem d17_21 : mm_dec q17 21 = some (.iload_n 1) := by decide +kernel
theorem d17_22 : mm_dec q17 22 = some (.invokevirtual 58) := by decide +kernel
theorem d17_25 : mm_dec q17 25 = some (.ifCond .eq 15) := by decide +kernel
theorem d17_28 : mm_dec q17 28 = some (.aload_n 0) := by decide +kernel
theorem d17_29 : mm_dec q17 29 = some (.iload_n 1) := by decide +kernel
theorem d17_30 : mm_dec q17 30 = some (.invokevirtual 65) := by decide +kernel
theorem d17_33 : mm_dec q17 33 = some (.ifCond .eq 7) := by decide +kernel
theorem d17_36 : mm_dec q17 36 = some (.iconst 1) := by decide +kernel
theorem d17_37 : mm_dec q17 37 = some (.goto 4) := by decide +kernel
theorem d17_40 : mm_dec q17 40 = some (.iconst 0) := by decide +kernel
theorem d17_41 : mm_dec q17 41 = some (.ireturn) := by decide +kernel
theorem d17_42 : mm_dec q17 42 = some (.iload_n 1) := by decide +kernel
theorem d17_43 : mm_dec q17 43 = some (.bipush 6) := by decide +kernel
theorem d17_45 : mm_dec q17 45 = some (.if_icmp .lt 18) := by decide +kernel
theorem d17_48 : mm_dec q17 48 = some (.aload_n 0) := by decide +kernel
theorem d17_49 : mm_dec q17 49 = some (.getfield 9) := by decide +kernel
theorem d17_52 : mm_dec q17 52 = some (.aload_n 0) := by decide +kernel
theorem d17_53 : mm_dec q17 53 = some (.getfield 9) := by decide +kernel
theorem d17_56 : mm_dec q17 56 = some (.getfield 49) := by decide +kernel
theorem d17_59 : mm_dec q17 59 = some (.invokevirtual 80) := by decide +kernel
theorem d17_62 : mm_dec q17 62 = some (.ireturn) := by decide +kernel
theorem d17_63 : mm_dec q17 63 = some (.aload_n 0) := by decide +kernel
theorem d17_64 : mm_dec q17 64 = some (.getfield 9) := by decide +kernel
theorem d17_67 : mm_dec q17 67 = some (.invokevirtual 83) := by decide +kernel
theorem d17_70 : mm_dec q17 70 = some (.iload_n 2) := by decide +kernel
theorem d17_71 : mm_dec q17 71 = some (.bipush 33) := by decide +kernel
theorem d17_73 : mm_dec q17 73 = some (.if_icmp .ne 13) := by decide +kernel
theorem d17_76 : mm_dec q17 76 = some (.aload_n 0) := by decide +kernel
theorem d17_77 : mm_dec q17 77 = some (.iload_n 1) := by decide +kernel
theorem d17_78 : mm_dec q17 78 = some (.iconst 1) := by decide +kernel
theorem d17_79 : mm_dec q17 79 = some (.iadd) := by decide +kernel
theorem d17_80 : mm_dec q17 80 = some (.invokevirtual 86) := by decide +kernel
theorem d17_83 : mm_dec q17 83 = some (.goto 30) := by decide +kernel
theorem d17_86 : mm_dec q17 86 = some (.aload_n 0) := by decide +kernel
theorem d17_87 : mm_dec q17 87 = some (.iload_n 1) := by decide +kernel
theorem d17_88 : mm_dec q17 88 = some (.iconst 1) := by decide +kernel
theorem d17_89 : mm_dec q17 89 = some (.iadd) := by decide +kernel
theorem d17_90 : mm_dec q17 90 = some (.invokevirtual 55) := by decide +kernel
theorem d17_93 : mm_dec q17 93 = some (.ifCond .eq 19) := by decide +kernel
theorem d17_96 : mm_dec q17 96 = some (.aload_n 0) := by decide +kernel
theorem d17_97 : mm_dec q17 97 = some (.getfield 9) := by decide +kernel
theorem d17_100 : mm_dec q17 100 = some (.bipush 41) := by decide +kernel
theorem d17_102 : mm_dec q17 102 = some (.invokevirtual 52) := by decide +kernel
theorem d17_105 : mm_dec q17 105 = some (.ifCond .eq 7) := by decide +kernel
theorem d17_108 : mm_dec q17 108 = some (.iconst 1) := by decide +kernel
theorem d17_109 : mm_dec q17 109 = some (.goto 4) := by decide +kernel
theorem d17_112 : mm_dec q17 112 = some (.iconst 0) := by decide +kernel
theorem d17_113 : mm_dec q17 113 = some (.ireturn) := by decide +kernel
theorem d18_0 : mm_dec q18 0 = some (.aload_n 0) := by decide +kernel
theorem d18_1 : mm_dec q18 1 = some (.iload_n 1) := by decide +kernel
theorem d18_2 : mm_dec q18 2 = some (.invokevirtual 77) := by decide +kernel
theorem d18_5 : mm_dec q18 5 = some (.ifCond .ne 5) := by decide +kernel
theorem d18_8 : mm_dec q18 8 = some (.iconst 0) := by decide +kernel
theorem d18_9 : mm_dec q18 9 = some (.ireturn) := by decide +kernel
theorem d18_10 : mm_dec q18 10 = some (.aload_n 0) := by decide +kernel
theorem d18_11 : mm_dec q18 11 = some (.getfield 15) := by decide +kernel
theorem d18_14 : mm_dec q18 14 = some (.bipush (-14)) := by decide +kernel
theorem d18_16 : mm_dec q18 16 = some (.invokevirtual 37) := by decide +kernel
theorem d18_19 : mm_dec q18 19 = some (.iconst 1) := by decide +kernel
theorem d18_20 : mm_dec q18 20 = some (.ireturn) := by decide +kernel
theorem d19_0 : mm_dec q19 0 = some (.aload_n 0) := by decide +kernel
theorem d19_1 : mm_dec q19 1 = some (.getfield 9) := by decide +kernel
theorem d19_4 : mm_dec q19 4 = some (.invokevirtual 45) := by decide +kernel
theorem d19_7 : mm_dec q19 7 = some (.invokestatic 61) := by decide +kernel
theorem d19_10 : mm_dec q19 10 = some (.istore_n 2) := by decide +kernel
theorem d19_11 : mm_dec q19 11 = some (.iload_n 2) := by decide +kernel
theorem d19_12 : mm_dec q19 12 = some (.iconst (-1)) := by decide +kernel
theorem d19_13 : mm_dec q19 13 = some (.if_icmp .ne 18) := by decide +kernel
theorem d19_16 : mm_dec q19 16 = some (.aload_n 0) := by decide +kernel
theorem d19_17 : mm_dec q19 17 = some (.getfield 9) := by decide +kernel
theorem d19_20 : mm_dec q19 20 = some (.aload_n 0) := by decide +kernel
theorem d19_21 : mm_dec q19 21 = some (.getfield 9) := by decide +kernel
theorem d19_24 : mm_dec q19 24 = some (.getfield 49) := by decide +kernel
theorem d19_27 : mm_dec q19 27 = some (.invokevirtual 80) := by decide +kernel
theorem d19_30 : mm_dec q19 30 = some (.ireturn) := by decide +kernel
theorem d19_31 : mm_dec q19 31 = some (.aload_n 0) := by decide +kernel
theorem d19_32 : mm_dec q19 32 = some (.getfield 9) := by decide +kernel
