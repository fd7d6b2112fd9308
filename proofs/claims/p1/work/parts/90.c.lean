theorem dL_law_2038 : decode cL_law 2038 = .ok (.iinc 4 8, 3) := by decide +kernel
theorem dL_law_2041 : decode cL_law 2041 = .ok (.goto (-2018), 3) := by decide +kernel
theorem dL_law_23 : decode cL_law 23 = .ok (.iload 4, 2) := by decide +kernel
theorem dL_law_25 : decode cL_law 25 = .ok (.aload_n 0, 1) := by decide +kernel
theorem dL_law_26 : decode cL_law 26 = .ok (.arraylength, 1) := by decide +kernel
theorem dL_law_27 : decode cL_law 27 = .ok (.bipush 8, 2) := by decide +kernel
theorem dL_law_29 : decode cL_law 29 = .ok (.isub, 1) := by decide +kernel
theorem dL_law_30 : decode cL_law 30 = .ok (.if_icmp .gt 2014, 3) := by decide +kernel
theorem dL_law_2044 : decode cL_law 2044 = .ok (.iconst 1, 1) := by decide +kernel
theorem dL_law_2045 : decode cL_law 2045 = .ok (.ireturn, 1) := by decide +kernel
theorem dL_law_232 : decode cL_law 232 = .ok (.aload_n 1, 1) := by decide +kernel
theorem dL_law_233 : decode cL_law 233 = .ok (.aload_n 0, 1) := by decide +kernel
theorem dL_law_234 : decode cL_law 234 = .ok (.iload 4, 2) := by decide +kernel
theorem dL_law_236 : decode cL_law 236 = .ok (.iconst 1, 1) := by decide +kernel
theorem dL_law_237 : decode cL_law 237 = .ok (.iadd, 1) := by decide +kernel
theorem dL_law_238 : decode cL_law 238 = .ok (.iaload, 1) := by decide +kernel
theorem dL_law_239 : decode cL_law 239 = .ok (.aload_n 0, 1) := by decide +kernel
theorem dL_law_240 : decode cL_law 240 = .ok (.iload 4, 2) := by decide +kernel
theorem dL_law_242 : decode cL_law 242 = .ok (.iconst 2, 1) := by decide +kernel
theorem dL_law_243 : decode cL_law 243 = .ok (.iadd, 1) := by decide +kernel
theorem dL_law_244 : decode cL_law 244 = .ok (.iaload, 1) := by decide +kernel
theorem dL_law_245 : decode cL_law 245 = .ok (.aload_n 3, 1) := by decide +kernel
theorem dL_law_246 : decode cL_law 246 = .ok (.invokestatic 116, 3) := by decide +kernel
set_option maxRecDepth 100000 in
theorem q1119 : Cond.codeWith yL_store cL_store 5 (some FieldType.int) [(0, 10, 13, 20), (0, 10, 17, 13), (0, 10, 21, 15)] ∈ GT := gt 1119 (rfl) (by decide +kernel)
theorem q122 : Cond.initialized RL ∈ GT := gt 122 (by decide +kernel) (by decide +kernel)
theorem M_L_store : MYW yL_store cL_store 5 (some FieldType.int) [(0, 10, 13, 20), (0, 10, 17, 13), (0, 10, 21, 15)] 4 := ⟨q1119, q122, by decide +kernel, by decide +kernel⟩
theorem q1117 : Cond.methodLink RL 116 yL_store ∈ GT := gt 1117 (by decide +kernel) (by decide +kernel)
theorem q1118 : Cond.static yL_store ∈ GT := gt 1118 (by decide +kernel) (by decide +kernel)
theorem dL_law_249 : decode cL_law 249 = .ok (.istore 5, 2) := by decide +kernel
theorem dL_law_251 : decode cL_law 251 = .ok (.aload_n 2, 1) := by decide +kernel
theorem dL_law_252 : decode cL_law 252 = .ok (.aload_n 0, 1) := by decide +kernel
theorem dL_law_253 : decode cL_law 253 = .ok (.iload 4, 2) := by decide +kernel
theorem dL_law_255 : decode cL_law 255 = .ok (.iconst 1, 1) := by decide +kernel
theorem dL_law_256 : decode cL_law 256 = .ok (.iadd, 1) := by decide +kernel
theorem dL_law_257 : decode cL_law 257 = .ok (.iaload, 1) := by decide +kernel
theorem dL_law_258 : decode cL_law 258 = .ok (.aload_n 0, 1) := by decide +kernel
theorem dL_law_259 : decode cL_law 259 = .ok (.iload 4, 2) := by decide +kernel
theorem dL_law_261 : decode cL_law 261 = .ok (.iconst 2, 1) := by decide +kernel
theorem dL_law_262 : decode cL_law 262 = .ok (.iadd, 1) := by decide +kernel
theorem dL_law_263 : decode cL_law 263 = .ok (.iaload, 1) := by decide +kernel
theorem dL_law_264 : decode cL_law 264 = .ok (.invokevirtual 118, 3) := by decide +kernel
set_option maxRecDepth 100000 in
theorem q2001 : Cond.code yX12_store cX12_store 4 (some FieldType.int) ∈ GT := gt 2001 (rfl) (by decide +kernel)
theorem M_X12_store : MY yX12_store cX12_store 4 (some FieldType.int) 2 := ⟨q2001, q135, by decide +kernel, by decide +kernel⟩
theorem q1998 : Cond.methodLink RL 118 yX12_store ∈ GT := gt 1998 (by decide +kernel) (by decide +kernel)
theorem q1999 : Cond.instanceMethod yX12_store ∈ GT := gt 1999 (by decide +kernel) (by decide +kernel)
theorem q2000 : Cond.selects RX12 yX12_store yX12_store ∈ GT := gt 2000 (by decide +kernel) (by decide +kernel)
theorem dL_law_267 : decode cL_law 267 = .ok (.istore 6, 2) := by decide +kernel
theorem dL_law_269 : decode cL_law 269 = .ok (.aload_n 2, 1) := by decide +kernel
theorem dL_law_270 : decode cL_law 270 = .ok (.invokevirtual 112, 3) := by decide +kernel
set_option maxRecDepth 100000 in
theorem q1978 : Cond.code yX12_thrown cX12_thrown 1 (some FieldType.int) ∈ GT := gt 1978 (rfl) (by decide +kernel)
theorem M_X12_thrown : MY yX12_thrown cX12_thrown 1 (some FieldType.int) 0 := ⟨q1978, q135, by decide +kernel, by decide +kernel⟩
theorem q1975 : Cond.methodLink RL 112 yX12_thrown ∈ GT := gt 1975 (by decide +kernel) (by decide +kernel)
theorem q1976 : Cond.instanceMethod yX12_thrown ∈ GT := gt 1976 (by decide +kernel) (by decide +kernel)
theorem q1977 : Cond.selects RX12 yX12_thrown yX12_thrown ∈ GT := gt 1977 (by decide +kernel) (by decide +kernel)
theorem dL_law_273 : decode cL_law 273 = .ok (.iload 5, 2) := by decide +kernel
theorem dL_law_275 : decode cL_law 275 = .ok (.if_icmp .eq 5, 3) := by decide +kernel
theorem dL_law_280 : decode cL_law 280 = .ok (.iload 5, 2) := by decide +kernel
theorem dL_law_282 : decode cL_law 282 = .ok (.ifCond .ne 15, 3) := by decide +kernel
theorem dL_law_297 : decode cL_law 297 = .ok (.goto 1741, 3) := by decide +kernel
theorem dL_law_380 : decode cL_law 380 = .ok (.aload_n 1, 1) := by decide +kernel
theorem dL_law_381 : decode cL_law 381 = .ok (.aload_n 0, 1) := by decide +kernel
theorem dL_law_382 : decode cL_law 382 = .ok (.iload 4, 2) := by decide +kernel
theorem dL_law_384 : decode cL_law 384 = .ok (.iconst 1, 1) := by decide +kernel
theorem dL_law_385 : decode cL_law 385 = .ok (.iadd, 1) := by decide +kernel
theorem dL_law_386 : decode cL_law 386 = .ok (.iaload, 1) := by decide +kernel
theorem dL_law_387 : decode cL_law 387 = .ok (.aload_n 3, 1) := by decide +kernel
theorem dL_law_388 : decode cL_law 388 = .ok (.invokestatic 123, 3) := by decide +kernel
set_option maxRecDepth 100000 in
theorem q1241 : Cond.codeWith yL_name cL_name 4 (some FieldType.int) [(0, 9, 12, 20)] ∈ GT := gt 1241 (rfl) (by decide +kernel)
theorem M_L_name : MYW yL_name cL_name 4 (some FieldType.int) [(0, 9, 12, 20)] 3 := ⟨q1241, q122, by decide +kernel, by decide +kernel⟩
theorem q1239 : Cond.methodLink RL 123 yL_name ∈ GT := gt 1239 (by decide +kernel) (by decide +kernel)
theorem q1240 : Cond.static yL_name ∈ GT := gt 1240 (by decide +kernel) (by decide +kernel)
theorem dL_law_391 : decode cL_law 391 = .ok (.istore 5, 2) := by decide +kernel
theorem dL_law_393 : decode cL_law 393 = .ok (.aload_n 2, 1) := by decide +kernel
theorem dL_law_394 : decode cL_law 394 = .ok (.aload_n 0, 1) := by decide +kernel
theorem dL_law_395 : decode cL_law 395 = .ok (.iload 4, 2) := by decide +kernel
theorem dL_law_397 : decode cL_law 397 = .ok (.iconst 1, 1) := by decide +kernel
theorem dL_law_398 : decode cL_law 398 = .ok (.iadd, 1) := by decide +kernel
theorem dL_law_399 : decode cL_law 399 = .ok (.iaload, 1) := by decide +kernel
theorem dL_law_400 : decode cL_law 400 = .ok (.invokevirtual 126, 3) := by decide +kernel
set_option maxRecDepth 100000 in
theorem q2033 : Cond.code yX12_name cX12_name 2 (some FieldType.char) ∈ GT := gt 2033 (rfl) (by decide +kernel)
theorem M_X12_name : MY yX12_name cX12_name 2 (some FieldType.char) 1 := ⟨q2033, q135, by decide +kernel, by decide +kernel⟩
theorem q2030 : Cond.methodLink RL 126 yX12_name ∈ GT := gt 2030 (by decide +kernel) (by decide +kernel)
theorem q2031 : Cond.instanceMethod yX12_name ∈ GT := gt 2031 (by decide +kernel) (by decide +kernel)
theorem q2032 : Cond.selects RX12 yX12_name yX12_name ∈ GT := gt 2032 (by decide +kernel) (by decide +kernel)
theorem dL_law_403 : decode cL_law 403 = .ok (.istore 6, 2) := by decide +kernel
theorem dL_law_405 : decode cL_law 405 = .ok (.aload_n 2, 1) := by decide +kernel
theorem dL_law_406 : decode cL_law 406 = .ok (.invokevirtual 112, 3) := by decide +kernel
theorem dL_law_409 : decode cL_law 409 = .ok (.iload 5, 2) := by decide +kernel
theorem dL_law_411 : decode cL_law 411 = .ok (.if_icmp .eq 5, 3) := by decide +kernel
theorem dL_law_416 : decode cL_law 416 = .ok (.iload 5, 2) := by decide +kernel
theorem dL_law_418 : decode cL_law 418 = .ok (.ifCond .ne 15, 3) := by decide +kernel
theorem dL_law_433 : decode cL_law 433 = .ok (.goto 1605, 3) := by decide +kernel
theorem dL_law_436 : decode cL_law 436 = .ok (.aload_n 1, 1) := by decide +kernel
theorem dL_law_437 : decode cL_law 437 = .ok (.aload_n 0, 1) := by decide +kernel
theorem dL_law_438 : decode cL_law 438 = .ok (.iload 4, 2) := by decide +kernel
theorem dL_law_440 : decode cL_law 440 = .ok (.iconst 1, 1) := by decide +kernel
theorem dL_law_441 : decode cL_law 441 = .ok (.iadd, 1) := by decide +kernel
theorem dL_law_442 : decode cL_law 442 = .ok (.iaload, 1) := by decide +kernel
theorem dL_law_443 : decode cL_law 443 = .ok (.aload_n 0, 1) := by decide +kernel
theorem dL_law_444 : decode cL_law 444 = .ok (.iload 4, 2) := by decide +kernel
theorem dL_law_446 : decode cL_law 446 = .ok (.iconst 2, 1) := by decide +kernel
theorem dL_law_447 : decode cL_law 447 = .ok (.iadd, 1) := by decide +kernel
theorem dL_law_448 : decode cL_law 448 = .ok (.iaload, 1) := by decide +kernel
theorem dL_law_449 : decode cL_law 449 = .ok (.aload_n 3, 1) := by decide +kernel
theorem dL_law_450 : decode cL_law 450 = .ok (.invokestatic 127, 3) := by decide +kernel
set_option maxRecDepth 100000 in
theorem q1252 : Cond.codeWith yL_open cL_open 5 (some FieldType.int) [(0, 10, 13, 20), (0, 10, 17, 15)] ∈ GT := gt 1252 (rfl) (by decide +kernel)
theorem M_L_open : MYW yL_open cL_open 5 (some FieldType.int) [(0, 10, 13, 20), (0, 10, 17, 15)] 4 := ⟨q1252, q122, by decide +kernel, by decide +kernel⟩
theorem q1250 : Cond.methodLink RL 127 yL_open ∈ GT := gt 1250 (by decide +kernel) (by decide +kernel)
theorem q1251 : Cond.static yL_open ∈ GT := gt 1251 (by decide +kernel) (by decide +kernel)
theorem dL_law_453 : decode cL_law 453 = .ok (.istore 5, 2) := by decide +kernel
theorem dL_law_455 : decode cL_law 455 = .ok (.aload_n 2, 1) := by decide +kernel
theorem dL_law_456 : decode cL_law 456 = .ok (.aload_n 0, 1) := by decide +kernel
theorem dL_law_457 : decode cL_law 457 = .ok (.iload 4, 2) := by decide +kernel
theorem dL_law_459 : decode cL_law 459 = .ok (.iconst 1, 1) := by decide +kernel
theorem dL_law_460 : decode cL_law 460 = .ok (.iadd, 1) := by decide +kernel
theorem dL_law_461 : decode cL_law 461 = .ok (.iaload, 1) := by decide +kernel
theorem dL_law_462 : decode cL_law 462 = .ok (.aload_n 0, 1) := by decide +kernel
theorem dL_law_463 : decode cL_law 463 = .ok (.iload 4, 2) := by decide +kernel
theorem dL_law_465 : decode cL_law 465 = .ok (.iconst 2, 1) := by decide +kernel
theorem dL_law_466 : decode cL_law 466 = .ok (.iadd, 1) := by decide +kernel
theorem dL_law_467 : decode cL_law 467 = .ok (.iaload, 1) := by decide +kernel
theorem dL_law_468 : decode cL_law 468 = .ok (.invokevirtual 129, 3) := by decide +kernel
set_option maxRecDepth 100000 in
theorem q2037 : Cond.code yX12_open cX12_open 4 (some FieldType.int) ∈ GT := gt 2037 (rfl) (by decide +kernel)
theorem M_X12_open : MY yX12_open cX12_open 4 (some FieldType.int) 2 := ⟨q2037, q135, by decide +kernel, by decide +kernel⟩
theorem q2034 : Cond.methodLink RL 129 yX12_open ∈ GT := gt 2034 (by decide +kernel) (by decide +kernel)
theorem q2035 : Cond.instanceMethod yX12_open ∈ GT := gt 2035 (by decide +kernel) (by decide +kernel)
theorem q2036 : Cond.selects RX12 yX12_open yX12_open ∈ GT := gt 2036 (by decide +kernel) (by decide +kernel)
theorem dL_law_471 : decode cL_law 471 = .ok (.istore 6, 2) := by decide +kernel
theorem dL_law_473 : decode cL_law 473 = .ok (.aload_n 2, 1) := by decide +kernel
theorem dL_law_474 : decode cL_law 474 = .ok (.invokevirtual 112, 3) := by decide +kernel
theorem dL_law_477 : decode cL_law 477 = .ok (.iload 5, 2) := by decide +kernel
theorem dL_law_479 : decode cL_law 479 = .ok (.if_icmp .eq 5, 3) := by decide +kernel
theorem dL_law_484 : decode cL_law 484 = .ok (.iload 5, 2) := by decide +kernel
theorem dL_law_486 : decode cL_law 486 = .ok (.ifCond .ne 15, 3) := by decide +kernel
theorem dL_law_501 : decode cL_law 501 = .ok (.goto 1537, 3) := by decide +kernel
theorem dL_law_504 : decode cL_law 504 = .ok (.aload_n 1, 1) := by decide +kernel
theorem dL_law_505 : decode cL_law 505 = .ok (.aload_n 0, 1) := by decide +kernel
theorem dL_law_506 : decode cL_law 506 = .ok (.iload 4, 2) := by decide +kernel
theorem dL_law_508 : decode cL_law 508 = .ok (.iconst 1, 1) := by decide +kernel
theorem dL_law_509 : decode cL_law 509 = .ok (.iadd, 1) := by decide +kernel
theorem dL_law_510 : decode cL_law 510 = .ok (.iaload, 1) := by decide +kernel
theorem dL_law_511 : decode cL_law 511 = .ok (.aload_n 0, 1) := by decide +kernel
theorem dL_law_512 : decode cL_law 512 = .ok (.iload 4, 2) := by decide +kernel
theorem dL_law_514 : decode cL_law 514 = .ok (.iconst 2, 1) := by decide +kernel
theorem dL_law_515 : decode cL_law 515 = .ok (.iadd, 1) := by decide +kernel
theorem dL_law_516 : decode cL_law 516 = .ok (.iaload, 1) := by decide +kernel
theorem dL_law_517 : decode cL_law 517 = .ok (.invokestatic 130, 3) := by decide +kernel
set_option maxRecDepth 100000 in
theorem q1293 : Cond.codeWith yL_close cL_close 4 (some FieldType.int) [(0, 6, 9, 20), (0, 6, 12, 15)] ∈ GT := gt 1293 (rfl) (by decide +kernel)
theorem M_L_close : MYW yL_close cL_close 4 (some FieldType.int) [(0, 6, 9, 20), (0, 6, 12, 15)] 3 := ⟨q1293, q122, by decide +kernel, by decide +kernel⟩
theorem q1291 : Cond.methodLink RL 130 yL_close ∈ GT := gt 1291 (by decide +kernel) (by decide +kernel)
theorem q1292 : Cond.static yL_close ∈ GT := gt 1292 (by decide +kernel) (by decide +kernel)
theorem dL_law_520 : decode cL_law 520 = .ok (.istore 5, 2) := by decide +kernel
theorem dL_law_522 : decode cL_law 522 = .ok (.aload_n 2, 1) := by decide +kernel
theorem dL_law_523 : decode cL_law 523 = .ok (.aload_n 0, 1) := by decide +kernel
theorem dL_law_524 : decode cL_law 524 = .ok (.iload 4, 2) := by decide +kernel
theorem dL_law_526 : decode cL_law 526 = .ok (.iconst 1, 1) := by decide +kernel
theorem dL_law_527 : decode cL_law 527 = .ok (.iadd, 1) := by decide +kernel
theorem dL_law_528 : decode cL_law 528 = .ok (.iaload, 1) := by decide +kernel
theorem dL_law_529 : decode cL_law 529 = .ok (.aload_n 0, 1) := by decide +kernel
theorem dL_law_530 : decode cL_law 530 = .ok (.iload 4, 2) := by decide +kernel
theorem dL_law_532 : decode cL_law 532 = .ok (.iconst 2, 1) := by decide +kernel
theorem dL_law_533 : decode cL_law 533 = .ok (.iadd, 1) := by decide +kernel
theorem dL_law_534 : decode cL_law 534 = .ok (.iaload, 1) := by decide +kernel
theorem dL_law_535 : decode cL_law 535 = .ok (.invokevirtual 133, 3) := by decide +kernel
set_option maxRecDepth 100000 in
theorem q2056 : Cond.code yX12_close cX12_close 7 none ∈ GT := gt 2056 (rfl) (by decide +kernel)
theorem M_X12_close : MY yX12_close cX12_close 7 none 2 := ⟨q2056, q135, by decide +kernel, by decide +kernel⟩
theorem q2053 : Cond.methodLink RL 133 yX12_close ∈ GT := gt 2053 (by decide +kernel) (by decide +kernel)
theorem q2054 : Cond.instanceMethod yX12_close ∈ GT := gt 2054 (by decide +kernel) (by decide +kernel)
theorem q2055 : Cond.selects RX12 yX12_close yX12_close ∈ GT := gt 2055 (by decide +kernel) (by decide +kernel)
theorem dL_law_538 : decode cL_law 538 = .ok (.aload_n 2, 1) := by decide +kernel
theorem dL_law_539 : decode cL_law 539 = .ok (.invokevirtual 112, 3) := by decide +kernel
theorem dL_law_542 : decode cL_law 542 = .ok (.iload 5, 2) := by decide +kernel
theorem dL_law_544 : decode cL_law 544 = .ok (.if_icmp .eq 5, 3) := by decide +kernel
theorem dL_law_549 : decode cL_law 549 = .ok (.goto 1489, 3) := by decide +kernel
theorem dL_law_552 : decode cL_law 552 = .ok (.aload_n 1, 1) := by decide +kernel
theorem dL_law_553 : decode cL_law 553 = .ok (.aload_n 0, 1) := by decide +kernel
theorem dL_law_554 : decode cL_law 554 = .ok (.iload 4, 2) := by decide +kernel
theorem dL_law_556 : decode cL_law 556 = .ok (.iconst 1, 1) := by decide +kernel
theorem dL_law_557 : decode cL_law 557 = .ok (.iadd, 1) := by decide +kernel
theorem dL_law_558 : decode cL_law 558 = .ok (.iaload, 1) := by decide +kernel
theorem dL_law_559 : decode cL_law 559 = .ok (.aload_n 0, 1) := by decide +kernel
theorem dL_law_560 : decode cL_law 560 = .ok (.iload 4, 2) := by decide +kernel
theorem dL_law_562 : decode cL_law 562 = .ok (.iconst 2, 1) := by decide +kernel
theorem dL_law_563 : decode cL_law 563 = .ok (.iadd, 1) := by decide +kernel
theorem dL_law_564 : decode cL_law 564 = .ok (.iaload, 1) := by decide +kernel
theorem dL_law_565 : decode cL_law 565 = .ok (.aload_n 0, 1) := by decide +kernel
theorem dL_law_566 : decode cL_law 566 = .ok (.iload 4, 2) := by decide +kernel
theorem dL_law_568 : decode cL_law 568 = .ok (.iconst 3, 1) := by decide +kernel
theorem dL_law_569 : decode cL_law 569 = .ok (.iadd, 1) := by decide +kernel
theorem dL_law_570 : decode cL_law 570 = .ok (.iaload, 1) := by decide +kernel
theorem dL_law_571 : decode cL_law 571 = .ok (.aload_n 0, 1) := by decide +kernel
theorem dL_law_572 : decode cL_law 572 = .ok (.iload 4, 2) := by decide +kernel
theorem dL_law_574 : decode cL_law 574 = .ok (.iconst 4, 1) := by decide +kernel
theorem dL_law_575 : decode cL_law 575 = .ok (.iadd, 1) := by decide +kernel
theorem dL_law_576 : decode cL_law 576 = .ok (.iaload, 1) := by decide +kernel
theorem dL_law_577 : decode cL_law 577 = .ok (.aload_n 0, 1) := by decide +kernel
theorem dL_law_578 : decode cL_law 578 = .ok (.iload 4, 2) := by decide +kernel
theorem dL_law_580 : decode cL_law 580 = .ok (.iconst 5, 1) := by decide +kernel
theorem dL_law_581 : decode cL_law 581 = .ok (.iadd, 1) := by decide +kernel
theorem dL_law_582 : decode cL_law 582 = .ok (.iaload, 1) := by decide +kernel
theorem dL_law_583 : decode cL_law 583 = .ok (.aload_n 0, 1) := by decide +kernel
theorem dL_law_584 : decode cL_law 584 = .ok (.iload 4, 2) := by decide +kernel
theorem dL_law_586 : decode cL_law 586 = .ok (.bipush 6, 2) := by decide +kernel
theorem dL_law_588 : decode cL_law 588 = .ok (.iadd, 1) := by decide +kernel
theorem dL_law_589 : decode cL_law 589 = .ok (.iaload, 1) := by decide +kernel
theorem dL_law_590 : decode cL_law 590 = .ok (.aload_n 0, 1) := by decide +kernel
theorem dL_law_591 : decode cL_law 591 = .ok (.iload 4, 2) := by decide +kernel
theorem dL_law_593 : decode cL_law 593 = .ok (.bipush 7, 2) := by decide +kernel
theorem dL_law_595 : decode cL_law 595 = .ok (.iadd, 1) := by decide +kernel
theorem dL_law_596 : decode cL_law 596 = .ok (.iaload, 1) := by decide +kernel
theorem dL_law_597 : decode cL_law 597 = .ok (.aload_n 3, 1) := by decide +kernel
theorem dL_law_598 : decode cL_law 598 = .ok (.invokestatic 134, 3) := by decide +kernel
set_option maxRecDepth 100000 in
theorem q1322 : Cond.codeWith yL_change cL_change 10 (some FieldType.int) [(0, 20, 23, 20), (0, 20, 27, 13), (0, 20, 31, 15)] ∈ GT := gt 1322 (rfl) (by decide +kernel)
theorem M_L_change : MYW yL_change cL_change 10 (some FieldType.int) [(0, 20, 23, 20), (0, 20, 27, 13), (0, 20, 31, 15)] 9 := ⟨q1322, q122, by decide +kernel, by decide +kernel⟩
theorem q1320 : Cond.methodLink RL 134 yL_change ∈ GT := gt 1320 (by decide +kernel) (by decide +kernel)
theorem q1321 : Cond.static yL_change ∈ GT := gt 1321 (by decide +kernel) (by decide +kernel)
theorem dL_law_601 : decode cL_law 601 = .ok (.istore 5, 2) := by decide +kernel
theorem dL_law_603 : decode cL_law 603 = .ok (.aload_n 2, 1) := by decide +kernel
theorem dL_law_604 : decode cL_law 604 = .ok (.aload_n 0, 1) := by decide +kernel
theorem dL_law_605 : decode cL_law 605 = .ok (.iload 4, 2) := by decide +kernel
theorem dL_law_607 : decode cL_law 607 = .ok (.iconst 1, 1) := by decide +kernel
theorem dL_law_608 : decode cL_law 608 = .ok (.iadd, 1) := by decide +kernel
theorem dL_law_609 : decode cL_law 609 = .ok (.iaload, 1) := by decide +kernel
theorem dL_law_610 : decode cL_law 610 = .ok (.aload_n 0, 1) := by decide +kernel
theorem dL_law_611 : decode cL_law 611 = .ok (.iload 4, 2) := by decide +kernel
theorem dL_law_613 : decode cL_law 613 = .ok (.iconst 2, 1) := by decide +kernel
theorem dL_law_614 : decode cL_law 614 = .ok (.iadd, 1) := by decide +kernel
theorem dL_law_615 : decode cL_law 615 = .ok (.iaload, 1) := by decide +kernel
theorem dL_law_616 : decode cL_law 616 = .ok (.aload_n 0, 1) := by decide +kernel
theorem dL_law_617 : decode cL_law 617 = .ok (.iload 4, 2) := by decide +kernel
theorem dL_law_619 : decode cL_law 619 = .ok (.iconst 3, 1) := by decide +kernel
theorem dL_law_620 : decode cL_law 620 = .ok (.iadd, 1) := by decide +kernel
theorem dL_law_621 : decode cL_law 621 = .ok (.iaload, 1) := by decide +kernel
theorem dL_law_622 : decode cL_law 622 = .ok (.aload_n 0, 1) := by decide +kernel
theorem dL_law_623 : decode cL_law 623 = .ok (.iload 4, 2) := by decide +kernel
theorem dL_law_625 : decode cL_law 625 = .ok (.iconst 4, 1) := by decide +kernel
theorem dL_law_626 : decode cL_law 626 = .ok (.iadd, 1) := by decide +kernel
theorem dL_law_627 : decode cL_law 627 = .ok (.iaload, 1) := by decide +kernel
theorem dL_law_628 : decode cL_law 628 = .ok (.aload_n 0, 1) := by decide +kernel
theorem dL_law_629 : decode cL_law 629 = .ok (.iload 4, 2) := by decide +kernel
theorem dL_law_631 : decode cL_law 631 = .ok (.iconst 5, 1) := by decide +kernel
theorem dL_law_632 : decode cL_law 632 = .ok (.iadd, 1) := by decide +kernel
theorem dL_law_633 : decode cL_law 633 = .ok (.iaload, 1) := by decide +kernel
theorem dL_law_634 : decode cL_law 634 = .ok (.aload_n 0, 1) := by decide +kernel
theorem dL_law_635 : decode cL_law 635 = .ok (.iload 4, 2) := by decide +kernel
theorem dL_law_637 : decode cL_law 637 = .ok (.bipush 6, 2) := by decide +kernel
theorem dL_law_639 : decode cL_law 639 = .ok (.iadd, 1) := by decide +kernel
theorem dL_law_640 : decode cL_law 640 = .ok (.iaload, 1) := by decide +kernel
theorem dL_law_641 : decode cL_law 641 = .ok (.aload_n 0, 1) := by decide +kernel
theorem dL_law_642 : decode cL_law 642 = .ok (.iload 4, 2) := by decide +kernel
theorem dL_law_644 : decode cL_law 644 = .ok (.bipush 7, 2) := by decide +kernel
theorem dL_law_646 : decode cL_law 646 = .ok (.iadd, 1) := by decide +kernel
theorem dL_law_647 : decode cL_law 647 = .ok (.iaload, 1) := by decide +kernel
theorem dL_law_648 : decode cL_law 648 = .ok (.invokevirtual 137, 3) := by decide +kernel
set_option maxRecDepth 100000 in
theorem q2075 : Cond.code yX12_change cX12_change 13 (some FieldType.int) ∈ GT := gt 2075 (rfl) (by decide +kernel)
theorem M_X12_change : MY yX12_change cX12_change 13 (some FieldType.int) 7 := ⟨q2075, q135, by decide +kernel, by decide +kernel⟩
theorem q2072 : Cond.methodLink RL 137 yX12_change ∈ GT := gt 2072 (by decide +kernel) (by decide +kernel)
theorem q2073 : Cond.instanceMethod yX12_change ∈ GT := gt 2073 (by decide +kernel) (by decide +kernel)
theorem q2074 : Cond.selects RX12 yX12_change yX12_change ∈ GT := gt 2074 (by decide +kernel) (by decide +kernel)
theorem dL_law_651 : decode cL_law 651 = .ok (.istore 6, 2) := by decide +kernel
theorem dL_law_653 : decode cL_law 653 = .ok (.aload_n 2, 1) := by decide +kernel
theorem dL_law_654 : decode cL_law 654 = .ok (.invokevirtual 112, 3) := by decide +kernel
theorem dL_law_657 : decode cL_law 657 = .ok (.iload 5, 2) := by decide +kernel
theorem dL_law_659 : decode cL_law 659 = .ok (.if_icmp .eq 5, 3) := by decide +kernel
theorem dL_law_664 : decode cL_law 664 = .ok (.iload 5, 2) := by decide +kernel
theorem dL_law_666 : decode cL_law 666 = .ok (.ifCond .ne 15, 3) := by decide +kernel
theorem dL_law_681 : decode cL_law 681 = .ok (.goto 1357, 3) := by decide +kernel
theorem dL_law_684 : decode cL_law 684 = .ok (.aload_n 1, 1) := by decide +kernel
theorem dL_law_685 : decode cL_law 685 = .ok (.aload_n 0, 1) := by decide +kernel
theorem dL_law_686 : decode cL_law 686 = .ok (.iload 4, 2) := by decide +kernel
theorem dL_law_688 : decode cL_law 688 = .ok (.iconst 1, 1) := by decide +kernel
theorem dL_law_689 : decode cL_law 689 = .ok (.iadd, 1) := by decide +kernel
theorem dL_law_690 : decode cL_law 690 = .ok (.iaload, 1) := by decide +kernel
theorem dL_law_691 : decode cL_law 691 = .ok (.aload_n 0, 1) := by decide +kernel
theorem dL_law_692 : decode cL_law 692 = .ok (.iload 4, 2) := by decide +kernel
theorem dL_law_694 : decode cL_law 694 = .ok (.iconst 2, 1) := by decide +kernel
theorem dL_law_695 : decode cL_law 695 = .ok (.iadd, 1) := by decide +kernel
theorem dL_law_696 : decode cL_law 696 = .ok (.iaload, 1) := by decide +kernel
theorem dL_law_697 : decode cL_law 697 = .ok (.aload_n 0, 1) := by decide +kernel
theorem dL_law_698 : decode cL_law 698 = .ok (.iload 4, 2) := by decide +kernel
theorem dL_law_700 : decode cL_law 700 = .ok (.iconst 3, 1) := by decide +kernel
theorem dL_law_701 : decode cL_law 701 = .ok (.iadd, 1) := by decide +kernel
theorem dL_law_702 : decode cL_law 702 = .ok (.iaload, 1) := by decide +kernel
theorem dL_law_703 : decode cL_law 703 = .ok (.aload_n 0, 1) := by decide +kernel
theorem dL_law_704 : decode cL_law 704 = .ok (.iload 4, 2) := by decide +kernel
theorem dL_law_706 : decode cL_law 706 = .ok (.iconst 4, 1) := by decide +kernel
theorem dL_law_707 : decode cL_law 707 = .ok (.iadd, 1) := by decide +kernel
theorem dL_law_708 : decode cL_law 708 = .ok (.iaload, 1) := by decide +kernel
theorem dL_law_709 : decode cL_law 709 = .ok (.aload_n 0, 1) := by decide +kernel
theorem dL_law_710 : decode cL_law 710 = .ok (.iload 4, 2) := by decide +kernel
theorem dL_law_712 : decode cL_law 712 = .ok (.iconst 5, 1) := by decide +kernel
theorem dL_law_713 : decode cL_law 713 = .ok (.iadd, 1) := by decide +kernel
theorem dL_law_714 : decode cL_law 714 = .ok (.iaload, 1) := by decide +kernel
theorem dL_law_715 : decode cL_law 715 = .ok (.aload_n 0, 1) := by decide +kernel
theorem dL_law_716 : decode cL_law 716 = .ok (.iload 4, 2) := by decide +kernel
theorem dL_law_718 : decode cL_law 718 = .ok (.bipush 6, 2) := by decide +kernel
theorem dL_law_720 : decode cL_law 720 = .ok (.iadd, 1) := by decide +kernel
theorem dL_law_721 : decode cL_law 721 = .ok (.iaload, 1) := by decide +kernel
theorem dL_law_722 : decode cL_law 722 = .ok (.aload_n 3, 1) := by decide +kernel
theorem dL_law_723 : decode cL_law 723 = .ok (.invokestatic 138, 3) := by decide +kernel
set_option maxRecDepth 100000 in
theorem q1344 : Cond.codeWith yL_request cL_request 9 (some FieldType.int) [(0, 18, 21, 20), (0, 18, 25, 13), (0, 18, 29, 15)] ∈ GT := gt 1344 (rfl) (by decide +kernel)
theorem M_L_request : MYW yL_request cL_request 9 (some FieldType.int) [(0, 18, 21, 20), (0, 18, 25, 13), (0, 18, 29, 15)] 8 := ⟨q1344, q122, by decide +kernel, by decide +kernel⟩
theorem q1342 : Cond.methodLink RL 138 yL_request ∈ GT := gt 1342 (by decide +kernel) (by decide +kernel)
theorem q1343 : Cond.static yL_request ∈ GT := gt 1343 (by decide +kernel) (by decide +kernel)
theorem dL_law_726 : decode cL_law 726 = .ok (.istore 5, 2) := by decide +kernel
theorem dL_law_728 : decode cL_law 728 = .ok (.aload_n 2, 1) := by decide +kernel
theorem dL_law_729 : decode cL_law 729 = .ok (.aload_n 0, 1) := by decide +kernel
theorem dL_law_730 : decode cL_law 730 = .ok (.iload 4, 2) := by decide +kernel
theorem dL_law_732 : decode cL_law 732 = .ok (.iconst 1, 1) := by decide +kernel
theorem dL_law_733 : decode cL_law 733 = .ok (.iadd, 1) := by decide +kernel
theorem dL_law_734 : decode cL_law 734 = .ok (.iaload, 1) := by decide +kernel
theorem dL_law_735 : decode cL_law 735 = .ok (.aload_n 0, 1) := by decide +kernel
theorem dL_law_736 : decode cL_law 736 = .ok (.iload 4, 2) := by decide +kernel
theorem dL_law_738 : decode cL_law 738 = .ok (.iconst 2, 1) := by decide +kernel
theorem dL_law_739 : decode cL_law 739 = .ok (.iadd, 1) := by decide +kernel
theorem dL_law_740 : decode cL_law 740 = .ok (.iaload, 1) := by decide +kernel
theorem dL_law_741 : decode cL_law 741 = .ok (.aload_n 0, 1) := by decide +kernel
theorem dL_law_742 : decode cL_law 742 = .ok (.iload 4, 2) := by decide +kernel
theorem dL_law_744 : decode cL_law 744 = .ok (.iconst 3, 1) := by decide +kernel
theorem dL_law_745 : decode cL_law 745 = .ok (.iadd, 1) := by decide +kernel
theorem dL_law_746 : decode cL_law 746 = .ok (.iaload, 1) := by decide +kernel
theorem dL_law_747 : decode cL_law 747 = .ok (.aload_n 0, 1) := by decide +kernel
theorem dL_law_748 : decode cL_law 748 = .ok (.iload 4, 2) := by decide +kernel
theorem dL_law_750 : decode cL_law 750 = .ok (.iconst 4, 1) := by decide +kernel
theorem dL_law_751 : decode cL_law 751 = .ok (.iadd, 1) := by decide +kernel
theorem dL_law_752 : decode cL_law 752 = .ok (.iaload, 1) := by decide +kernel
theorem dL_law_753 : decode cL_law 753 = .ok (.aload_n 0, 1) := by decide +kernel
theorem dL_law_754 : decode cL_law 754 = .ok (.iload 4, 2) := by decide +kernel
theorem dL_law_756 : decode cL_law 756 = .ok (.iconst 5, 1) := by decide +kernel
theorem dL_law_757 : decode cL_law 757 = .ok (.iadd, 1) := by decide +kernel
theorem dL_law_758 : decode cL_law 758 = .ok (.iaload, 1) := by decide +kernel
theorem dL_law_759 : decode cL_law 759 = .ok (.aload_n 0, 1) := by decide +kernel
theorem dL_law_760 : decode cL_law 760 = .ok (.iload 4, 2) := by decide +kernel
theorem dL_law_762 : decode cL_law 762 = .ok (.bipush 6, 2) := by decide +kernel
theorem dL_law_764 : decode cL_law 764 = .ok (.iadd, 1) := by decide +kernel
theorem dL_law_765 : decode cL_law 765 = .ok (.iaload, 1) := by decide +kernel
theorem dL_law_766 : decode cL_law 766 = .ok (.invokevirtual 141, 3) := by decide +kernel
set_option maxRecDepth 100000 in
theorem q2110 : Cond.code yX12_request cX12_request 11 (some FieldType.int) ∈ GT := gt 2110 (rfl) (by decide +kernel)
theorem M_X12_request : MY yX12_request cX12_request 11 (some FieldType.int) 6 := ⟨q2110, q135, by decide +kernel, by decide +kernel⟩
theorem q2107 : Cond.methodLink RL 141 yX12_request ∈ GT := gt 2107 (by decide +kernel) (by decide +kernel)
theorem q2108 : Cond.instanceMethod yX12_request ∈ GT := gt 2108 (by decide +kernel) (by decide +kernel)
theorem q2109 : Cond.selects RX12 yX12_request yX12_request ∈ GT := gt 2109 (by decide +kernel) (by decide +kernel)
theorem dL_law_769 : decode cL_law 769 = .ok (.istore 6, 2) := by decide +kernel
theorem dL_law_771 : decode cL_law 771 = .ok (.aload_n 2, 1) := by decide +kernel
theorem dL_law_772 : decode cL_law 772 = .ok (.invokevirtual 112, 3) := by decide +kernel
theorem dL_law_775 : decode cL_law 775 = .ok (.iload 5, 2) := by decide +kernel
theorem dL_law_777 : decode cL_law 777 = .ok (.if_icmp .eq 5, 3) := by decide +kernel
theorem dL_law_782 : decode cL_law 782 = .ok (.iload 5, 2) := by decide +kernel
theorem dL_law_784 : decode cL_law 784 = .ok (.ifCond .ne 15, 3) := by decide +kernel
theorem dL_law_799 : decode cL_law 799 = .ok (.goto 1239, 3) := by decide +kernel
theorem dL_law_1439 : decode cL_law 1439 = .ok (.aload_n 1, 1) := by decide +kernel
theorem dL_law_1440 : decode cL_law 1440 = .ok (.aload_n 0, 1) := by decide +kernel
theorem dL_law_1441 : decode cL_law 1441 = .ok (.iload 4, 2) := by decide +kernel
theorem dL_law_1443 : decode cL_law 1443 = .ok (.iconst 1, 1) := by decide +kernel
theorem dL_law_1444 : decode cL_law 1444 = .ok (.iadd, 1) := by decide +kernel
theorem dL_law_1445 : decode cL_law 1445 = .ok (.iaload, 1) := by decide +kernel
theorem dL_law_1446 : decode cL_law 1446 = .ok (.aload_n 3, 1) := by decide +kernel
theorem dL_law_1447 : decode cL_law 1447 = .ok (.invokestatic 176, 3) := by decide +kernel
set_option maxRecDepth 100000 in
theorem q1659 : Cond.codeWith yL_agree cL_agree 4 (some FieldType.int) [(0, 16, 19, 20)] ∈ GT := gt 1659 (rfl) (by decide +kernel)
theorem M_L_agree : MYW yL_agree cL_agree 4 (some FieldType.int) [(0, 16, 19, 20)] 3 := ⟨q1659, q122, by decide +kernel, by decide +kernel⟩
theorem q1657 : Cond.methodLink RL 176 yL_agree ∈ GT := gt 1657 (by decide +kernel) (by decide +kernel)
theorem q1658 : Cond.static yL_agree ∈ GT := gt 1658 (by decide +kernel) (by decide +kernel)
theorem dL_law_1450 : decode cL_law 1450 = .ok (.istore 5, 2) := by decide +kernel
theorem dL_law_1452 : decode cL_law 1452 = .ok (.aload_n 2, 1) := by decide +kernel
theorem dL_law_1453 : decode cL_law 1453 = .ok (.aload_n 0, 1) := by decide +kernel
theorem dL_law_1454 : decode cL_law 1454 = .ok (.iload 4, 2) := by decide +kernel
theorem dL_law_1456 : decode cL_law 1456 = .ok (.iconst 1, 1) := by decide +kernel
theorem dL_law_1457 : decode cL_law 1457 = .ok (.iadd, 1) := by decide +kernel
theorem dL_law_1458 : decode cL_law 1458 = .ok (.iaload, 1) := by decide +kernel
theorem dL_law_1459 : decode cL_law 1459 = .ok (.invokevirtual 178, 3) := by decide +kernel
set_option maxRecDepth 100000 in
theorem q2361 : Cond.code yX12_agree cX12_agree 2 (some FieldType.boolean) ∈ GT := gt 2361 (rfl) (by decide +kernel)
theorem M_X12_agree : MY yX12_agree cX12_agree 2 (some FieldType.boolean) 1 := ⟨q2361, q135, by decide +kernel, by decide +kernel⟩
theorem q2358 : Cond.methodLink RL 178 yX12_agree ∈ GT := gt 2358 (by decide +kernel) (by decide +kernel)
theorem q2359 : Cond.instanceMethod yX12_agree ∈ GT := gt 2359 (by decide +kernel) (by decide +kernel)
theorem q2360 : Cond.selects RX12 yX12_agree yX12_agree ∈ GT := gt 2360 (by decide +kernel) (by decide +kernel)
theorem dL_law_1462 : decode cL_law 1462 = .ok (.istore 6, 2) := by decide +kernel
theorem dL_law_1464 : decode cL_law 1464 = .ok (.aload_n 2, 1) := by decide +kernel
theorem dL_law_1465 : decode cL_law 1465 = .ok (.invokevirtual 112, 3) := by decide +kernel
theorem dL_law_1468 : decode cL_law 1468 = .ok (.iload 5, 2) := by decide +kernel
theorem dL_law_1470 : decode cL_law 1470 = .ok (.if_icmp .eq 5, 3) := by decide +kernel
theorem dL_law_1475 : decode cL_law 1475 = .ok (.iload 5, 2) := by decide +kernel
theorem dL_law_1477 : decode cL_law 1477 = .ok (.ifCond .ne 22, 3) := by decide +kernel
theorem dL_law_1499 : decode cL_law 1499 = .ok (.goto 539, 3) := by decide +kernel
theorem dL_law_1890 : decode cL_law 1890 = .ok (.aload_n 1, 1) := by decide +kernel
theorem dL_law_1891 : decode cL_law 1891 = .ok (.aload_n 0, 1) := by decide +kernel
theorem dL_law_1892 : decode cL_law 1892 = .ok (.iload 4, 2) := by decide +kernel
theorem dL_law_1894 : decode cL_law 1894 = .ok (.iconst 1, 1) := by decide +kernel
theorem dL_law_1895 : decode cL_law 1895 = .ok (.iadd, 1) := by decide +kernel
theorem dL_law_1896 : decode cL_law 1896 = .ok (.iaload, 1) := by decide +kernel
theorem dL_law_1897 : decode cL_law 1897 = .ok (.aload_n 0, 1) := by decide +kernel
theorem dL_law_1898 : decode cL_law 1898 = .ok (.iload 4, 2) := by decide +kernel
theorem dL_law_1900 : decode cL_law 1900 = .ok (.iconst 2, 1) := by decide +kernel
theorem dL_law_1901 : decode cL_law 1901 = .ok (.iadd, 1) := by decide +kernel
theorem dL_law_1902 : decode cL_law 1902 = .ok (.iaload, 1) := by decide +kernel
theorem dL_law_1903 : decode cL_law 1903 = .ok (.aload_n 3, 1) := by decide +kernel
theorem dL_law_1904 : decode cL_law 1904 = .ok (.invokestatic 194, 3) := by decide +kernel
set_option maxRecDepth 100000 in
theorem q1727 : Cond.codeWith yL_faults cL_faults 5 (some FieldType.int) [(0, 10, 13, 20)] ∈ GT := gt 1727 (rfl) (by decide +kernel)
theorem M_L_faults : MYW yL_faults cL_faults 5 (some FieldType.int) [(0, 10, 13, 20)] 4 := ⟨q1727, q122, by decide +kernel, by decide +kernel⟩
theorem q1725 : Cond.methodLink RL 194 yL_faults ∈ GT := gt 1725 (by decide +kernel) (by decide +kernel)
theorem q1726 : Cond.static yL_faults ∈ GT := gt 1726 (by decide +kernel) (by decide +kernel)
theorem dL_law_1907 : decode cL_law 1907 = .ok (.istore 5, 2) := by decide +kernel
theorem dL_law_1909 : decode cL_law 1909 = .ok (.aload_n 2, 1) := by decide +kernel
theorem dL_law_1910 : decode cL_law 1910 = .ok (.aload_n 0, 1) := by decide +kernel
theorem dL_law_1911 : decode cL_law 1911 = .ok (.iload 4, 2) := by decide +kernel
theorem dL_law_1913 : decode cL_law 1913 = .ok (.iconst 1, 1) := by decide +kernel
theorem dL_law_1914 : decode cL_law 1914 = .ok (.iadd, 1) := by decide +kernel
theorem dL_law_1915 : decode cL_law 1915 = .ok (.iaload, 1) := by decide +kernel
theorem dL_law_1916 : decode cL_law 1916 = .ok (.aload_n 0, 1) := by decide +kernel
theorem dL_law_1917 : decode cL_law 1917 = .ok (.iload 4, 2) := by decide +kernel
theorem dL_law_1919 : decode cL_law 1919 = .ok (.iconst 2, 1) := by decide +kernel
theorem dL_law_1920 : decode cL_law 1920 = .ok (.iadd, 1) := by decide +kernel
theorem dL_law_1921 : decode cL_law 1921 = .ok (.iaload, 1) := by decide +kernel
theorem dL_law_1922 : decode cL_law 1922 = .ok (.invokevirtual 196, 3) := by decide +kernel
set_option maxRecDepth 100000 in
theorem q2395 : Cond.code yX12_faults cX12_faults 4 (some FieldType.int) ∈ GT := gt 2395 (rfl) (by decide +kernel)
theorem M_X12_faults : MY yX12_faults cX12_faults 4 (some FieldType.int) 2 := ⟨q2395, q135, by decide +kernel, by decide +kernel⟩
theorem q2392 : Cond.methodLink RL 196 yX12_faults ∈ GT := gt 2392 (by decide +kernel) (by decide +kernel)
theorem q2393 : Cond.instanceMethod yX12_faults ∈ GT := gt 2393 (by decide +kernel) (by decide +kernel)
theorem q2394 : Cond.selects RX12 yX12_faults yX12_faults ∈ GT := gt 2394 (by decide +kernel) (by decide +kernel)
theorem dL_law_1925 : decode cL_law 1925 = .ok (.istore 6, 2) := by decide +kernel
theorem dL_law_1927 : decode cL_law 1927 = .ok (.aload_n 2, 1) := by decide +kernel
theorem dL_law_1928 : decode cL_law 1928 = .ok (.invokevirtual 112, 3) := by decide +kernel
theorem dL_law_1931 : decode cL_law 1931 = .ok (.iload 5, 2) := by decide +kernel
theorem dL_law_1933 : decode cL_law 1933 = .ok (.if_icmp .eq 5, 3) := by decide +kernel
theorem dL_law_1938 : decode cL_law 1938 = .ok (.iload 5, 2) := by decide +kernel
theorem dL_law_1940 : decode cL_law 1940 = .ok (.ifCond .ne 15, 3) := by decide +kernel
theorem dL_law_1955 : decode cL_law 1955 = .ok (.goto 83, 3) := by decide +kernel
theorem dL_law_1958 : decode cL_law 1958 = .ok (.aload_n 1, 1) := by decide +kernel
theorem dL_law_1959 : decode cL_law 1959 = .ok (.aload_n 0, 1) := by decide +kernel
theorem dL_law_1960 : decode cL_law 1960 = .ok (.iload 4, 2) := by decide +kernel
theorem dL_law_1962 : decode cL_law 1962 = .ok (.iconst 1, 1) := by decide +kernel
theorem dL_law_1963 : decode cL_law 1963 = .ok (.iadd, 1) := by decide +kernel
theorem dL_law_1964 : decode cL_law 1964 = .ok (.iaload, 1) := by decide +kernel
theorem dL_law_1965 : decode cL_law 1965 = .ok (.aload_n 0, 1) := by decide +kernel
theorem dL_law_1966 : decode cL_law 1966 = .ok (.iload 4, 2) := by decide +kernel
theorem dL_law_1968 : decode cL_law 1968 = .ok (.iconst 2, 1) := by decide +kernel
theorem dL_law_1969 : decode cL_law 1969 = .ok (.iadd, 1) := by decide +kernel
theorem dL_law_1970 : decode cL_law 1970 = .ok (.iaload, 1) := by decide +kernel
theorem dL_law_1971 : decode cL_law 1971 = .ok (.aload_n 0, 1) := by decide +kernel
theorem dL_law_1972 : decode cL_law 1972 = .ok (.iload 4, 2) := by decide +kernel
theorem dL_law_1974 : decode cL_law 1974 = .ok (.iconst 3, 1) := by decide +kernel
theorem dL_law_1975 : decode cL_law 1975 = .ok (.iadd, 1) := by decide +kernel
theorem dL_law_1976 : decode cL_law 1976 = .ok (.iaload, 1) := by decide +kernel
theorem dL_law_1977 : decode cL_law 1977 = .ok (.aload_n 3, 1) := by decide +kernel
theorem dL_law_1978 : decode cL_law 1978 = .ok (.invokestatic 197, 3) := by decide +kernel
set_option maxRecDepth 100000 in
theorem q1735 : Cond.codeWith yL_fault cL_fault 6 (some FieldType.int) [(0, 12, 15, 20)] ∈ GT := gt 1735 (rfl) (by decide +kernel)
theorem M_L_fault : MYW yL_fault cL_fault 6 (some FieldType.int) [(0, 12, 15, 20)] 5 := ⟨q1735, q122, by decide +kernel, by decide +kernel⟩
theorem q1733 : Cond.methodLink RL 197 yL_fault ∈ GT := gt 1733 (by decide +kernel) (by decide +kernel)
theorem q1734 : Cond.static yL_fault ∈ GT := gt 1734 (by decide +kernel) (by decide +kernel)
theorem dL_law_1981 : decode cL_law 1981 = .ok (.istore 5, 2) := by decide +kernel
theorem dL_law_1983 : decode cL_law 1983 = .ok (.aload_n 2, 1) := by decide +kernel
theorem dL_law_1984 : decode cL_law 1984 = .ok (.aload_n 0, 1) := by decide +kernel
theorem dL_law_1985 : decode cL_law 1985 = .ok (.iload 4, 2) := by decide +kernel
theorem dL_law_1987 : decode cL_law 1987 = .ok (.iconst 1, 1) := by decide +kernel
theorem dL_law_1988 : decode cL_law 1988 = .ok (.iadd, 1) := by decide +kernel
theorem dL_law_1989 : decode cL_law 1989 = .ok (.iaload, 1) := by decide +kernel
theorem dL_law_1990 : decode cL_law 1990 = .ok (.aload_n 0, 1) := by decide +kernel
theorem dL_law_1991 : decode cL_law 1991 = .ok (.iload 4, 2) := by decide +kernel
theorem dL_law_1993 : decode cL_law 1993 = .ok (.iconst 2, 1) := by decide +kernel
theorem dL_law_1994 : decode cL_law 1994 = .ok (.iadd, 1) := by decide +kernel
theorem dL_law_1995 : decode cL_law 1995 = .ok (.iaload, 1) := by decide +kernel
theorem dL_law_1996 : decode cL_law 1996 = .ok (.aload_n 0, 1) := by decide +kernel
theorem dL_law_1997 : decode cL_law 1997 = .ok (.iload 4, 2) := by decide +kernel
theorem dL_law_1999 : decode cL_law 1999 = .ok (.iconst 3, 1) := by decide +kernel
theorem dL_law_2000 : decode cL_law 2000 = .ok (.iadd, 1) := by decide +kernel
theorem dL_law_2001 : decode cL_law 2001 = .ok (.iaload, 1) := by decide +kernel
theorem dL_law_2002 : decode cL_law 2002 = .ok (.invokevirtual 199, 3) := by decide +kernel
set_option maxRecDepth 100000 in
theorem q2399 : Cond.code yX12_fault cX12_fault 6 (some FieldType.int) ∈ GT := gt 2399 (rfl) (by decide +kernel)
theorem M_X12_fault : MY yX12_fault cX12_fault 6 (some FieldType.int) 3 := ⟨q2399, q135, by decide +kernel, by decide +kernel⟩
theorem q2396 : Cond.methodLink RL 199 yX12_fault ∈ GT := gt 2396 (by decide +kernel) (by decide +kernel)
theorem q2397 : Cond.instanceMethod yX12_fault ∈ GT := gt 2397 (by decide +kernel) (by decide +kernel)
theorem q2398 : Cond.selects RX12 yX12_fault yX12_fault ∈ GT := gt 2398 (by decide +kernel) (by decide +kernel)
theorem dL_law_2005 : decode cL_law 2005 = .ok (.istore 6, 2) := by decide +kernel
theorem dL_law_2007 : decode cL_law 2007 = .ok (.aload_n 2, 1) := by decide +kernel
theorem dL_law_2008 : decode cL_law 2008 = .ok (.invokevirtual 112, 3) := by decide +kernel
theorem dL_law_2011 : decode cL_law 2011 = .ok (.iload 5, 2) := by decide +kernel
theorem dL_law_2013 : decode cL_law 2013 = .ok (.if_icmp .eq 5, 3) := by decide +kernel
theorem dL_law_2018 : decode cL_law 2018 = .ok (.iload 5, 2) := by decide +kernel
theorem dL_law_2020 : decode cL_law 2020 = .ok (.ifCond .ne 15, 3) := by decide +kernel
theorem dL_law_2035 : decode cL_law 2035 = .ok (.goto 3, 3) := by decide +kernel
theorem dL_law_918 : decode cL_law 918 = .ok (.aload_n 1, 1) := by decide +kernel
theorem dL_law_919 : decode cL_law 919 = .ok (.aload_n 0, 1) := by decide +kernel
theorem dL_law_920 : decode cL_law 920 = .ok (.iload 4, 2) := by decide +kernel
theorem dL_law_922 : decode cL_law 922 = .ok (.iconst 1, 1) := by decide +kernel
theorem dL_law_923 : decode cL_law 923 = .ok (.iadd, 1) := by decide +kernel
theorem dL_law_924 : decode cL_law 924 = .ok (.iaload, 1) := by decide +kernel
theorem dL_law_925 : decode cL_law 925 = .ok (.aload_n 0, 1) := by decide +kernel
theorem dL_law_926 : decode cL_law 926 = .ok (.iload 4, 2) := by decide +kernel
theorem dL_law_928 : decode cL_law 928 = .ok (.iconst 2, 1) := by decide +kernel
theorem dL_law_929 : decode cL_law 929 = .ok (.iadd, 1) := by decide +kernel
theorem dL_law_930 : decode cL_law 930 = .ok (.iaload, 1) := by decide +kernel
theorem dL_law_931 : decode cL_law 931 = .ok (.aload_n 3, 1) := by decide +kernel
theorem dL_law_932 : decode cL_law 932 = .ok (.invokestatic 148, 3) := by decide +kernel
set_option maxRecDepth 100000 in
theorem q1464 : Cond.codeWith yL_answer cL_answer 5 (some FieldType.int) [(0, 10, 13, 20)] ∈ GT := gt 1464 (rfl) (by decide +kernel)
theorem M_L_answer : MYW yL_answer cL_answer 5 (some FieldType.int) [(0, 10, 13, 20)] 4 := ⟨q1464, q122, by decide +kernel, by decide +kernel⟩
theorem q1462 : Cond.methodLink RL 148 yL_answer ∈ GT := gt 1462 (by decide +kernel) (by decide +kernel)
theorem q1463 : Cond.static yL_answer ∈ GT := gt 1463 (by decide +kernel) (by decide +kernel)
theorem dL_law_935 : decode cL_law 935 = .ok (.istore 5, 2) := by decide +kernel
theorem dL_law_937 : decode cL_law 937 = .ok (.aload_n 2, 1) := by decide +kernel
theorem dL_law_938 : decode cL_law 938 = .ok (.aload_n 0, 1) := by decide +kernel
theorem dL_law_939 : decode cL_law 939 = .ok (.iload 4, 2) := by decide +kernel
theorem dL_law_941 : decode cL_law 941 = .ok (.iconst 1, 1) := by decide +kernel
theorem dL_law_942 : decode cL_law 942 = .ok (.iadd, 1) := by decide +kernel
theorem dL_law_943 : decode cL_law 943 = .ok (.iaload, 1) := by decide +kernel
theorem dL_law_944 : decode cL_law 944 = .ok (.aload_n 0, 1) := by decide +kernel
theorem dL_law_945 : decode cL_law 945 = .ok (.iload 4, 2) := by decide +kernel
theorem dL_law_947 : decode cL_law 947 = .ok (.iconst 2, 1) := by decide +kernel
theorem dL_law_948 : decode cL_law 948 = .ok (.iadd, 1) := by decide +kernel
theorem dL_law_949 : decode cL_law 949 = .ok (.iaload, 1) := by decide +kernel
theorem dL_law_950 : decode cL_law 950 = .ok (.invokevirtual 150, 3) := by decide +kernel
set_option maxRecDepth 100000 in
theorem q2154 : Cond.code yX12_answer cX12_answer 8 (some FieldType.int) ∈ GT := gt 2154 (rfl) (by decide +kernel)
theorem M_X12_answer : MY yX12_answer cX12_answer 8 (some FieldType.int) 2 := ⟨q2154, q135, by decide +kernel, by decide +kernel⟩
theorem q2151 : Cond.methodLink RL 150 yX12_answer ∈ GT := gt 2151 (by decide +kernel) (by decide +kernel)
theorem q2152 : Cond.instanceMethod yX12_answer ∈ GT := gt 2152 (by decide +kernel) (by decide +kernel)
theorem q2153 : Cond.selects RX12 yX12_answer yX12_answer ∈ GT := gt 2153 (by decide +kernel) (by decide +kernel)
theorem dL_law_953 : decode cL_law 953 = .ok (.istore 6, 2) := by decide +kernel
theorem dL_law_955 : decode cL_law 955 = .ok (.aload_n 2, 1) := by decide +kernel
theorem dL_law_956 : decode cL_law 956 = .ok (.invokevirtual 112, 3) := by decide +kernel
theorem dL_law_959 : decode cL_law 959 = .ok (.iload 5, 2) := by decide +kernel
theorem dL_law_961 : decode cL_law 961 = .ok (.if_icmp .eq 5, 3) := by decide +kernel
theorem dL_law_966 : decode cL_law 966 = .ok (.iload 5, 2) := by decide +kernel
theorem dL_law_968 : decode cL_law 968 = .ok (.ifCond .ne 15, 3) := by decide +kernel
theorem dL_law_983 : decode cL_law 983 = .ok (.goto 1055, 3) := by decide +kernel
theorem dL_law_1054 : decode cL_law 1054 = .ok (.aload_n 1, 1) := by decide +kernel
theorem dL_law_1055 : decode cL_law 1055 = .ok (.aload_n 0, 1) := by decide +kernel
theorem dL_law_1056 : decode cL_law 1056 = .ok (.iload 4, 2) := by decide +kernel
theorem dL_law_1058 : decode cL_law 1058 = .ok (.iconst 1, 1) := by decide +kernel
theorem dL_law_1059 : decode cL_law 1059 = .ok (.iadd, 1) := by decide +kernel
theorem dL_law_1060 : decode cL_law 1060 = .ok (.iaload, 1) := by decide +kernel
theorem dL_law_1061 : decode cL_law 1061 = .ok (.aload_n 3, 1) := by decide +kernel
theorem dL_law_1062 : decode cL_law 1062 = .ok (.invokestatic 154, 3) := by decide +kernel
set_option maxRecDepth 100000 in
theorem q1569 : Cond.codeWith yL_crash cL_crash 4 (some FieldType.int) [(0, 9, 12, 20), (0, 9, 15, 15)] ∈ GT := gt 1569 (rfl) (by decide +kernel)
theorem M_L_crash : MYW yL_crash cL_crash 4 (some FieldType.int) [(0, 9, 12, 20), (0, 9, 15, 15)] 3 := ⟨q1569, q122, by decide +kernel, by decide +kernel⟩
theorem q1567 : Cond.methodLink RL 154 yL_crash ∈ GT := gt 1567 (by decide +kernel) (by decide +kernel)
theorem q1568 : Cond.static yL_crash ∈ GT := gt 1568 (by decide +kernel) (by decide +kernel)
theorem dL_law_1065 : decode cL_law 1065 = .ok (.istore 5, 2) := by decide +kernel
theorem dL_law_1067 : decode cL_law 1067 = .ok (.aload_n 2, 1) := by decide +kernel
theorem dL_law_1068 : decode cL_law 1068 = .ok (.aload_n 0, 1) := by decide +kernel
theorem dL_law_1069 : decode cL_law 1069 = .ok (.iload 4, 2) := by decide +kernel
theorem dL_law_1071 : decode cL_law 1071 = .ok (.iconst 1, 1) := by decide +kernel
theorem dL_law_1072 : decode cL_law 1072 = .ok (.iadd, 1) := by decide +kernel
theorem dL_law_1073 : decode cL_law 1073 = .ok (.iaload, 1) := by decide +kernel
theorem dL_law_1074 : decode cL_law 1074 = .ok (.invokevirtual 156, 3) := by decide +kernel
set_option maxRecDepth 100000 in
theorem q2217 : Cond.code yX12_crash cX12_crash 8 (some FieldType.int) ∈ GT := gt 2217 (rfl) (by decide +kernel)
theorem M_X12_crash : MY yX12_crash cX12_crash 8 (some FieldType.int) 1 := ⟨q2217, q135, by decide +kernel, by decide +kernel⟩
theorem q2214 : Cond.methodLink RL 156 yX12_crash ∈ GT := gt 2214 (by decide +kernel) (by decide +kernel)
theorem q2215 : Cond.instanceMethod yX12_crash ∈ GT := gt 2215 (by decide +kernel) (by decide +kernel)
theorem q2216 : Cond.selects RX12 yX12_crash yX12_crash ∈ GT := gt 2216 (by decide +kernel) (by decide +kernel)
theorem dL_law_1077 : decode cL_law 1077 = .ok (.istore 6, 2) := by decide +kernel
theorem dL_law_1079 : decode cL_law 1079 = .ok (.aload_n 2, 1) := by decide +kernel
theorem dL_law_1080 : decode cL_law 1080 = .ok (.invokevirtual 112, 3) := by decide +kernel
theorem dL_law_1083 : decode cL_law 1083 = .ok (.iload 5, 2) := by decide +kernel
theorem dL_law_1085 : decode cL_law 1085 = .ok (.if_icmp .eq 5, 3) := by decide +kernel
theorem dL_law_1090 : decode cL_law 1090 = .ok (.iload 5, 2) := by decide +kernel
theorem dL_law_1092 : decode cL_law 1092 = .ok (.ifCond .ne 15, 3) := by decide +kernel
theorem dL_law_1107 : decode cL_law 1107 = .ok (.goto 931, 3) := by decide +kernel
theorem dL_law_1110 : decode cL_law 1110 = .ok (.aload_n 1, 1) := by decide +kernel
theorem dL_law_1111 : decode cL_law 1111 = .ok (.aload_n 0, 1) := by decide +kernel
theorem dL_law_1112 : decode cL_law 1112 = .ok (.iload 4, 2) := by decide +kernel
theorem dL_law_1114 : decode cL_law 1114 = .ok (.iconst 1, 1) := by decide +kernel
theorem dL_law_1115 : decode cL_law 1115 = .ok (.iadd, 1) := by decide +kernel
theorem dL_law_1116 : decode cL_law 1116 = .ok (.iaload, 1) := by decide +kernel
theorem dL_law_1117 : decode cL_law 1117 = .ok (.aload_n 3, 1) := by decide +kernel
theorem dL_law_1118 : decode cL_law 1118 = .ok (.invokestatic 157, 3) := by decide +kernel
set_option maxRecDepth 100000 in
theorem q1599 : Cond.codeWith yL_start cL_start 4 (some FieldType.int) [(0, 9, 12, 20), (0, 9, 15, 15)] ∈ GT := gt 1599 (rfl) (by decide +kernel)
theorem M_L_start : MYW yL_start cL_start 4 (some FieldType.int) [(0, 9, 12, 20), (0, 9, 15, 15)] 3 := ⟨q1599, q122, by decide +kernel, by decide +kernel⟩
theorem q1597 : Cond.methodLink RL 157 yL_start ∈ GT := gt 1597 (by decide +kernel) (by decide +kernel)
theorem q1598 : Cond.static yL_start ∈ GT := gt 1598 (by decide +kernel) (by decide +kernel)
theorem dL_law_1121 : decode cL_law 1121 = .ok (.istore 5, 2) := by decide +kernel
theorem dL_law_1123 : decode cL_law 1123 = .ok (.aload_n 2, 1) := by decide +kernel
theorem dL_law_1124 : decode cL_law 1124 = .ok (.aload_n 0, 1) := by decide +kernel
theorem dL_law_1125 : decode cL_law 1125 = .ok (.iload 4, 2) := by decide +kernel
theorem dL_law_1127 : decode cL_law 1127 = .ok (.iconst 1, 1) := by decide +kernel
theorem dL_law_1128 : decode cL_law 1128 = .ok (.iadd, 1) := by decide +kernel
theorem dL_law_1129 : decode cL_law 1129 = .ok (.iaload, 1) := by decide +kernel
theorem dL_law_1130 : decode cL_law 1130 = .ok (.invokevirtual 159, 3) := by decide +kernel
set_option maxRecDepth 100000 in
theorem q2281 : Cond.code yX12_start cX12_start 5 (some FieldType.int) ∈ GT := gt 2281 (rfl) (by decide +kernel)
theorem M_X12_start : MY yX12_start cX12_start 5 (some FieldType.int) 1 := ⟨q2281, q135, by decide +kernel, by decide +kernel⟩
theorem q2278 : Cond.methodLink RL 159 yX12_start ∈ GT := gt 2278 (by decide +kernel) (by decide +kernel)
theorem q2279 : Cond.instanceMethod yX12_start ∈ GT := gt 2279 (by decide +kernel) (by decide +kernel)
theorem q2280 : Cond.selects RX12 yX12_start yX12_start ∈ GT := gt 2280 (by decide +kernel) (by decide +kernel)
theorem dL_law_1133 : decode cL_law 1133 = .ok (.istore 6, 2) := by decide +kernel
theorem dL_law_1135 : decode cL_law 1135 = .ok (.aload_n 2, 1) := by decide +kernel
theorem dL_law_1136 : decode cL_law 1136 = .ok (.invokevirtual 112, 3) := by decide +kernel
theorem dL_law_1139 : decode cL_law 1139 = .ok (.iload 5, 2) := by decide +kernel
theorem dL_law_1141 : decode cL_law 1141 = .ok (.if_icmp .eq 5, 3) := by decide +kernel
theorem dL_law_1146 : decode cL_law 1146 = .ok (.iload 5, 2) := by decide +kernel
theorem dL_law_1148 : decode cL_law 1148 = .ok (.ifCond .ne 15, 3) := by decide +kernel
theorem dL_law_1163 : decode cL_law 1163 = .ok (.goto 875, 3) := by decide +kernel
theorem dL_law_986 : decode cL_law 986 = .ok (.aload_n 1, 1) := by decide +kernel
theorem dL_law_987 : decode cL_law 987 = .ok (.aload_n 0, 1) := by decide +kernel
theorem dL_law_988 : decode cL_law 988 = .ok (.iload 4, 2) := by decide +kernel
theorem dL_law_990 : decode cL_law 990 = .ok (.iconst 1, 1) := by decide +kernel
theorem dL_law_991 : decode cL_law 991 = .ok (.iadd, 1) := by decide +kernel
theorem dL_law_992 : decode cL_law 992 = .ok (.iaload, 1) := by decide +kernel
theorem dL_law_993 : decode cL_law 993 = .ok (.aload_n 0, 1) := by decide +kernel
theorem dL_law_994 : decode cL_law 994 = .ok (.iload 4, 2) := by decide +kernel
theorem dL_law_996 : decode cL_law 996 = .ok (.iconst 2, 1) := by decide +kernel
theorem dL_law_997 : decode cL_law 997 = .ok (.iadd, 1) := by decide +kernel
theorem dL_law_998 : decode cL_law 998 = .ok (.iaload, 1) := by decide +kernel
theorem dL_law_999 : decode cL_law 999 = .ok (.aload_n 3, 1) := by decide +kernel
theorem dL_law_1000 : decode cL_law 1000 = .ok (.invokestatic 151, 3) := by decide +kernel
set_option maxRecDepth 100000 in
theorem q1556 : Cond.codeWith yL_tellFaults cL_tellFaults 5 (some FieldType.int) [(0, 10, 13, 20), (0, 10, 17, 15)] ∈ GT := gt 1556 (rfl) (by decide +kernel)
theorem M_L_tellFaults : MYW yL_tellFaults cL_tellFaults 5 (some FieldType.int) [(0, 10, 13, 20), (0, 10, 17, 15)] 4 := ⟨q1556, q122, by decide +kernel, by decide +kernel⟩
theorem q1554 : Cond.methodLink RL 151 yL_tellFaults ∈ GT := gt 1554 (by decide +kernel) (by decide +kernel)
theorem q1555 : Cond.static yL_tellFaults ∈ GT := gt 1555 (by decide +kernel) (by decide +kernel)
theorem dL_law_1003 : decode cL_law 1003 = .ok (.istore 5, 2) := by decide +kernel
theorem dL_law_1005 : decode cL_law 1005 = .ok (.aload_n 2, 1) := by decide +kernel
theorem dL_law_1006 : decode cL_law 1006 = .ok (.aload_n 0, 1) := by decide +kernel
theorem dL_law_1007 : decode cL_law 1007 = .ok (.iload 4, 2) := by decide +kernel
theorem dL_law_1009 : decode cL_law 1009 = .ok (.iconst 1, 1) := by decide +kernel
theorem dL_law_1010 : decode cL_law 1010 = .ok (.iadd, 1) := by decide +kernel
theorem dL_law_1011 : decode cL_law 1011 = .ok (.iaload, 1) := by decide +kernel
theorem dL_law_1012 : decode cL_law 1012 = .ok (.aload_n 0, 1) := by decide +kernel
theorem dL_law_1013 : decode cL_law 1013 = .ok (.iload 4, 2) := by decide +kernel
theorem dL_law_1015 : decode cL_law 1015 = .ok (.iconst 2, 1) := by decide +kernel
theorem dL_law_1016 : decode cL_law 1016 = .ok (.iadd, 1) := by decide +kernel
theorem dL_law_1017 : decode cL_law 1017 = .ok (.iaload, 1) := by decide +kernel
theorem dL_law_1018 : decode cL_law 1018 = .ok (.invokevirtual 153, 3) := by decide +kernel
set_option maxRecDepth 100000 in
theorem q2213 : Cond.code yX12_tellFaults cX12_tellFaults 7 (some FieldType.int) ∈ GT := gt 2213 (rfl) (by decide +kernel)
theorem M_X12_tellFaults : MY yX12_tellFaults cX12_tellFaults 7 (some FieldType.int) 2 := ⟨q2213, q135, by decide +kernel, by decide +kernel⟩
theorem q2210 : Cond.methodLink RL 153 yX12_tellFaults ∈ GT := gt 2210 (by decide +kernel) (by decide +kernel)
theorem q2211 : Cond.instanceMethod yX12_tellFaults ∈ GT := gt 2211 (by decide +kernel) (by decide +kernel)
theorem q2212 : Cond.selects RX12 yX12_tellFaults yX12_tellFaults ∈ GT := gt 2212 (by decide +kernel) (by decide +kernel)
theorem dL_law_1021 : decode cL_law 1021 = .ok (.istore 6, 2) := by decide +kernel
theorem dL_law_1023 : decode cL_law 1023 = .ok (.aload_n 2, 1) := by decide +kernel
theorem dL_law_1024 : decode cL_law 1024 = .ok (.invokevirtual 112, 3) := by decide +kernel
theorem dL_law_1027 : decode cL_law 1027 = .ok (.iload 5, 2) := by decide +kernel
theorem dL_law_1029 : decode cL_law 1029 = .ok (.if_icmp .eq 5, 3) := by decide +kernel
theorem dL_law_1034 : decode cL_law 1034 = .ok (.iload 5, 2) := by decide +kernel
theorem dL_law_1036 : decode cL_law 1036 = .ok (.ifCond .ne 15, 3) := by decide +kernel
theorem dL_law_1051 : decode cL_law 1051 = .ok (.goto 987, 3) := by decide +kernel
theorem dL_law_1291 : decode cL_law 1291 = .ok (.aload_n 1, 1) := by decide +kernel
theorem dL_law_1292 : decode cL_law 1292 = .ok (.aload_n 0, 1) := by decide +kernel
theorem dL_law_1293 : decode cL_law 1293 = .ok (.iload 4, 2) := by decide +kernel
theorem dL_law_1295 : decode cL_law 1295 = .ok (.iconst 1, 1) := by decide +kernel
theorem dL_law_1296 : decode cL_law 1296 = .ok (.iadd, 1) := by decide +kernel
theorem dL_law_1297 : decode cL_law 1297 = .ok (.iaload, 1) := by decide +kernel
theorem dL_law_1298 : decode cL_law 1298 = .ok (.aload_n 0, 1) := by decide +kernel
theorem dL_law_1299 : decode cL_law 1299 = .ok (.iload 4, 2) := by decide +kernel
theorem dL_law_1301 : decode cL_law 1301 = .ok (.iconst 2, 1) := by decide +kernel
theorem dL_law_1302 : decode cL_law 1302 = .ok (.iadd, 1) := by decide +kernel
theorem dL_law_1303 : decode cL_law 1303 = .ok (.iaload, 1) := by decide +kernel
theorem dL_law_1304 : decode cL_law 1304 = .ok (.aload_n 3, 1) := by decide +kernel
theorem dL_law_1305 : decode cL_law 1305 = .ok (.invokestatic 170, 3) := by decide +kernel
set_option maxRecDepth 100000 in
theorem q1638 : Cond.codeWith yL_version cL_version 5 (some FieldType.int) [(0, 10, 13, 20)] ∈ GT := gt 1638 (rfl) (by decide +kernel)
theorem M_L_version : MYW yL_version cL_version 5 (some FieldType.int) [(0, 10, 13, 20)] 4 := ⟨q1638, q122, by decide +kernel, by decide +kernel⟩
theorem q1636 : Cond.methodLink RL 170 yL_version ∈ GT := gt 1636 (by decide +kernel) (by decide +kernel)
theorem q1637 : Cond.static yL_version ∈ GT := gt 1637 (by decide +kernel) (by decide +kernel)
theorem dL_law_1308 : decode cL_law 1308 = .ok (.istore 5, 2) := by decide +kernel
theorem dL_law_1310 : decode cL_law 1310 = .ok (.aload_n 2, 1) := by decide +kernel
theorem dL_law_1311 : decode cL_law 1311 = .ok (.aload_n 0, 1) := by decide +kernel
theorem dL_law_1312 : decode cL_law 1312 = .ok (.iload 4, 2) := by decide +kernel
theorem dL_law_1314 : decode cL_law 1314 = .ok (.iconst 1, 1) := by decide +kernel
theorem dL_law_1315 : decode cL_law 1315 = .ok (.iadd, 1) := by decide +kernel
theorem dL_law_1316 : decode cL_law 1316 = .ok (.iaload, 1) := by decide +kernel
theorem dL_law_1317 : decode cL_law 1317 = .ok (.aload_n 0, 1) := by decide +kernel
theorem dL_law_1318 : decode cL_law 1318 = .ok (.iload 4, 2) := by decide +kernel
theorem dL_law_1320 : decode cL_law 1320 = .ok (.iconst 2, 1) := by decide +kernel
theorem dL_law_1321 : decode cL_law 1321 = .ok (.iadd, 1) := by decide +kernel
theorem dL_law_1322 : decode cL_law 1322 = .ok (.iaload, 1) := by decide +kernel
theorem dL_law_1323 : decode cL_law 1323 = .ok (.invokevirtual 172, 3) := by decide +kernel
set_option maxRecDepth 100000 in
theorem q2345 : Cond.code yX12_version cX12_version 3 (some FieldType.int) ∈ GT := gt 2345 (rfl) (by decide +kernel)
theorem M_X12_version : MY yX12_version cX12_version 3 (some FieldType.int) 2 := ⟨q2345, q135, by decide +kernel, by decide +kernel⟩
theorem q2342 : Cond.methodLink RL 172 yX12_version ∈ GT := gt 2342 (by decide +kernel) (by decide +kernel)
theorem q2343 : Cond.instanceMethod yX12_version ∈ GT := gt 2343 (by decide +kernel) (by decide +kernel)
theorem q2344 : Cond.selects RX12 yX12_version yX12_version ∈ GT := gt 2344 (by decide +kernel) (by decide +kernel)
theorem dL_law_1326 : decode cL_law 1326 = .ok (.istore 6, 2) := by decide +kernel
theorem dL_law_1328 : decode cL_law 1328 = .ok (.aload_n 2, 1) := by decide +kernel
theorem dL_law_1329 : decode cL_law 1329 = .ok (.invokevirtual 112, 3) := by decide +kernel
theorem dL_law_1332 : decode cL_law 1332 = .ok (.iload 5, 2) := by decide +kernel
theorem dL_law_1334 : decode cL_law 1334 = .ok (.if_icmp .eq 5, 3) := by decide +kernel
theorem dL_law_1339 : decode cL_law 1339 = .ok (.iload 5, 2) := by decide +kernel
theorem dL_law_1341 : decode cL_law 1341 = .ok (.ifCond .ne 15, 3) := by decide +kernel
theorem dL_law_1356 : decode cL_law 1356 = .ok (.goto 682, 3) := by decide +kernel
theorem dL_law_1359 : decode cL_law 1359 = .ok (.aload_n 1, 1) := by decide +kernel
theorem dL_law_1360 : decode cL_law 1360 = .ok (.aload_n 0, 1) := by decide +kernel
theorem dL_law_1361 : decode cL_law 1361 = .ok (.iload 4, 2) := by decide +kernel
theorem dL_law_1363 : decode cL_law 1363 = .ok (.iconst 1, 1) := by decide +kernel
theorem dL_law_1364 : decode cL_law 1364 = .ok (.iadd, 1) := by decide +kernel
theorem dL_law_1365 : decode cL_law 1365 = .ok (.iaload, 1) := by decide +kernel
theorem dL_law_1366 : decode cL_law 1366 = .ok (.aload_n 0, 1) := by decide +kernel
theorem dL_law_1367 : decode cL_law 1367 = .ok (.iload 4, 2) := by decide +kernel
theorem dL_law_1369 : decode cL_law 1369 = .ok (.iconst 2, 1) := by decide +kernel
theorem dL_law_1370 : decode cL_law 1370 = .ok (.iadd, 1) := by decide +kernel
theorem dL_law_1371 : decode cL_law 1371 = .ok (.iaload, 1) := by decide +kernel
theorem dL_law_1372 : decode cL_law 1372 = .ok (.aload_n 0, 1) := by decide +kernel
theorem dL_law_1373 : decode cL_law 1373 = .ok (.iload 4, 2) := by decide +kernel
theorem dL_law_1375 : decode cL_law 1375 = .ok (.iconst 3, 1) := by decide +kernel
theorem dL_law_1376 : decode cL_law 1376 = .ok (.iadd, 1) := by decide +kernel
theorem dL_law_1377 : decode cL_law 1377 = .ok (.iaload, 1) := by decide +kernel
theorem dL_law_1378 : decode cL_law 1378 = .ok (.aload_n 3, 1) := by decide +kernel
theorem dL_law_1379 : decode cL_law 1379 = .ok (.invokestatic 173, 3) := by decide +kernel
set_option maxRecDepth 100000 in
theorem q1650 : Cond.codeWith yL_unit cL_unit 6 (some FieldType.int) [(0, 12, 15, 20)] ∈ GT := gt 1650 (rfl) (by decide +kernel)
theorem M_L_unit : MYW yL_unit cL_unit 6 (some FieldType.int) [(0, 12, 15, 20)] 5 := ⟨q1650, q122, by decide +kernel, by decide +kernel⟩
theorem q1648 : Cond.methodLink RL 173 yL_unit ∈ GT := gt 1648 (by decide +kernel) (by decide +kernel)
theorem q1649 : Cond.static yL_unit ∈ GT := gt 1649 (by decide +kernel) (by decide +kernel)
theorem dL_law_1382 : decode cL_law 1382 = .ok (.istore 5, 2) := by decide +kernel
theorem dL_law_1384 : decode cL_law 1384 = .ok (.aload_n 2, 1) := by decide +kernel
theorem dL_law_1385 : decode cL_law 1385 = .ok (.aload_n 0, 1) := by decide +kernel
theorem dL_law_1386 : decode cL_law 1386 = .ok (.iload 4, 2) := by decide +kernel
theorem dL_law_1388 : decode cL_law 1388 = .ok (.iconst 1, 1) := by decide +kernel
theorem dL_law_1389 : decode cL_law 1389 = .ok (.iadd, 1) := by decide +kernel
theorem dL_law_1390 : decode cL_law 1390 = .ok (.iaload, 1) := by decide +kernel
theorem dL_law_1391 : decode cL_law 1391 = .ok (.aload_n 0, 1) := by decide +kernel
theorem dL_law_1392 : decode cL_law 1392 = .ok (.iload 4, 2) := by decide +kernel
theorem dL_law_1394 : decode cL_law 1394 = .ok (.iconst 2, 1) := by decide +kernel
theorem dL_law_1395 : decode cL_law 1395 = .ok (.iadd, 1) := by decide +kernel
theorem dL_law_1396 : decode cL_law 1396 = .ok (.iaload, 1) := by decide +kernel
theorem dL_law_1397 : decode cL_law 1397 = .ok (.aload_n 0, 1) := by decide +kernel
theorem dL_law_1398 : decode cL_law 1398 = .ok (.iload 4, 2) := by decide +kernel
theorem dL_law_1400 : decode cL_law 1400 = .ok (.iconst 3, 1) := by decide +kernel
theorem dL_law_1401 : decode cL_law 1401 = .ok (.iadd, 1) := by decide +kernel
theorem dL_law_1402 : decode cL_law 1402 = .ok (.iaload, 1) := by decide +kernel
theorem dL_law_1403 : decode cL_law 1403 = .ok (.invokevirtual 175, 3) := by decide +kernel
set_option maxRecDepth 100000 in
theorem q2357 : Cond.code yX12_unit cX12_unit 6 (some FieldType.char) ∈ GT := gt 2357 (rfl) (by decide +kernel)
theorem M_X12_unit : MY yX12_unit cX12_unit 6 (some FieldType.char) 3 := ⟨q2357, q135, by decide +kernel, by decide +kernel⟩
theorem q2354 : Cond.methodLink RL 175 yX12_unit ∈ GT := gt 2354 (by decide +kernel) (by decide +kernel)
theorem q2355 : Cond.instanceMethod yX12_unit ∈ GT := gt 2355 (by decide +kernel) (by decide +kernel)
theorem q2356 : Cond.selects RX12 yX12_unit yX12_unit ∈ GT := gt 2356 (by decide +kernel) (by decide +kernel)
theorem dL_law_1406 : decode cL_law 1406 = .ok (.istore 6, 2) := by decide +kernel
theorem dL_law_1408 : decode cL_law 1408 = .ok (.aload_n 2, 1) := by decide +kernel
theorem dL_law_1409 : decode cL_law 1409 = .ok (.invokevirtual 112, 3) := by decide +kernel
theorem dL_law_1412 : decode cL_law 1412 = .ok (.iload 5, 2) := by decide +kernel
theorem dL_law_1414 : decode cL_law 1414 = .ok (.if_icmp .eq 5, 3) := by decide +kernel
theorem dL_law_1419 : decode cL_law 1419 = .ok (.iload 5, 2) := by decide +kernel
theorem dL_law_1421 : decode cL_law 1421 = .ok (.ifCond .ne 15, 3) := by decide +kernel
theorem dL_law_1436 : decode cL_law 1436 = .ok (.goto 602, 3) := by decide +kernel
theorem dL_law_802 : decode cL_law 802 = .ok (.aload_n 1, 1) := by decide +kernel
theorem dL_law_803 : decode cL_law 803 = .ok (.aload_n 0, 1) := by decide +kernel
theorem dL_law_804 : decode cL_law 804 = .ok (.iload 4, 2) := by decide +kernel
theorem dL_law_806 : decode cL_law 806 = .ok (.iconst 1, 1) := by decide +kernel
theorem dL_law_807 : decode cL_law 807 = .ok (.iadd, 1) := by decide +kernel
theorem dL_law_808 : decode cL_law 808 = .ok (.iaload, 1) := by decide +kernel
theorem dL_law_809 : decode cL_law 809 = .ok (.aload_n 0, 1) := by decide +kernel
theorem dL_law_810 : decode cL_law 810 = .ok (.iload 4, 2) := by decide +kernel
theorem dL_law_812 : decode cL_law 812 = .ok (.iconst 2, 1) := by decide +kernel
theorem dL_law_813 : decode cL_law 813 = .ok (.iadd, 1) := by decide +kernel
theorem dL_law_814 : decode cL_law 814 = .ok (.iaload, 1) := by decide +kernel
theorem dL_law_815 : decode cL_law 815 = .ok (.invokestatic 142, 3) := by decide +kernel
set_option maxRecDepth 100000 in
theorem q1396 : Cond.codeWith yL_cancel cL_cancel 4 (some FieldType.int) [(0, 6, 9, 20), (0, 6, 12, 15)] ∈ GT := gt 1396 (rfl) (by decide +kernel)
theorem M_L_cancel : MYW yL_cancel cL_cancel 4 (some FieldType.int) [(0, 6, 9, 20), (0, 6, 12, 15)] 3 := ⟨q1396, q122, by decide +kernel, by decide +kernel⟩
theorem q1394 : Cond.methodLink RL 142 yL_cancel ∈ GT := gt 1394 (by decide +kernel) (by decide +kernel)
theorem q1395 : Cond.static yL_cancel ∈ GT := gt 1395 (by decide +kernel) (by decide +kernel)
theorem dL_law_818 : decode cL_law 818 = .ok (.istore 5, 2) := by decide +kernel
theorem dL_law_820 : decode cL_law 820 = .ok (.aload_n 2, 1) := by decide +kernel
theorem dL_law_821 : decode cL_law 821 = .ok (.aload_n 0, 1) := by decide +kernel
theorem dL_law_822 : decode cL_law 822 = .ok (.iload 4, 2) := by decide +kernel
theorem dL_law_824 : decode cL_law 824 = .ok (.iconst 1, 1) := by decide +kernel
theorem dL_law_825 : decode cL_law 825 = .ok (.iadd, 1) := by decide +kernel
theorem dL_law_826 : decode cL_law 826 = .ok (.iaload, 1) := by decide +kernel
theorem dL_law_827 : decode cL_law 827 = .ok (.aload_n 0, 1) := by decide +kernel
theorem dL_law_828 : decode cL_law 828 = .ok (.iload 4, 2) := by decide +kernel
theorem dL_law_830 : decode cL_law 830 = .ok (.iconst 2, 1) := by decide +kernel
theorem dL_law_831 : decode cL_law 831 = .ok (.iadd, 1) := by decide +kernel
theorem dL_law_832 : decode cL_law 832 = .ok (.iaload, 1) := by decide +kernel
theorem dL_law_833 : decode cL_law 833 = .ok (.invokevirtual 144, 3) := by decide +kernel
set_option maxRecDepth 100000 in
theorem q2114 : Cond.code yX12_cancel cX12_cancel 5 none ∈ GT := gt 2114 (rfl) (by decide +kernel)
theorem M_X12_cancel : MY yX12_cancel cX12_cancel 5 none 2 := ⟨q2114, q135, by decide +kernel, by decide +kernel⟩
theorem q2111 : Cond.methodLink RL 144 yX12_cancel ∈ GT := gt 2111 (by decide +kernel) (by decide +kernel)
theorem q2112 : Cond.instanceMethod yX12_cancel ∈ GT := gt 2112 (by decide +kernel) (by decide +kernel)
theorem q2113 : Cond.selects RX12 yX12_cancel yX12_cancel ∈ GT := gt 2113 (by decide +kernel) (by decide +kernel)
theorem dL_law_836 : decode cL_law 836 = .ok (.aload_n 2, 1) := by decide +kernel
theorem dL_law_837 : decode cL_law 837 = .ok (.invokevirtual 112, 3) := by decide +kernel
theorem dL_law_840 : decode cL_law 840 = .ok (.iload 5, 2) := by decide +kernel
theorem dL_law_842 : decode cL_law 842 = .ok (.if_icmp .eq 5, 3) := by decide +kernel
theorem dL_law_847 : decode cL_law 847 = .ok (.goto 1191, 3) := by decide +kernel
theorem dL_law_850 : decode cL_law 850 = .ok (.aload_n 1, 1) := by decide +kernel
theorem dL_law_851 : decode cL_law 851 = .ok (.aload_n 0, 1) := by decide +kernel
theorem dL_law_852 : decode cL_law 852 = .ok (.iload 4, 2) := by decide +kernel
theorem dL_law_854 : decode cL_law 854 = .ok (.iconst 1, 1) := by decide +kernel
theorem dL_law_855 : decode cL_law 855 = .ok (.iadd, 1) := by decide +kernel
theorem dL_law_856 : decode cL_law 856 = .ok (.iaload, 1) := by decide +kernel
theorem dL_law_857 : decode cL_law 857 = .ok (.aload_n 0, 1) := by decide +kernel
theorem dL_law_858 : decode cL_law 858 = .ok (.iload 4, 2) := by decide +kernel
theorem dL_law_860 : decode cL_law 860 = .ok (.iconst 2, 1) := by decide +kernel
theorem dL_law_861 : decode cL_law 861 = .ok (.iadd, 1) := by decide +kernel
theorem dL_law_862 : decode cL_law 862 = .ok (.iaload, 1) := by decide +kernel
theorem dL_law_863 : decode cL_law 863 = .ok (.aload_n 3, 1) := by decide +kernel
theorem dL_law_864 : decode cL_law 864 = .ok (.invokestatic 145, 3) := by decide +kernel
set_option maxRecDepth 100000 in
theorem q1414 : Cond.codeWith yL_apply cL_apply 5 (some FieldType.int) [(0, 10, 13, 20), (0, 10, 17, 15)] ∈ GT := gt 1414 (rfl) (by decide +kernel)
theorem M_L_apply : MYW yL_apply cL_apply 5 (some FieldType.int) [(0, 10, 13, 20), (0, 10, 17, 15)] 4 := ⟨q1414, q122, by decide +kernel, by decide +kernel⟩
theorem q1412 : Cond.methodLink RL 145 yL_apply ∈ GT := gt 1412 (by decide +kernel) (by decide +kernel)
theorem q1413 : Cond.static yL_apply ∈ GT := gt 1413 (by decide +kernel) (by decide +kernel)
theorem dL_law_867 : decode cL_law 867 = .ok (.istore 5, 2) := by decide +kernel
theorem dL_law_869 : decode cL_law 869 = .ok (.aload_n 2, 1) := by decide +kernel
theorem dL_law_870 : decode cL_law 870 = .ok (.aload_n 0, 1) := by decide +kernel
theorem dL_law_871 : decode cL_law 871 = .ok (.iload 4, 2) := by decide +kernel
theorem dL_law_873 : decode cL_law 873 = .ok (.iconst 1, 1) := by decide +kernel
theorem dL_law_874 : decode cL_law 874 = .ok (.iadd, 1) := by decide +kernel
theorem dL_law_875 : decode cL_law 875 = .ok (.iaload, 1) := by decide +kernel
theorem dL_law_876 : decode cL_law 876 = .ok (.aload_n 0, 1) := by decide +kernel
theorem dL_law_877 : decode cL_law 877 = .ok (.iload 4, 2) := by decide +kernel
theorem dL_law_879 : decode cL_law 879 = .ok (.iconst 2, 1) := by decide +kernel
theorem dL_law_880 : decode cL_law 880 = .ok (.iadd, 1) := by decide +kernel
theorem dL_law_881 : decode cL_law 881 = .ok (.iaload, 1) := by decide +kernel
theorem dL_law_882 : decode cL_law 882 = .ok (.invokevirtual 147, 3) := by decide +kernel
set_option maxRecDepth 100000 in
theorem q2122 : Cond.code yX12_apply cX12_apply 10 (some FieldType.int) ∈ GT := gt 2122 (rfl) (by decide +kernel)
theorem M_X12_apply : MY yX12_apply cX12_apply 10 (some FieldType.int) 2 := ⟨q2122, q135, by decide +kernel, by decide +kernel⟩
theorem q2119 : Cond.methodLink RL 147 yX12_apply ∈ GT := gt 2119 (by decide +kernel) (by decide +kernel)
theorem q2120 : Cond.instanceMethod yX12_apply ∈ GT := gt 2120 (by decide +kernel) (by decide +kernel)
theorem q2121 : Cond.selects RX12 yX12_apply yX12_apply ∈ GT := gt 2121 (by decide +kernel) (by decide +kernel)
theorem dL_law_885 : decode cL_law 885 = .ok (.istore 6, 2) := by decide +kernel
theorem dL_law_887 : decode cL_law 887 = .ok (.aload_n 2, 1) := by decide +kernel
theorem dL_law_888 : decode cL_law 888 = .ok (.invokevirtual 112, 3) := by decide +kernel
theorem dL_law_891 : decode cL_law 891 = .ok (.iload 5, 2) := by decide +kernel
theorem dL_law_893 : decode cL_law 893 = .ok (.if_icmp .eq 5, 3) := by decide +kernel
theorem dL_law_898 : decode cL_law 898 = .ok (.iload 5, 2) := by decide +kernel
theorem dL_law_900 : decode cL_law 900 = .ok (.ifCond .ne 15, 3) := by decide +kernel
theorem dL_law_915 : decode cL_law 915 = .ok (.goto 1123, 3) := by decide +kernel
theorem dL_law_1502 : decode cL_law 1502 = .ok (.aload_n 1, 1) := by decide +kernel
theorem dL_law_1503 : decode cL_law 1503 = .ok (.aload_n 0, 1) := by decide +kernel
theorem dL_law_1504 : decode cL_law 1504 = .ok (.iload 4, 2) := by decide +kernel
theorem dL_law_1506 : decode cL_law 1506 = .ok (.iconst 1, 1) := by decide +kernel
theorem dL_law_1507 : decode cL_law 1507 = .ok (.iadd, 1) := by decide +kernel
theorem dL_law_1508 : decode cL_law 1508 = .ok (.iaload, 1) := by decide +kernel
theorem dL_law_1509 : decode cL_law 1509 = .ok (.aload_n 0, 1) := by decide +kernel
theorem dL_law_1510 : decode cL_law 1510 = .ok (.iload 4, 2) := by decide +kernel
theorem dL_law_1512 : decode cL_law 1512 = .ok (.iconst 2, 1) := by decide +kernel
theorem dL_law_1513 : decode cL_law 1513 = .ok (.iadd, 1) := by decide +kernel
theorem dL_law_1514 : decode cL_law 1514 = .ok (.iaload, 1) := by decide +kernel
theorem dL_law_1515 : decode cL_law 1515 = .ok (.aload_n 3, 1) := by decide +kernel
theorem dL_law_1516 : decode cL_law 1516 = .ok (.invokestatic 179, 3) := by decide +kernel
set_option maxRecDepth 100000 in
theorem q1675 : Cond.codeWith yL_standing cL_standing 5 (some FieldType.int) [(0, 10, 13, 20)] ∈ GT := gt 1675 (rfl) (by decide +kernel)
theorem M_L_standing : MYW yL_standing cL_standing 5 (some FieldType.int) [(0, 10, 13, 20)] 4 := ⟨q1675, q122, by decide +kernel, by decide +kernel⟩
theorem q1673 : Cond.methodLink RL 179 yL_standing ∈ GT := gt 1673 (by decide +kernel) (by decide +kernel)
theorem q1674 : Cond.static yL_standing ∈ GT := gt 1674 (by decide +kernel) (by decide +kernel)
theorem dL_law_1519 : decode cL_law 1519 = .ok (.istore 5, 2) := by decide +kernel
theorem dL_law_1521 : decode cL_law 1521 = .ok (.aload_n 2, 1) := by decide +kernel
theorem dL_law_1522 : decode cL_law 1522 = .ok (.aload_n 0, 1) := by decide +kernel
theorem dL_law_1523 : decode cL_law 1523 = .ok (.iload 4, 2) := by decide +kernel
theorem dL_law_1525 : decode cL_law 1525 = .ok (.iconst 1, 1) := by decide +kernel
theorem dL_law_1526 : decode cL_law 1526 = .ok (.iadd, 1) := by decide +kernel
theorem dL_law_1527 : decode cL_law 1527 = .ok (.iaload, 1) := by decide +kernel
theorem dL_law_1528 : decode cL_law 1528 = .ok (.aload_n 0, 1) := by decide +kernel
theorem dL_law_1529 : decode cL_law 1529 = .ok (.iload 4, 2) := by decide +kernel
theorem dL_law_1531 : decode cL_law 1531 = .ok (.iconst 2, 1) := by decide +kernel
theorem dL_law_1532 : decode cL_law 1532 = .ok (.iadd, 1) := by decide +kernel
theorem dL_law_1533 : decode cL_law 1533 = .ok (.iaload, 1) := by decide +kernel
theorem dL_law_1534 : decode cL_law 1534 = .ok (.invokevirtual 181, 3) := by decide +kernel
set_option maxRecDepth 100000 in
theorem q2365 : Cond.code yX12_standing cX12_standing 5 (some FieldType.int) ∈ GT := gt 2365 (rfl) (by decide +kernel)
theorem M_X12_standing : MY yX12_standing cX12_standing 5 (some FieldType.int) 2 := ⟨q2365, q135, by decide +kernel, by decide +kernel⟩
theorem q2362 : Cond.methodLink RL 181 yX12_standing ∈ GT := gt 2362 (by decide +kernel) (by decide +kernel)
theorem q2363 : Cond.instanceMethod yX12_standing ∈ GT := gt 2363 (by decide +kernel) (by decide +kernel)
theorem q2364 : Cond.selects RX12 yX12_standing yX12_standing ∈ GT := gt 2364 (by decide +kernel) (by decide +kernel)
theorem dL_law_1537 : decode cL_law 1537 = .ok (.istore 6, 2) := by decide +kernel
theorem dL_law_1539 : decode cL_law 1539 = .ok (.aload_n 2, 1) := by decide +kernel
theorem dL_law_1540 : decode cL_law 1540 = .ok (.invokevirtual 112, 3) := by decide +kernel
theorem dL_law_1543 : decode cL_law 1543 = .ok (.iload 5, 2) := by decide +kernel
theorem dL_law_1545 : decode cL_law 1545 = .ok (.if_icmp .eq 5, 3) := by decide +kernel
theorem dL_law_1550 : decode cL_law 1550 = .ok (.iload 5, 2) := by decide +kernel
theorem dL_law_1552 : decode cL_law 1552 = .ok (.ifCond .ne 15, 3) := by decide +kernel
theorem dL_law_1567 : decode cL_law 1567 = .ok (.goto 471, 3) := by decide +kernel
theorem dL_law_1570 : decode cL_law 1570 = .ok (.aload_n 1, 1) := by decide +kernel
theorem dL_law_1571 : decode cL_law 1571 = .ok (.aload_n 0, 1) := by decide +kernel
theorem dL_law_1572 : decode cL_law 1572 = .ok (.iload 4, 2) := by decide +kernel
theorem dL_law_1574 : decode cL_law 1574 = .ok (.iconst 1, 1) := by decide +kernel
theorem dL_law_1575 : decode cL_law 1575 = .ok (.iadd, 1) := by decide +kernel
theorem dL_law_1576 : decode cL_law 1576 = .ok (.iaload, 1) := by decide +kernel
theorem dL_law_1577 : decode cL_law 1577 = .ok (.aload_n 0, 1) := by decide +kernel
theorem dL_law_1578 : decode cL_law 1578 = .ok (.iload 4, 2) := by decide +kernel
theorem dL_law_1580 : decode cL_law 1580 = .ok (.iconst 2, 1) := by decide +kernel
theorem dL_law_1581 : decode cL_law 1581 = .ok (.iadd, 1) := by decide +kernel
theorem dL_law_1582 : decode cL_law 1582 = .ok (.iaload, 1) := by decide +kernel
theorem dL_law_1583 : decode cL_law 1583 = .ok (.aload_n 0, 1) := by decide +kernel
theorem dL_law_1584 : decode cL_law 1584 = .ok (.iload 4, 2) := by decide +kernel
theorem dL_law_1586 : decode cL_law 1586 = .ok (.iconst 3, 1) := by decide +kernel
theorem dL_law_1587 : decode cL_law 1587 = .ok (.iadd, 1) := by decide +kernel
theorem dL_law_1588 : decode cL_law 1588 = .ok (.iaload, 1) := by decide +kernel
theorem dL_law_1589 : decode cL_law 1589 = .ok (.aload_n 3, 1) := by decide +kernel
theorem dL_law_1590 : decode cL_law 1590 = .ok (.invokestatic 182, 3) := by decide +kernel
set_option maxRecDepth 100000 in
theorem q1682 : Cond.codeWith yL_item cL_item 6 (some FieldType.int) [(0, 12, 15, 20)] ∈ GT := gt 1682 (rfl) (by decide +kernel)
theorem M_L_item : MYW yL_item cL_item 6 (some FieldType.int) [(0, 12, 15, 20)] 5 := ⟨q1682, q122, by decide +kernel, by decide +kernel⟩
theorem q1680 : Cond.methodLink RL 182 yL_item ∈ GT := gt 1680 (by decide +kernel) (by decide +kernel)
theorem q1681 : Cond.static yL_item ∈ GT := gt 1681 (by decide +kernel) (by decide +kernel)
theorem dL_law_1593 : decode cL_law 1593 = .ok (.istore 5, 2) := by decide +kernel
theorem dL_law_1595 : decode cL_law 1595 = .ok (.aload_n 2, 1) := by decide +kernel
theorem dL_law_1596 : decode cL_law 1596 = .ok (.aload_n 0, 1) := by decide +kernel
theorem dL_law_1597 : decode cL_law 1597 = .ok (.iload 4, 2) := by decide +kernel
theorem dL_law_1599 : decode cL_law 1599 = .ok (.iconst 1, 1) := by decide +kernel
theorem dL_law_1600 : decode cL_law 1600 = .ok (.iadd, 1) := by decide +kernel
theorem dL_law_1601 : decode cL_law 1601 = .ok (.iaload, 1) := by decide +kernel
theorem dL_law_1602 : decode cL_law 1602 = .ok (.aload_n 0, 1) := by decide +kernel
theorem dL_law_1603 : decode cL_law 1603 = .ok (.iload 4, 2) := by decide +kernel
theorem dL_law_1605 : decode cL_law 1605 = .ok (.iconst 2, 1) := by decide +kernel
theorem dL_law_1606 : decode cL_law 1606 = .ok (.iadd, 1) := by decide +kernel
theorem dL_law_1607 : decode cL_law 1607 = .ok (.iaload, 1) := by decide +kernel
theorem dL_law_1608 : decode cL_law 1608 = .ok (.aload_n 0, 1) := by decide +kernel
theorem dL_law_1609 : decode cL_law 1609 = .ok (.iload 4, 2) := by decide +kernel
theorem dL_law_1611 : decode cL_law 1611 = .ok (.iconst 3, 1) := by decide +kernel
theorem dL_law_1612 : decode cL_law 1612 = .ok (.iadd, 1) := by decide +kernel
theorem dL_law_1613 : decode cL_law 1613 = .ok (.iaload, 1) := by decide +kernel
theorem dL_law_1614 : decode cL_law 1614 = .ok (.invokevirtual 184, 3) := by decide +kernel
set_option maxRecDepth 100000 in
theorem q2369 : Cond.code yX12_item cX12_item 5 (some FieldType.int) ∈ GT := gt 2369 (rfl) (by decide +kernel)
theorem M_X12_item : MY yX12_item cX12_item 5 (some FieldType.int) 3 := ⟨q2369, q135, by decide +kernel, by decide +kernel⟩
theorem q2366 : Cond.methodLink RL 184 yX12_item ∈ GT := gt 2366 (by decide +kernel) (by decide +kernel)
theorem q2367 : Cond.instanceMethod yX12_item ∈ GT := gt 2367 (by decide +kernel) (by decide +kernel)
theorem q2368 : Cond.selects RX12 yX12_item yX12_item ∈ GT := gt 2368 (by decide +kernel) (by decide +kernel)
theorem dL_law_1617 : decode cL_law 1617 = .ok (.istore 6, 2) := by decide +kernel
theorem dL_law_1619 : decode cL_law 1619 = .ok (.aload_n 2, 1) := by decide +kernel
theorem dL_law_1620 : decode cL_law 1620 = .ok (.invokevirtual 112, 3) := by decide +kernel
theorem dL_law_1623 : decode cL_law 1623 = .ok (.iload 5, 2) := by decide +kernel
theorem dL_law_1625 : decode cL_law 1625 = .ok (.if_icmp .eq 5, 3) := by decide +kernel
theorem dL_law_1630 : decode cL_law 1630 = .ok (.iload 5, 2) := by decide +kernel
theorem dL_law_1632 : decode cL_law 1632 = .ok (.ifCond .ne 15, 3) := by decide +kernel
theorem dL_law_1647 : decode cL_law 1647 = .ok (.goto 391, 3) := by decide +kernel
theorem dL_law_1650 : decode cL_law 1650 = .ok (.aload_n 1, 1) := by decide +kernel
theorem dL_law_1651 : decode cL_law 1651 = .ok (.aload_n 0, 1) := by decide +kernel
theorem dL_law_1652 : decode cL_law 1652 = .ok (.iload 4, 2) := by decide +kernel
theorem dL_law_1654 : decode cL_law 1654 = .ok (.iconst 1, 1) := by decide +kernel
theorem dL_law_1655 : decode cL_law 1655 = .ok (.iadd, 1) := by decide +kernel
theorem dL_law_1656 : decode cL_law 1656 = .ok (.iaload, 1) := by decide +kernel
theorem dL_law_1657 : decode cL_law 1657 = .ok (.aload_n 0, 1) := by decide +kernel
theorem dL_law_1658 : decode cL_law 1658 = .ok (.iload 4, 2) := by decide +kernel
theorem dL_law_1660 : decode cL_law 1660 = .ok (.iconst 2, 1) := by decide +kernel
theorem dL_law_1661 : decode cL_law 1661 = .ok (.iadd, 1) := by decide +kernel
theorem dL_law_1662 : decode cL_law 1662 = .ok (.iaload, 1) := by decide +kernel
theorem dL_law_1663 : decode cL_law 1663 = .ok (.aload_n 0, 1) := by decide +kernel
theorem dL_law_1664 : decode cL_law 1664 = .ok (.iload 4, 2) := by decide +kernel
theorem dL_law_1666 : decode cL_law 1666 = .ok (.iconst 3, 1) := by decide +kernel
theorem dL_law_1667 : decode cL_law 1667 = .ok (.iadd, 1) := by decide +kernel
theorem dL_law_1668 : decode cL_law 1668 = .ok (.iaload, 1) := by decide +kernel
theorem dL_law_1669 : decode cL_law 1669 = .ok (.aload_n 3, 1) := by decide +kernel
theorem dL_law_1670 : decode cL_law 1670 = .ok (.invokestatic 185, 3) := by decide +kernel
set_option maxRecDepth 100000 in
theorem q1698 : Cond.codeWith yL_value cL_value 6 (some FieldType.int) [(0, 12, 15, 20)] ∈ GT := gt 1698 (rfl) (by decide +kernel)
theorem M_L_value : MYW yL_value cL_value 6 (some FieldType.int) [(0, 12, 15, 20)] 5 := ⟨q1698, q122, by decide +kernel, by decide +kernel⟩
theorem q1696 : Cond.methodLink RL 185 yL_value ∈ GT := gt 1696 (by decide +kernel) (by decide +kernel)
theorem q1697 : Cond.static yL_value ∈ GT := gt 1697 (by decide +kernel) (by decide +kernel)
theorem dL_law_1673 : decode cL_law 1673 = .ok (.istore 5, 2) := by decide +kernel
theorem dL_law_1675 : decode cL_law 1675 = .ok (.aload_n 2, 1) := by decide +kernel
theorem dL_law_1676 : decode cL_law 1676 = .ok (.aload_n 0, 1) := by decide +kernel
theorem dL_law_1677 : decode cL_law 1677 = .ok (.iload 4, 2) := by decide +kernel
theorem dL_law_1679 : decode cL_law 1679 = .ok (.iconst 1, 1) := by decide +kernel
theorem dL_law_1680 : decode cL_law 1680 = .ok (.iadd, 1) := by decide +kernel
theorem dL_law_1681 : decode cL_law 1681 = .ok (.iaload, 1) := by decide +kernel
theorem dL_law_1682 : decode cL_law 1682 = .ok (.aload_n 0, 1) := by decide +kernel
theorem dL_law_1683 : decode cL_law 1683 = .ok (.iload 4, 2) := by decide +kernel
theorem dL_law_1685 : decode cL_law 1685 = .ok (.iconst 2, 1) := by decide +kernel
theorem dL_law_1686 : decode cL_law 1686 = .ok (.iadd, 1) := by decide +kernel
theorem dL_law_1687 : decode cL_law 1687 = .ok (.iaload, 1) := by decide +kernel
theorem dL_law_1688 : decode cL_law 1688 = .ok (.aload_n 0, 1) := by decide +kernel
theorem dL_law_1689 : decode cL_law 1689 = .ok (.iload 4, 2) := by decide +kernel
theorem dL_law_1691 : decode cL_law 1691 = .ok (.iconst 3, 1) := by decide +kernel
theorem dL_law_1692 : decode cL_law 1692 = .ok (.iadd, 1) := by decide +kernel
theorem dL_law_1693 : decode cL_law 1693 = .ok (.iaload, 1) := by decide +kernel
theorem dL_law_1694 : decode cL_law 1694 = .ok (.invokevirtual 187, 3) := by decide +kernel
set_option maxRecDepth 100000 in
theorem q2383 : Cond.code yX12_value cX12_value 5 (some FieldType.int) ∈ GT := gt 2383 (rfl) (by decide +kernel)
theorem M_X12_value : MY yX12_value cX12_value 5 (some FieldType.int) 3 := ⟨q2383, q135, by decide +kernel, by decide +kernel⟩
theorem q2380 : Cond.methodLink RL 187 yX12_value ∈ GT := gt 2380 (by decide +kernel) (by decide +kernel)
theorem q2381 : Cond.instanceMethod yX12_value ∈ GT := gt 2381 (by decide +kernel) (by decide +kernel)
theorem q2382 : Cond.selects RX12 yX12_value yX12_value ∈ GT := gt 2382 (by decide +kernel) (by decide +kernel)
theorem dL_law_1697 : decode cL_law 1697 = .ok (.istore 6, 2) := by decide +kernel
theorem dL_law_1699 : decode cL_law 1699 = .ok (.aload_n 2, 1) := by decide +kernel
theorem dL_law_1700 : decode cL_law 1700 = .ok (.invokevirtual 112, 3) := by decide +kernel
theorem dL_law_1703 : decode cL_law 1703 = .ok (.iload 5, 2) := by decide +kernel
theorem dL_law_1705 : decode cL_law 1705 = .ok (.if_icmp .eq 5, 3) := by decide +kernel
theorem dL_law_1710 : decode cL_law 1710 = .ok (.iload 5, 2) := by decide +kernel
theorem dL_law_1712 : decode cL_law 1712 = .ok (.ifCond .ne 15, 3) := by decide +kernel
theorem dL_law_1727 : decode cL_law 1727 = .ok (.goto 311, 3) := by decide +kernel
theorem dL_law_1730 : decode cL_law 1730 = .ok (.aload_n 1, 1) := by decide +kernel
theorem dL_law_1731 : decode cL_law 1731 = .ok (.aload_n 0, 1) := by decide +kernel
theorem dL_law_1732 : decode cL_law 1732 = .ok (.iload 4, 2) := by decide +kernel
theorem dL_law_1734 : decode cL_law 1734 = .ok (.iconst 1, 1) := by decide +kernel
theorem dL_law_1735 : decode cL_law 1735 = .ok (.iadd, 1) := by decide +kernel
theorem dL_law_1736 : decode cL_law 1736 = .ok (.iaload, 1) := by decide +kernel
theorem dL_law_1737 : decode cL_law 1737 = .ok (.aload_n 0, 1) := by decide +kernel
theorem dL_law_1738 : decode cL_law 1738 = .ok (.iload 4, 2) := by decide +kernel
theorem dL_law_1740 : decode cL_law 1740 = .ok (.iconst 2, 1) := by decide +kernel
theorem dL_law_1741 : decode cL_law 1741 = .ok (.iadd, 1) := by decide +kernel
theorem dL_law_1742 : decode cL_law 1742 = .ok (.iaload, 1) := by decide +kernel
theorem dL_law_1743 : decode cL_law 1743 = .ok (.aload_n 0, 1) := by decide +kernel
theorem dL_law_1744 : decode cL_law 1744 = .ok (.iload 4, 2) := by decide +kernel
theorem dL_law_1746 : decode cL_law 1746 = .ok (.iconst 3, 1) := by decide +kernel
theorem dL_law_1747 : decode cL_law 1747 = .ok (.iadd, 1) := by decide +kernel
theorem dL_law_1748 : decode cL_law 1748 = .ok (.iaload, 1) := by decide +kernel
theorem dL_law_1749 : decode cL_law 1749 = .ok (.aload_n 3, 1) := by decide +kernel
theorem dL_law_1750 : decode cL_law 1750 = .ok (.invokestatic 188, 3) := by decide +kernel
set_option maxRecDepth 100000 in
theorem q1706 : Cond.codeWith yL_token cL_token 6 (some FieldType.int) [(0, 12, 15, 20)] ∈ GT := gt 1706 (rfl) (by decide +kernel)
theorem M_L_token : MYW yL_token cL_token 6 (some FieldType.int) [(0, 12, 15, 20)] 5 := ⟨q1706, q122, by decide +kernel, by decide +kernel⟩
theorem q1704 : Cond.methodLink RL 188 yL_token ∈ GT := gt 1704 (by decide +kernel) (by decide +kernel)
theorem q1705 : Cond.static yL_token ∈ GT := gt 1705 (by decide +kernel) (by decide +kernel)
theorem dL_law_1753 : decode cL_law 1753 = .ok (.istore 5, 2) := by decide +kernel
theorem dL_law_1755 : decode cL_law 1755 = .ok (.aload_n 2, 1) := by decide +kernel
theorem dL_law_1756 : decode cL_law 1756 = .ok (.aload_n 0, 1) := by decide +kernel
theorem dL_law_1757 : decode cL_law 1757 = .ok (.iload 4, 2) := by decide +kernel
theorem dL_law_1759 : decode cL_law 1759 = .ok (.iconst 1, 1) := by decide +kernel
theorem dL_law_1760 : decode cL_law 1760 = .ok (.iadd, 1) := by decide +kernel
theorem dL_law_1761 : decode cL_law 1761 = .ok (.iaload, 1) := by decide +kernel
theorem dL_law_1762 : decode cL_law 1762 = .ok (.aload_n 0, 1) := by decide +kernel
theorem dL_law_1763 : decode cL_law 1763 = .ok (.iload 4, 2) := by decide +kernel
theorem dL_law_1765 : decode cL_law 1765 = .ok (.iconst 2, 1) := by decide +kernel
theorem dL_law_1766 : decode cL_law 1766 = .ok (.iadd, 1) := by decide +kernel
theorem dL_law_1767 : decode cL_law 1767 = .ok (.iaload, 1) := by decide +kernel
theorem dL_law_1768 : decode cL_law 1768 = .ok (.aload_n 0, 1) := by decide +kernel
theorem dL_law_1769 : decode cL_law 1769 = .ok (.iload 4, 2) := by decide +kernel
theorem dL_law_1771 : decode cL_law 1771 = .ok (.iconst 3, 1) := by decide +kernel
theorem dL_law_1772 : decode cL_law 1772 = .ok (.iadd, 1) := by decide +kernel
theorem dL_law_1773 : decode cL_law 1773 = .ok (.iaload, 1) := by decide +kernel
theorem dL_law_1774 : decode cL_law 1774 = .ok (.invokevirtual 190, 3) := by decide +kernel
set_option maxRecDepth 100000 in
theorem q2387 : Cond.code yX12_token cX12_token 11 (some FieldType.int) ∈ GT := gt 2387 (rfl) (by decide +kernel)
theorem M_X12_token : MY yX12_token cX12_token 11 (some FieldType.int) 3 := ⟨q2387, q135, by decide +kernel, by decide +kernel⟩
theorem q2384 : Cond.methodLink RL 190 yX12_token ∈ GT := gt 2384 (by decide +kernel) (by decide +kernel)
theorem q2385 : Cond.instanceMethod yX12_token ∈ GT := gt 2385 (by decide +kernel) (by decide +kernel)
theorem q2386 : Cond.selects RX12 yX12_token yX12_token ∈ GT := gt 2386 (by decide +kernel) (by decide +kernel)
theorem dL_law_1777 : decode cL_law 1777 = .ok (.istore 6, 2) := by decide +kernel
theorem dL_law_1779 : decode cL_law 1779 = .ok (.aload_n 2, 1) := by decide +kernel
theorem dL_law_1780 : decode cL_law 1780 = .ok (.invokevirtual 112, 3) := by decide +kernel
theorem dL_law_1783 : decode cL_law 1783 = .ok (.iload 5, 2) := by decide +kernel
theorem dL_law_1785 : decode cL_law 1785 = .ok (.if_icmp .eq 5, 3) := by decide +kernel
theorem dL_law_1790 : decode cL_law 1790 = .ok (.iload 5, 2) := by decide +kernel
theorem dL_law_1792 : decode cL_law 1792 = .ok (.ifCond .ne 15, 3) := by decide +kernel
theorem dL_law_1807 : decode cL_law 1807 = .ok (.goto 231, 3) := by decide +kernel
theorem dL_law_1810 : decode cL_law 1810 = .ok (.aload_n 1, 1) := by decide +kernel
theorem dL_law_1811 : decode cL_law 1811 = .ok (.aload_n 0, 1) := by decide +kernel
theorem dL_law_1812 : decode cL_law 1812 = .ok (.iload 4, 2) := by decide +kernel
theorem dL_law_1814 : decode cL_law 1814 = .ok (.iconst 1, 1) := by decide +kernel
theorem dL_law_1815 : decode cL_law 1815 = .ok (.iadd, 1) := by decide +kernel
theorem dL_law_1816 : decode cL_law 1816 = .ok (.iaload, 1) := by decide +kernel
theorem dL_law_1817 : decode cL_law 1817 = .ok (.aload_n 0, 1) := by decide +kernel
theorem dL_law_1818 : decode cL_law 1818 = .ok (.iload 4, 2) := by decide +kernel
theorem dL_law_1820 : decode cL_law 1820 = .ok (.iconst 2, 1) := by decide +kernel
theorem dL_law_1821 : decode cL_law 1821 = .ok (.iadd, 1) := by decide +kernel
theorem dL_law_1822 : decode cL_law 1822 = .ok (.iaload, 1) := by decide +kernel
theorem dL_law_1823 : decode cL_law 1823 = .ok (.aload_n 0, 1) := by decide +kernel
theorem dL_law_1824 : decode cL_law 1824 = .ok (.iload 4, 2) := by decide +kernel
theorem dL_law_1826 : decode cL_law 1826 = .ok (.iconst 3, 1) := by decide +kernel
theorem dL_law_1827 : decode cL_law 1827 = .ok (.iadd, 1) := by decide +kernel
theorem dL_law_1828 : decode cL_law 1828 = .ok (.iaload, 1) := by decide +kernel
theorem dL_law_1829 : decode cL_law 1829 = .ok (.aload_n 3, 1) := by decide +kernel
theorem dL_law_1830 : decode cL_law 1830 = .ok (.invokestatic 191, 3) := by decide +kernel
set_option maxRecDepth 100000 in
theorem q1719 : Cond.codeWith yL_id cL_id 6 (some FieldType.int) [(0, 12, 15, 20)] ∈ GT := gt 1719 (rfl) (by decide +kernel)
theorem M_L_id : MYW yL_id cL_id 6 (some FieldType.int) [(0, 12, 15, 20)] 5 := ⟨q1719, q122, by decide +kernel, by decide +kernel⟩
theorem q1717 : Cond.methodLink RL 191 yL_id ∈ GT := gt 1717 (by decide +kernel) (by decide +kernel)
theorem q1718 : Cond.static yL_id ∈ GT := gt 1718 (by decide +kernel) (by decide +kernel)
theorem dL_law_1833 : decode cL_law 1833 = .ok (.istore 5, 2) := by decide +kernel
theorem dL_law_1835 : decode cL_law 1835 = .ok (.aload_n 2, 1) := by decide +kernel
theorem dL_law_1836 : decode cL_law 1836 = .ok (.aload_n 0, 1) := by decide +kernel
theorem dL_law_1837 : decode cL_law 1837 = .ok (.iload 4, 2) := by decide +kernel
theorem dL_law_1839 : decode cL_law 1839 = .ok (.iconst 1, 1) := by decide +kernel
theorem dL_law_1840 : decode cL_law 1840 = .ok (.iadd, 1) := by decide +kernel
theorem dL_law_1841 : decode cL_law 1841 = .ok (.iaload, 1) := by decide +kernel
theorem dL_law_1842 : decode cL_law 1842 = .ok (.aload_n 0, 1) := by decide +kernel
theorem dL_law_1843 : decode cL_law 1843 = .ok (.iload 4, 2) := by decide +kernel
theorem dL_law_1845 : decode cL_law 1845 = .ok (.iconst 2, 1) := by decide +kernel
theorem dL_law_1846 : decode cL_law 1846 = .ok (.iadd, 1) := by decide +kernel
theorem dL_law_1847 : decode cL_law 1847 = .ok (.iaload, 1) := by decide +kernel
theorem dL_law_1848 : decode cL_law 1848 = .ok (.aload_n 0, 1) := by decide +kernel
theorem dL_law_1849 : decode cL_law 1849 = .ok (.iload 4, 2) := by decide +kernel
theorem dL_law_1851 : decode cL_law 1851 = .ok (.iconst 3, 1) := by decide +kernel
theorem dL_law_1852 : decode cL_law 1852 = .ok (.iadd, 1) := by decide +kernel
theorem dL_law_1853 : decode cL_law 1853 = .ok (.iaload, 1) := by decide +kernel
theorem dL_law_1854 : decode cL_law 1854 = .ok (.invokevirtual 193, 3) := by decide +kernel
set_option maxRecDepth 100000 in
theorem q2391 : Cond.code yX12_id cX12_id 5 (some FieldType.int) ∈ GT := gt 2391 (rfl) (by decide +kernel)
theorem M_X12_id : MY yX12_id cX12_id 5 (some FieldType.int) 3 := ⟨q2391, q135, by decide +kernel, by decide +kernel⟩
theorem q2388 : Cond.methodLink RL 193 yX12_id ∈ GT := gt 2388 (by decide +kernel) (by decide +kernel)
theorem q2389 : Cond.instanceMethod yX12_id ∈ GT := gt 2389 (by decide +kernel) (by decide +kernel)
theorem q2390 : Cond.selects RX12 yX12_id yX12_id ∈ GT := gt 2390 (by decide +kernel) (by decide +kernel)
theorem dL_law_1857 : decode cL_law 1857 = .ok (.istore 6, 2) := by decide +kernel
theorem dL_law_1859 : decode cL_law 1859 = .ok (.aload_n 2, 1) := by decide +kernel
theorem dL_law_1860 : decode cL_law 1860 = .ok (.invokevirtual 112, 3) := by decide +kernel
theorem dL_law_1863 : decode cL_law 1863 = .ok (.iload 5, 2) := by decide +kernel
theorem dL_law_1865 : decode cL_law 1865 = .ok (.if_icmp .eq 5, 3) := by decide +kernel
theorem dL_law_1870 : decode cL_law 1870 = .ok (.iload 5, 2) := by decide +kernel
theorem dL_law_1872 : decode cL_law 1872 = .ok (.ifCond .ne 15, 3) := by decide +kernel
theorem dL_law_1887 : decode cL_law 1887 = .ok (.goto 151, 3) := by decide +kernel
theorem dL_law_164 : decode cL_law 164 = .ok (.aload_n 1, 1) := by decide +kernel
theorem dL_law_165 : decode cL_law 165 = .ok (.aload_n 0, 1) := by decide +kernel
theorem dL_law_166 : decode cL_law 166 = .ok (.iload 4, 2) := by decide +kernel
theorem dL_law_168 : decode cL_law 168 = .ok (.iconst 1, 1) := by decide +kernel
theorem dL_law_169 : decode cL_law 169 = .ok (.iadd, 1) := by decide +kernel
theorem dL_law_170 : decode cL_law 170 = .ok (.iaload, 1) := by decide +kernel
theorem dL_law_171 : decode cL_law 171 = .ok (.aload_n 0, 1) := by decide +kernel
theorem dL_law_172 : decode cL_law 172 = .ok (.iload 4, 2) := by decide +kernel
theorem dL_law_174 : decode cL_law 174 = .ok (.iconst 2, 1) := by decide +kernel
theorem dL_law_175 : decode cL_law 175 = .ok (.iadd, 1) := by decide +kernel
theorem dL_law_176 : decode cL_law 176 = .ok (.iaload, 1) := by decide +kernel
theorem dL_law_177 : decode cL_law 177 = .ok (.aload_n 3, 1) := by decide +kernel
theorem dL_law_178 : decode cL_law 178 = .ok (.invokestatic 106, 3) := by decide +kernel
set_option maxRecDepth 100000 in
theorem q1011 : Cond.codeWith yL_file cL_file 5 (some FieldType.int) [(0, 10, 13, 13), (0, 10, 17, 15)] ∈ GT := gt 1011 (rfl) (by decide +kernel)
theorem M_L_file : MYW yL_file cL_file 5 (some FieldType.int) [(0, 10, 13, 13), (0, 10, 17, 15)] 4 := ⟨q1011, q122, by decide +kernel, by decide +kernel⟩
theorem q1009 : Cond.methodLink RL 106 yL_file ∈ GT := gt 1009 (by decide +kernel) (by decide +kernel)
theorem q1010 : Cond.static yL_file ∈ GT := gt 1010 (by decide +kernel) (by decide +kernel)
theorem dL_law_181 : decode cL_law 181 = .ok (.istore 5, 2) := by decide +kernel
theorem dL_law_183 : decode cL_law 183 = .ok (.aload_n 2, 1) := by decide +kernel
theorem dL_law_184 : decode cL_law 184 = .ok (.aload_n 0, 1) := by decide +kernel
theorem dL_law_185 : decode cL_law 185 = .ok (.iload 4, 2) := by decide +kernel
theorem dL_law_187 : decode cL_law 187 = .ok (.iconst 1, 1) := by decide +kernel
theorem dL_law_188 : decode cL_law 188 = .ok (.iadd, 1) := by decide +kernel
theorem dL_law_189 : decode cL_law 189 = .ok (.iaload, 1) := by decide +kernel
theorem dL_law_190 : decode cL_law 190 = .ok (.aload_n 0, 1) := by decide +kernel
theorem dL_law_191 : decode cL_law 191 = .ok (.iload 4, 2) := by decide +kernel
theorem dL_law_193 : decode cL_law 193 = .ok (.iconst 2, 1) := by decide +kernel
theorem dL_law_194 : decode cL_law 194 = .ok (.iadd, 1) := by decide +kernel
theorem dL_law_195 : decode cL_law 195 = .ok (.iaload, 1) := by decide +kernel
theorem dL_law_196 : decode cL_law 196 = .ok (.invokevirtual 111, 3) := by decide +kernel
set_option maxRecDepth 100000 in
theorem q1982 : Cond.code yX12_file cX12_file 4 (some FieldType.int) ∈ GT := gt 1982 (rfl) (by decide +kernel)
theorem M_X12_file : MY yX12_file cX12_file 4 (some FieldType.int) 2 := ⟨q1982, q135, by decide +kernel, by decide +kernel⟩
theorem q1979 : Cond.methodLink RL 111 yX12_file ∈ GT := gt 1979 (by decide +kernel) (by decide +kernel)
theorem q1980 : Cond.instanceMethod yX12_file ∈ GT := gt 1980 (by decide +kernel) (by decide +kernel)
theorem q1981 : Cond.selects RX12 yX12_file yX12_file ∈ GT := gt 1981 (by decide +kernel) (by decide +kernel)
theorem dL_law_199 : decode cL_law 199 = .ok (.istore 6, 2) := by decide +kernel
theorem dL_law_201 : decode cL_law 201 = .ok (.aload_n 2, 1) := by decide +kernel
theorem dL_law_202 : decode cL_law 202 = .ok (.invokevirtual 112, 3) := by decide +kernel
theorem dL_law_205 : decode cL_law 205 = .ok (.iload 5, 2) := by decide +kernel
theorem dL_law_207 : decode cL_law 207 = .ok (.if_icmp .eq 5, 3) := by decide +kernel
theorem dL_law_212 : decode cL_law 212 = .ok (.iload 5, 2) := by decide +kernel
theorem dL_law_214 : decode cL_law 214 = .ok (.ifCond .ne 15, 3) := by decide +kernel
theorem dL_law_217 : decode cL_law 217 = .ok (.aload_n 3, 1) := by decide +kernel
theorem dL_law_218 : decode cL_law 218 = .ok (.iconst 0, 1) := by decide +kernel
theorem dL_law_219 : decode cL_law 219 = .ok (.laload, 1) := by decide +kernel
theorem dL_law_220 : decode cL_law 220 = .ok (.iload 6, 2) := by decide +kernel
theorem dL_law_222 : decode cL_law 222 = .ok (.i2l, 1) := by decide +kernel
theorem dL_law_223 : decode cL_law 223 = .ok (.lcmp, 1) := by decide +kernel
theorem dL_law_224 : decode cL_law 224 = .ok (.ifCond .eq 5, 3) := by decide +kernel
theorem dL_law_229 : decode cL_law 229 = .ok (.goto 1809, 3) := by decide +kernel
theorem dL_law_300 : decode cL_law 300 = .ok (.aload_n 1, 1) := by decide +kernel
theorem dL_law_301 : decode cL_law 301 = .ok (.aload_n 0, 1) := by decide +kernel
theorem dL_law_302 : decode cL_law 302 = .ok (.iload 4, 2) := by decide +kernel
theorem dL_law_304 : decode cL_law 304 = .ok (.iconst 1, 1) := by decide +kernel
theorem dL_law_305 : decode cL_law 305 = .ok (.iadd, 1) := by decide +kernel
theorem dL_law_306 : decode cL_law 306 = .ok (.iaload, 1) := by decide +kernel
theorem dL_law_307 : decode cL_law 307 = .ok (.aload_n 0, 1) := by decide +kernel
theorem dL_law_308 : decode cL_law 308 = .ok (.iload 4, 2) := by decide +kernel
theorem dL_law_310 : decode cL_law 310 = .ok (.iconst 2, 1) := by decide +kernel
theorem dL_law_311 : decode cL_law 311 = .ok (.iadd, 1) := by decide +kernel
theorem dL_law_312 : decode cL_law 312 = .ok (.iaload, 1) := by decide +kernel
theorem dL_law_313 : decode cL_law 313 = .ok (.aload_n 0, 1) := by decide +kernel
theorem dL_law_314 : decode cL_law 314 = .ok (.iload 4, 2) := by decide +kernel
theorem dL_law_316 : decode cL_law 316 = .ok (.iconst 3, 1) := by decide +kernel
theorem dL_law_317 : decode cL_law 317 = .ok (.iadd, 1) := by decide +kernel
theorem dL_law_318 : decode cL_law 318 = .ok (.iaload, 1) := by decide +kernel
theorem dL_law_319 : decode cL_law 319 = .ok (.aload_n 3, 1) := by decide +kernel
theorem dL_law_320 : decode cL_law 320 = .ok (.invokestatic 119, 3) := by decide +kernel
set_option maxRecDepth 100000 in
theorem q1182 : Cond.codeWith yL_server cL_server 6 (some FieldType.int) [(0, 12, 15, 13), (0, 12, 19, 15)] ∈ GT := gt 1182 (rfl) (by decide +kernel)
theorem M_L_server : MYW yL_server cL_server 6 (some FieldType.int) [(0, 12, 15, 13), (0, 12, 19, 15)] 5 := ⟨q1182, q122, by decide +kernel, by decide +kernel⟩
theorem q1180 : Cond.methodLink RL 119 yL_server ∈ GT := gt 1180 (by decide +kernel) (by decide +kernel)
theorem q1181 : Cond.static yL_server ∈ GT := gt 1181 (by decide +kernel) (by decide +kernel)
theorem dL_law_323 : decode cL_law 323 = .ok (.istore 5, 2) := by decide +kernel
theorem dL_law_325 : decode cL_law 325 = .ok (.aload_n 2, 1) := by decide +kernel
theorem dL_law_326 : decode cL_law 326 = .ok (.aload_n 0, 1) := by decide +kernel
theorem dL_law_327 : decode cL_law 327 = .ok (.iload 4, 2) := by decide +kernel
theorem dL_law_329 : decode cL_law 329 = .ok (.iconst 1, 1) := by decide +kernel
theorem dL_law_330 : decode cL_law 330 = .ok (.iadd, 1) := by decide +kernel
theorem dL_law_331 : decode cL_law 331 = .ok (.iaload, 1) := by decide +kernel
theorem dL_law_332 : decode cL_law 332 = .ok (.aload_n 0, 1) := by decide +kernel
theorem dL_law_333 : decode cL_law 333 = .ok (.iload 4, 2) := by decide +kernel
theorem dL_law_335 : decode cL_law 335 = .ok (.iconst 2, 1) := by decide +kernel
theorem dL_law_336 : decode cL_law 336 = .ok (.iadd, 1) := by decide +kernel
theorem dL_law_337 : decode cL_law 337 = .ok (.iaload, 1) := by decide +kernel
theorem dL_law_338 : decode cL_law 338 = .ok (.aload_n 0, 1) := by decide +kernel
theorem dL_law_339 : decode cL_law 339 = .ok (.iload 4, 2) := by decide +kernel
theorem dL_law_341 : decode cL_law 341 = .ok (.iconst 3, 1) := by decide +kernel
theorem dL_law_342 : decode cL_law 342 = .ok (.iadd, 1) := by decide +kernel
theorem dL_law_343 : decode cL_law 343 = .ok (.iaload, 1) := by decide +kernel
theorem dL_law_344 : decode cL_law 344 = .ok (.invokevirtual 122, 3) := by decide +kernel
set_option maxRecDepth 100000 in
theorem q2025 : Cond.code yX12_server cX12_server 5 (some FieldType.int) ∈ GT := gt 2025 (rfl) (by decide +kernel)
theorem M_X12_server : MY yX12_server cX12_server 5 (some FieldType.int) 3 := ⟨q2025, q135, by decide +kernel, by decide +kernel⟩
theorem q2022 : Cond.methodLink RL 122 yX12_server ∈ GT := gt 2022 (by decide +kernel) (by decide +kernel)
theorem q2023 : Cond.instanceMethod yX12_server ∈ GT := gt 2023 (by decide +kernel) (by decide +kernel)
theorem q2024 : Cond.selects RX12 yX12_server yX12_server ∈ GT := gt 2024 (by decide +kernel) (by decide +kernel)
theorem dL_law_347 : decode cL_law 347 = .ok (.istore 6, 2) := by decide +kernel
theorem dL_law_349 : decode cL_law 349 = .ok (.aload_n 2, 1) := by decide +kernel
theorem dL_law_350 : decode cL_law 350 = .ok (.invokevirtual 112, 3) := by decide +kernel
theorem dL_law_353 : decode cL_law 353 = .ok (.iload 5, 2) := by decide +kernel
theorem dL_law_355 : decode cL_law 355 = .ok (.if_icmp .eq 5, 3) := by decide +kernel
theorem dL_law_360 : decode cL_law 360 = .ok (.iload 5, 2) := by decide +kernel
theorem dL_law_362 : decode cL_law 362 = .ok (.ifCond .ne 15, 3) := by decide +kernel
theorem dL_law_365 : decode cL_law 365 = .ok (.aload_n 3, 1) := by decide +kernel
theorem dL_law_366 : decode cL_law 366 = .ok (.iconst 0, 1) := by decide +kernel
theorem dL_law_367 : decode cL_law 367 = .ok (.laload, 1) := by decide +kernel
theorem dL_law_368 : decode cL_law 368 = .ok (.iload 6, 2) := by decide +kernel
theorem dL_law_370 : decode cL_law 370 = .ok (.i2l, 1) := by decide +kernel
theorem dL_law_371 : decode cL_law 371 = .ok (.lcmp, 1) := by decide +kernel
theorem dL_law_372 : decode cL_law 372 = .ok (.ifCond .eq 5, 3) := by decide +kernel
theorem dL_law_377 : decode cL_law 377 = .ok (.goto 1661, 3) := by decide +kernel
theorem dL_law_1166 : decode cL_law 1166 = .ok (.aload_n 1, 1) := by decide +kernel
theorem dL_law_1167 : decode cL_law 1167 = .ok (.aload_n 0, 1) := by decide +kernel
theorem dL_law_1168 : decode cL_law 1168 = .ok (.iload 4, 2) := by decide +kernel
theorem dL_law_1170 : decode cL_law 1170 = .ok (.iconst 1, 1) := by decide +kernel
theorem dL_law_1171 : decode cL_law 1171 = .ok (.iadd, 1) := by decide +kernel
theorem dL_law_1172 : decode cL_law 1172 = .ok (.iaload, 1) := by decide +kernel
theorem dL_law_1173 : decode cL_law 1173 = .ok (.aload_n 3, 1) := by decide +kernel
theorem dL_law_1174 : decode cL_law 1174 = .ok (.invokestatic 160, 3) := by decide +kernel
set_option maxRecDepth 100000 in
theorem q1615 : Cond.codeWith yL_deliver cL_deliver 4 (some FieldType.int) [(0, 9, 12, 20)] ∈ GT := gt 1615 (rfl) (by decide +kernel)
theorem M_L_deliver : MYW yL_deliver cL_deliver 4 (some FieldType.int) [(0, 9, 12, 20)] 3 := ⟨q1615, q122, by decide +kernel, by decide +kernel⟩
theorem q1613 : Cond.methodLink RL 160 yL_deliver ∈ GT := gt 1613 (by decide +kernel) (by decide +kernel)
theorem q1614 : Cond.static yL_deliver ∈ GT := gt 1614 (by decide +kernel) (by decide +kernel)
theorem dL_law_1177 : decode cL_law 1177 = .ok (.istore 5, 2) := by decide +kernel
theorem dL_law_1179 : decode cL_law 1179 = .ok (.aload_n 2, 1) := by decide +kernel
theorem dL_law_1180 : decode cL_law 1180 = .ok (.aload_n 0, 1) := by decide +kernel
theorem dL_law_1181 : decode cL_law 1181 = .ok (.iload 4, 2) := by decide +kernel
theorem dL_law_1183 : decode cL_law 1183 = .ok (.iconst 1, 1) := by decide +kernel
theorem dL_law_1184 : decode cL_law 1184 = .ok (.iadd, 1) := by decide +kernel
theorem dL_law_1185 : decode cL_law 1185 = .ok (.iaload, 1) := by decide +kernel
theorem dL_law_1186 : decode cL_law 1186 = .ok (.invokevirtual 162, 3) := by decide +kernel
set_option maxRecDepth 100000 in
theorem q2289 : Cond.code yX12_deliver cX12_deliver 2 (some FieldType.int) ∈ GT := gt 2289 (rfl) (by decide +kernel)
theorem M_X12_deliver : MY yX12_deliver cX12_deliver 2 (some FieldType.int) 1 := ⟨q2289, q135, by decide +kernel, by decide +kernel⟩
theorem q2286 : Cond.methodLink RL 162 yX12_deliver ∈ GT := gt 2286 (by decide +kernel) (by decide +kernel)
theorem q2287 : Cond.instanceMethod yX12_deliver ∈ GT := gt 2287 (by decide +kernel) (by decide +kernel)
theorem q2288 : Cond.selects RX12 yX12_deliver yX12_deliver ∈ GT := gt 2288 (by decide +kernel) (by decide +kernel)
theorem dL_law_1189 : decode cL_law 1189 = .ok (.istore 6, 2) := by decide +kernel
theorem dL_law_1191 : decode cL_law 1191 = .ok (.aload_n 2, 1) := by decide +kernel
theorem dL_law_1192 : decode cL_law 1192 = .ok (.invokevirtual 112, 3) := by decide +kernel
theorem dL_law_1195 : decode cL_law 1195 = .ok (.iload 5, 2) := by decide +kernel
theorem dL_law_1197 : decode cL_law 1197 = .ok (.if_icmp .eq 5, 3) := by decide +kernel
theorem dL_law_1202 : decode cL_law 1202 = .ok (.iload 5, 2) := by decide +kernel
theorem dL_law_1204 : decode cL_law 1204 = .ok (.ifCond .ne 15, 3) := by decide +kernel
theorem dL_law_1207 : decode cL_law 1207 = .ok (.aload_n 3, 1) := by decide +kernel
theorem dL_law_1208 : decode cL_law 1208 = .ok (.iconst 0, 1) := by decide +kernel
theorem dL_law_1209 : decode cL_law 1209 = .ok (.laload, 1) := by decide +kernel
theorem dL_law_1210 : decode cL_law 1210 = .ok (.iload 6, 2) := by decide +kernel
theorem dL_law_1212 : decode cL_law 1212 = .ok (.i2l, 1) := by decide +kernel
theorem dL_law_1213 : decode cL_law 1213 = .ok (.lcmp, 1) := by decide +kernel
theorem dL_law_1214 : decode cL_law 1214 = .ok (.ifCond .eq 5, 3) := by decide +kernel
theorem dL_law_1219 : decode cL_law 1219 = .ok (.goto 819, 3) := by decide +kernel
theorem dL_law_1235 : decode cL_law 1235 = .ok (.aload_n 1, 1) := by decide +kernel
theorem dL_law_1236 : decode cL_law 1236 = .ok (.aload_n 0, 1) := by decide +kernel
theorem dL_law_1237 : decode cL_law 1237 = .ok (.iload 4, 2) := by decide +kernel
theorem dL_law_1239 : decode cL_law 1239 = .ok (.iconst 1, 1) := by decide +kernel
theorem dL_law_1240 : decode cL_law 1240 = .ok (.iadd, 1) := by decide +kernel
theorem dL_law_1241 : decode cL_law 1241 = .ok (.iaload, 1) := by decide +kernel
theorem dL_law_1242 : decode cL_law 1242 = .ok (.aload_n 3, 1) := by decide +kernel
theorem dL_law_1243 : decode cL_law 1243 = .ok (.invokestatic 167, 3) := by decide +kernel
set_option maxRecDepth 100000 in
theorem q1627 : Cond.codeWith yL_waiting cL_waiting 4 (some FieldType.int) [(0, 9, 12, 20)] ∈ GT := gt 1627 (rfl) (by decide +kernel)
theorem M_L_waiting : MYW yL_waiting cL_waiting 4 (some FieldType.int) [(0, 9, 12, 20)] 3 := ⟨q1627, q122, by decide +kernel, by decide +kernel⟩
theorem q1625 : Cond.methodLink RL 167 yL_waiting ∈ GT := gt 1625 (by decide +kernel) (by decide +kernel)
theorem q1626 : Cond.static yL_waiting ∈ GT := gt 1626 (by decide +kernel) (by decide +kernel)
theorem dL_law_1246 : decode cL_law 1246 = .ok (.istore 5, 2) := by decide +kernel
theorem dL_law_1248 : decode cL_law 1248 = .ok (.aload_n 2, 1) := by decide +kernel
theorem dL_law_1249 : decode cL_law 1249 = .ok (.aload_n 0, 1) := by decide +kernel
theorem dL_law_1250 : decode cL_law 1250 = .ok (.iload 4, 2) := by decide +kernel
theorem dL_law_1252 : decode cL_law 1252 = .ok (.iconst 1, 1) := by decide +kernel
theorem dL_law_1253 : decode cL_law 1253 = .ok (.iadd, 1) := by decide +kernel
theorem dL_law_1254 : decode cL_law 1254 = .ok (.iaload, 1) := by decide +kernel
theorem dL_law_1255 : decode cL_law 1255 = .ok (.invokevirtual 169, 3) := by decide +kernel
set_option maxRecDepth 100000 in
theorem q2341 : Cond.code yX12_waiting cX12_waiting 2 (some FieldType.int) ∈ GT := gt 2341 (rfl) (by decide +kernel)
theorem M_X12_waiting : MY yX12_waiting cX12_waiting 2 (some FieldType.int) 1 := ⟨q2341, q135, by decide +kernel, by decide +kernel⟩
theorem q2338 : Cond.methodLink RL 169 yX12_waiting ∈ GT := gt 2338 (by decide +kernel) (by decide +kernel)
theorem q2339 : Cond.instanceMethod yX12_waiting ∈ GT := gt 2339 (by decide +kernel) (by decide +kernel)
theorem q2340 : Cond.selects RX12 yX12_waiting yX12_waiting ∈ GT := gt 2340 (by decide +kernel) (by decide +kernel)
theorem dL_law_1258 : decode cL_law 1258 = .ok (.istore 6, 2) := by decide +kernel
theorem dL_law_1260 : decode cL_law 1260 = .ok (.aload_n 2, 1) := by decide +kernel
theorem dL_law_1261 : decode cL_law 1261 = .ok (.invokevirtual 112, 3) := by decide +kernel
theorem dL_law_1264 : decode cL_law 1264 = .ok (.iload 5, 2) := by decide +kernel
theorem dL_law_1266 : decode cL_law 1266 = .ok (.if_icmp .eq 5, 3) := by decide +kernel
theorem dL_law_1271 : decode cL_law 1271 = .ok (.iload 5, 2) := by decide +kernel
theorem dL_law_1273 : decode cL_law 1273 = .ok (.ifCond .ne 15, 3) := by decide +kernel
theorem dL_law_1276 : decode cL_law 1276 = .ok (.aload_n 3, 1) := by decide +kernel
theorem dL_law_1277 : decode cL_law 1277 = .ok (.iconst 0, 1) := by decide +kernel
theorem dL_law_1278 : decode cL_law 1278 = .ok (.laload, 1) := by decide +kernel
theorem dL_law_1279 : decode cL_law 1279 = .ok (.iload 6, 2) := by decide +kernel
theorem dL_law_1281 : decode cL_law 1281 = .ok (.i2l, 1) := by decide +kernel
theorem dL_law_1282 : decode cL_law 1282 = .ok (.lcmp, 1) := by decide +kernel
theorem dL_law_1283 : decode cL_law 1283 = .ok (.ifCond .eq 5, 3) := by decide +kernel
theorem dL_law_1288 : decode cL_law 1288 = .ok (.goto 750, 3) := by decide +kernel
theorem dL_law_1222 : decode cL_law 1222 = .ok (.aload_n 1, 1) := by decide +kernel
theorem dL_law_1223 : decode cL_law 1223 = .ok (.invokevirtual 163, 3) := by decide +kernel
set_option maxRecDepth 100000 in
theorem q413 : Cond.code yX11_deliverAll cX11_deliverAll 4 (some FieldType.int) ∈ GT := gt 413 (rfl) (by decide +kernel)
theorem M_X11_deliverAll : MY yX11_deliverAll cX11_deliverAll 4 (some FieldType.int) 0 := ⟨q413, q123, by decide +kernel, by decide +kernel⟩
theorem q410 : Cond.methodLink RL 163 yX11_deliverAll ∈ GT := gt 410 (by decide +kernel) (by decide +kernel)
theorem q411 : Cond.instanceMethod yX11_deliverAll ∈ GT := gt 411 (by decide +kernel) (by decide +kernel)
theorem q412 : Cond.selects RX11 yX11_deliverAll yX11_deliverAll ∈ GT := gt 412 (by decide +kernel) (by decide +kernel)
theorem dL_law_1226 : decode cL_law 1226 = .ok (.aload_n 2, 1) := by decide +kernel
theorem dL_law_1227 : decode cL_law 1227 = .ok (.invokevirtual 166, 3) := by decide +kernel
set_option maxRecDepth 100000 in
theorem q2337 : Cond.code yX12_deliverAll cX12_deliverAll 3 (some FieldType.int) ∈ GT := gt 2337 (rfl) (by decide +kernel)
theorem M_X12_deliverAll : MY yX12_deliverAll cX12_deliverAll 3 (some FieldType.int) 0 := ⟨q2337, q135, by decide +kernel, by decide +kernel⟩
theorem q2334 : Cond.methodLink RL 166 yX12_deliverAll ∈ GT := gt 2334 (by decide +kernel) (by decide +kernel)
theorem q2335 : Cond.instanceMethod yX12_deliverAll ∈ GT := gt 2335 (by decide +kernel) (by decide +kernel)
theorem q2336 : Cond.selects RX12 yX12_deliverAll yX12_deliverAll ∈ GT := gt 2336 (by decide +kernel) (by decide +kernel)
theorem dL_law_1230 : decode cL_law 1230 = .ok (.if_icmp .eq 808, 3) := by decide +kernel
set_option maxHeartbeats 4000000 in
set_option maxRecDepth 100000 in
theorem k2_thrown (l : Launch) (d0 : Nat) (cO : ClassId) (dC : Nat → ClassId) (dI : Nat → Nat → Nat) (sz : Nat) (h0 : Nat) (th : Int32) (fs : List Value) (hf_thrown : fs[74]? = some (.int th)) : Met l yX12_thrown (cn yX12_thrown cX12_thrown 1 (some FieldType.int)) (rmd 0 0 0) (va_Pc [.ref h0] (PREp d0 cO (dC, dI) (va_A [] sz) [(h0, .inr (13, fs))] [] sz)) (va_Qi (fun (r : Int32) (_ : Unit) => r = th) (fun (_ : Unit) (t : State) => va_P (dC, dI) vwCl [] t.heap) (va_A [] sz)) 0 0 (va_A [] sz) := by
  refine Met.ofW (cc := cX12_thrown) (maxL := 1) (ret := (some FieldType.int)) (by decide) rfl ?_
  intro p e s m args below meth c s₁ B hml hv
  obtain ⟨rfl, hsz, hE, hP, hK⟩ := hv
  have hx := B.exec
  have hb := B.bytes
  have hr := B.returns
  have hts := atoms_spec (ws := cn yX12_thrown cX12_thrown 1 (some FieldType.int)) B.pre
  have ht : ∀ w ∈ GT, w.before _ s = true := fun w h => hts w (List.mem_cons_of_mem _ h)
  have hown : s.vm.findClass RX12 = some m.cls := findClass_of_methodNamed B.named
  have hlocks := B.notSynchronized
  subst hsz
  generalize hAe : va_A [] s.heap.size = A at hE ⊢
  have hA : ∀ q : Nat, s.heap.size ≤ q → A q := fun q h => by rw [← hAe]; exact Or.inr h
  obtain ⟨H, hH0⟩ : ∃ H, s.heap = H := ⟨_, rfl⟩
  have hS : va_S A s.heap H [] := by rw [← hH0]; exact va_S.rf
  rw [hH0] at hP
  have hl := lv_entry ([.ref h0]) (n := 1) (Nat.le_of_ble_eq_true rfl)
  rw [lg_entry_eq]
  generalize (lg_sl ([.ref h0]) ++ List.replicate (1 - (lg_sl ([.ref h0])).length) Slot.unset).toArray = ls at hl ⊢
  have hl : lv_has ls 1 [(0, .ref h0)] := hl
  rw [hH0]
  refine lv_aload_n hx hb dX12_thrown_0 rfl (lv_at hl 0 rfl) ?_
  refine va_get (D := (dC, dI)) (ci := 13) (v := .int th) (C := RX12) (T := TX12) (N := 75) hx hb ht inGX12 hown hK hP 0 rfl rfl 74 (by decide) (ht _ q1823) (fun _ h9 => h9) hf_thrown dX12_thrown_1 ?_
  have hP9 := hP.sub (ws' := []) [] rfl
  have hK9 := hK.sub (tys' := []) [] rfl
  refine W.widen (k := 0) (n := 0) (Nat.le_of_ble_eq_true rfl) (Nat.le_of_ble_eq_true rfl) ?_
  exact W.iret (v := th) hx hb hr (fun t ht9 hW9 => ⟨⟨th, (), rfl, rfl, ppk ht9 hP9⟩, hS.F ht9⟩) hS.2.2 dX12_thrown_4
set_option maxHeartbeats 4000000 in
set_option maxRecDepth 100000 in
theorem law_end (l : Launch) (hL : l.stackTraces = false) {p : Program} {e : Env} {s : State} {m : MethodId} {below : List Frame} {meth : Method} {c : Code} {b : Nat} {xs : Nat → Int32} {d0 : Nat} {cO : ClassId} {dC : Nat → ClassId} {dI : Nat → Nat → Nat} {H : Heap} {locs : List Loc} {ls : Array Slot} {h0 mo out : Nat}   (C0 : lw_At p s m meth c b 8 xs) (hE : EN d0 cO (fun q : Nat => s.heap.size ≤ q) s s.heap) (hS : va_S (fun q : Nat => s.heap.size ≤ q) s.heap H locs) (hP : va_P (dC, dI) vwCl [] H) (hD : va_D (fun q : Nat => s.heap.size ≤ q) []) (hK : va_K (dC, dI) vwCl [] s) (hl : lv_has ls 7 [(4, .int 0), (3, .ref out), (2, .ref mo), (1, .ref h0), (0, .ref b)]) : W p l e room_1 s m #[Value.ref b] below meth c H locs 267 364933 (lw_Z below #[Value.ref b] s) (F0 m 2038 ls []) := by
  obtain ⟨hx, hb, hr, hml, hown0, hts, hX, hbl, hlocks, hgv⟩ := id C0
  have hown : s.vm.findClass RL = some m.cls := hown0
  have ht : ∀ w ∈ GT, w.before #[Value.ref b] s = true := fun w h => hts w (gt_tbl h)
  obtain ⟨A, hAd⟩ : ∃ A : Nat → Prop, A = (fun q : Nat => s.heap.size ≤ q) := ⟨_, rfl⟩
  rw [← hAd] at hE hS hD
  have hA : ∀ q : Nat, s.heap.size ≤ q → A q := fun q h => by rw [hAd]; exact h
  have hbA : ¬ A b := by rw [hAd]; exact Nat.not_le.mpr hbl
  refine lv_iinc (v := 8) (lv' := [(4, .int 8), (3, .ref out), (2, .ref mo), (1, .ref h0), (0, .ref b)]) hx hb dL_law_2038 hl (k := 0) rfl (by decide) (by decide) rfl (fun ls hl => ?_)
  refine lv_goto (tgt := 23) hx hb dL_law_2041 (by decide) ?_
  refine lv_iload hx hb dL_law_23 (lv_at hl 0 rfl) ?_
  refine lv_aload_n hx hb dL_law_25 rfl (lv_at hl 4 rfl) ?_
  refine va_slen hx hb hX hbl hbA hS dL_law_26 ?_
  refine W.eq (g2 := F0 m 27 ls [.int 8, .int 8]) rfl ?_
  refine lv_bipush (v := 8) hx hb dL_law_27 (by decide) ?_
  refine lv_isub hx hb dL_law_29 ?_
  refine lv_topi (fun x1 ex1 => ?_)
  obtain rfl : x1 = 0 := ex1.trans (by decide)
  refine lv_icmp_gt (tgt := 2044) hx hb dL_law_30 (by decide) (fun c2 => ?_) (fun c2 => False.elim (by revert c2; decide))
  refine lv_iconst (v := 1) hx hb dL_law_2044 (by decide) ?_
  refine W.widen (k := 600002) (n := 7302232) (Nat.le_of_ble_eq_true rfl) (Nat.le_of_ble_eq_true rfl) ?_
  refine va_forget (by have h := hS.2.2; rw [hAd] at h; exact h) ?_
  exact lw_ret hx hb hr hlocks dL_law_2045
set_option maxHeartbeats 4000000 in
set_option maxRecDepth 100000 in
theorem law_store (l : Launch) (hL : l.stackTraces = false) {p : Program} {e : Env} {s : State} {m : MethodId} {below : List Frame} {meth : Method} {c : Code} {b : Nat} {xs : Nat → Int32} {d0 : Nat} {cO : ClassId} {dC : Nat → ClassId} {dI : Nat → Nat → Nat} {H : Heap} {locs : List Loc} {ls : Array Slot} {h0 mo out : Nat} {ea sl : Nat} {tca tmx tsv : Value} {tE : ClassId} {fE : Nat → Option Nat} {sm : Int32} {se : Value} {fi : Nat} {fna fla fv2 fv3 fv4 fv5 : Value} {e0 ak0 : Nat} {ei0 am0 : Int32} {ev0_1 ev0_2 ev0_3 ev0_4 ev0_5 ev0_6 ae0 : Value} {e1 ak1 : Nat} {ei1 am1 : Int32} {ev1_1 ev1_2 ev1_3 ev1_4 ev1_5 ev1_6 ae1 : Value} {fs : List Value} (hf0 : fE 0 = some e0) (hf1 : fE 1 = some e1) (hlen : fs.length = 75) (hf_files : fs[2]? = some (.int 0)) (C0 : lw_At p s m meth c b 8 xs) (hE : EN d0 cO (fun q : Nat => s.heap.size ≤ q) s s.heap) (hS : va_S (fun q : Nat => s.heap.size ≤ q) s.heap H locs) (hP : va_P (dC, dI) vwCl [(h0, .inr (12, [.ref fi, tca, .ref ea, .ref sl, tmx, tsv])), (fi, .inr (5, [fna, fla, fv2, fv3, fv4, fv5, .int 0])), (ea, .inl (tE, 2, .inr (.inr (.inr (.inr fE))))), (e0, .inr (4, [.int ei0, ev0_1, ev0_2, ev0_3, ev0_4, ev0_5, ev0_6, .ref ak0])), (e1, .inr (4, [.int ei1, ev1_1, ev1_2, ev1_3, ev1_4, ev1_5, ev1_6, .ref ak1])), (ak0, .inr (0, [.int am0, ae0, .int 0])), (ak1, .inr (0, [.int am1, ae1, .int 0])), (sl, .inr (0, [.int sm, se, .int 0])), (mo, .inr (13, fs))] H) (hD : va_D (fun q : Nat => s.heap.size ≤ q) [(h0, .inr (12, [.ref fi, tca, .ref ea, .ref sl, tmx, tsv])), (fi, .inr (5, [fna, fla, fv2, fv3, fv4, fv5, .int 0])), (ea, .inl (tE, 2, .inr (.inr (.inr (.inr fE))))), (e0, .inr (4, [.int ei0, ev0_1, ev0_2, ev0_3, ev0_4, ev0_5, ev0_6, .ref ak0])), (e1, .inr (4, [.int ei1, ev1_1, ev1_2, ev1_3, ev1_4, ev1_5, ev1_6, .ref ak1])), (ak0, .inr (0, [.int am0, ae0, .int 0])), (ak1, .inr (0, [.int am1, ae1, .int 0])), (sl, .inr (0, [.int sm, se, .int 0])), (mo, .inr (13, fs))]) (hK : va_K (dC, dI) vwCl [(tE, .object RX3)] s) (hl : lv_has ls 7 [(4, .int 0), (3, .ref out), (2, .ref mo), (1, .ref h0), (0, .ref b)]) : W p l e room_1 s m #[Value.ref b] below meth c H locs 267 364933 (lw_Z below #[Value.ref b] s) (F0 m 232 ls []) := by
  obtain ⟨hx, hb, hr, hml, hown0, hts, hX, hbl, hlocks, hgv⟩ := id C0
  have hown : s.vm.findClass RL = some m.cls := hown0
  have ht : ∀ w ∈ GT, w.before #[Value.ref b] s = true := fun w h => hts w (gt_tbl h)
  obtain ⟨A, hAd⟩ : ∃ A : Nat → Prop, A = (fun q : Nat => s.heap.size ≤ q) := ⟨_, rfl⟩
  rw [← hAd] at hE hS hD
  have hA : ∀ q : Nat, s.heap.size ≤ q → A q := fun q h => by rw [hAd]; exact h
  have hbA : ¬ A b := by rw [hAd]; exact Nat.not_le.mpr hbl
  refine lv_aload_n hx hb dL_law_232 rfl (lv_at hl 3 rfl) ?_
  refine lv_aload_n hx hb dL_law_233 rfl (lv_at hl 4 rfl) ?_
  refine lv_iload hx hb dL_law_234 (lv_at hl 0 rfl) ?_
  refine lv_iconst (v := 1) hx hb dL_law_236 (by decide) ?_
  refine lv_iadd hx hb dL_law_237 ?_
  refine lv_topi (fun x1 ex1 => ?_)
  obtain rfl : x1 = 1 := ex1.trans (by decide)
  refine va_sld hx hb hX hbl hbA hS (vp_in_nI (n := 1) (by decide) (by decide)) dL_law_238 ?_
  refine lv_topi (fun sy2 esy2 => ?_)
  refine lv_aload_n hx hb dL_law_239 rfl (lv_at hl 4 rfl) ?_
  refine lv_iload hx hb dL_law_240 (lv_at hl 0 rfl) ?_
  refine lv_iconst (v := 2) hx hb dL_law_242 (by decide) ?_
  refine lv_iadd hx hb dL_law_243 ?_
  refine lv_topi (fun x3 ex3 => ?_)
  obtain rfl : x3 = 2 := ex3.trans (by decide)
  refine va_sld hx hb hX hbl hbA hS (vp_in_nI (n := 2) (by decide) (by decide)) dL_law_244 ?_
  refine lv_topi (fun sy4 esy4 => ?_)
  refine lv_aload_n hx hb dL_law_245 rfl (lv_at hl 1 rfl) ?_
  have hPc := hP.sub (ws' := [(h0, .inr (12, [.ref fi, tca, .ref ea, .ref sl, tmx, tsv])), (fi, .inr (5, [fna, fla, fv2, fv3, fv4, fv5, .int 0])), (ea, .inl (tE, 2, .inr (.inr (.inr (.inr fE))))), (e0, .inr (4, [.int ei0, ev0_1, ev0_2, ev0_3, ev0_4, ev0_5, ev0_6, .ref ak0])), (e1, .inr (4, [.int ei1, ev1_1, ev1_2, ev1_3, ev1_4, ev1_5, ev1_6, .ref ak1])), (ak0, .inr (0, [.int am0, ae0, .int 0])), (ak1, .inr (0, [.int am1, ae1, .int 0])), (sl, .inr (0, [.int sm, se, .int 0]))]) [0, 1, 2, 3, 4, 5, 6, 7] rfl
  have hDc := hD.sub (ws' := [(h0, .inr (12, [.ref fi, tca, .ref ea, .ref sl, tmx, tsv])), (fi, .inr (5, [fna, fla, fv2, fv3, fv4, fv5, .int 0])), (ea, .inl (tE, 2, .inr (.inr (.inr (.inr fE))))), (e0, .inr (4, [.int ei0, ev0_1, ev0_2, ev0_3, ev0_4, ev0_5, ev0_6, .ref ak0])), (e1, .inr (4, [.int ei1, ev1_1, ev1_2, ev1_3, ev1_4, ev1_5, ev1_6, .ref ak1])), (ak0, .inr (0, [.int am0, ae0, .int 0])), (ak1, .inr (0, [.int am1, ae1, .int 0])), (sl, .inr (0, [.int sm, se, .int 0]))]) [0, 1, 2, 3, 4, 5, 6, 7] (by decide) rfl
  have hKc := hK.sub (tys' := [(tE, .object RX3)]) [0] rfl
  have hFc := freeNil hS hA
  refine vx_calli (vx_runSX (As := [.ref h0, .int sy2, .int sy4, .ref out]) (rest := []) ⟨hx, hb, hml, hown, ht⟩ (k_L_store l hL d0 cO dC dI H.size h0 ea sl tca tmx tsv tE fE sm se fi fna fla fv2 fv3 fv4 fv5 e0 ak0 ei0 am0 ev0_1 ev0_2 ev0_3 ev0_4 ev0_5 ev0_6 ae0 e1 ak1 ei1 am1 ev1_1 ev1_2 ev1_3 ev1_4 ev1_5 ev1_6 ae1 hf0 hf1 sy2 sy4 out) (my_SW ht M_L_store q1118 q1117 (Nat.le_of_ble_eq_true rfl) (Nat.le_of_ble_eq_true rfl)) ⟨PREp.fb, fun U hU hW => ⟨rfl, PREp.mk' hE hS hFc hPc hKc U hU hW⟩⟩ rfl rfl hl.1 rfl (lv_room (Nat.le_of_ble_eq_true rfl)) dL_law_246 ⟨(Nat.le_of_ble_eq_true rfl), (Nat.le_of_ble_eq_true rfl)⟩) hS (fun q _ h => hFc q h) hFc (fun q _ h => hFc q h) (fun E ce q9 ux t H1 locs htt hvm hw hB hz1 hk1 hS hcell hv9 hcl9 => ?_) (fun r6 u5 t H1 locs htt hvm hw hB hz1 hk1 hS => ?_)
  · skip
    exact hB.elim
  · skip
    try dsimp only at hw hB
    have hP1 := hB
    have hP := keepAll hP hk1
    generalize H1 = H at hP hS ⊢
    have hP : va_P (dC, dI) vwCl [(h0, .inr (12, [.ref fi, tca, .ref ea, .ref sl, tmx, tsv])), (fi, .inr (5, [fna, fla, fv2, fv3, fv4, fv5, .int 0])), (ea, .inl (tE, 2, .inr (.inr (.inr (.inr fE))))), (e0, .inr (4, [.int ei0, ev0_1, ev0_2, ev0_3, ev0_4, ev0_5, ev0_6, .ref ak0])), (e1, .inr (4, [.int ei1, ev1_1, ev1_2, ev1_3, ev1_4, ev1_5, ev1_6, .ref ak1])), (ak0, .inr (0, [.int am0, ae0, .int 0])), (ak1, .inr (0, [.int am1, ae1, .int 0])), (sl, .inr (0, [.int sm, se, .int 0])), (mo, .inr (13, fs))] H := hP
    have hD : va_D A [(h0, .inr (12, [.ref fi, tca, .ref ea, .ref sl, tmx, tsv])), (fi, .inr (5, [fna, fla, fv2, fv3, fv4, fv5, .int 0])), (ea, .inl (tE, 2, .inr (.inr (.inr (.inr fE))))), (e0, .inr (4, [.int ei0, ev0_1, ev0_2, ev0_3, ev0_4, ev0_5, ev0_6, .ref ak0])), (e1, .inr (4, [.int ei1, ev1_1, ev1_2, ev1_3, ev1_4, ev1_5, ev1_6, .ref ak1])), (ak0, .inr (0, [.int am0, ae0, .int 0])), (ak1, .inr (0, [.int am1, ae1, .int 0])), (sl, .inr (0, [.int sm, se, .int 0])), (mo, .inr (13, fs))] := hD
    have hK : va_K (dC, dI) vwCl [(tE, .object RX3)] s := hK
    refine W.widen (k := 268) (n := 364939) (Nat.le_of_ble_eq_true rfl) (Nat.le_of_ble_eq_true rfl) ?_
    subst hw
    refine lv_istore (lv' := [(5, .int 1), (4, .int 0), (3, .ref out), (2, .ref mo), (1, .ref h0), (0, .ref b)]) hx hb dL_law_249 hl (by decide) rfl (fun ls hl => ?_)
    refine lv_aload_n hx hb dL_law_251 rfl (lv_at hl 3 rfl) ?_
    refine lv_aload_n hx hb dL_law_252 rfl (lv_at hl 5 rfl) ?_
    refine lv_iload hx hb dL_law_253 (lv_at hl 1 rfl) ?_
    refine lv_iconst (v := 1) hx hb dL_law_255 (by decide) ?_
    refine lv_iadd hx hb dL_law_256 ?_
    refine lv_topi (fun x7 ex7 => ?_)
    obtain rfl : x7 = 1 := ex7.trans (by decide)
    refine va_sld hx hb hX hbl hbA hS (vp_in_nI (n := 1) (by decide) (by decide)) dL_law_257 ?_
    refine lv_topi (fun sy8 esy8 => ?_)
    have hyy : sy2 = sy8 := esy2.trans esy8.symm
    subst hyy
    refine lv_aload_n hx hb dL_law_258 rfl (lv_at hl 5 rfl) ?_
    refine lv_iload hx hb dL_law_259 (lv_at hl 1 rfl) ?_
    refine lv_iconst (v := 2) hx hb dL_law_261 (by decide) ?_
    refine lv_iadd hx hb dL_law_262 ?_
    refine lv_topi (fun x9 ex9 => ?_)
    obtain rfl : x9 = 2 := ex9.trans (by decide)
    refine va_sld hx hb hX hbl hbA hS (vp_in_nI (n := 2) (by decide) (by decide)) dL_law_263 ?_
    refine lv_topi (fun sy10 esy10 => ?_)
    have hyy : sy4 = sy10 := esy4.trans esy10.symm
    subst hyy
    have hPc := hP.sub (ws' := [(mo, .inr (13, fs))]) [8] rfl
    have hDc := hD.sub (ws' := [(mo, .inr (13, fs))]) [8] (by decide) rfl
    have hKc := hK.sub (tys' := []) [] rfl
    have hFc := va_free (wc := [(mo, .inr (13, fs))]) hD hS hA [8] rfl
    refine va_calli (va_runV (As := [.int sy2, .int sy4]) (rest := []) ⟨hx, hb, hml, hown, ht⟩ (k_X12_store l d0 cO dC dI H.size mo sy2 sy4 fs hlen hf_files) (my_V ht M_X12_store q1999 q2000 q1998 (Nat.le_of_ble_eq_true rfl) (Nat.le_of_ble_eq_true rfl)) ⟨PRE.fb, va_recv hK hP (ci := 13) (q0 := 8) rfl rfl, fun U hU hW => ⟨rfl, PRE.mk' hE hS hFc hPc hKc hDc U hU hW⟩⟩ rfl rfl hl.1 rfl (lv_room (Nat.le_of_ble_eq_true rfl)) dL_law_264 ⟨(Nat.le_of_ble_eq_true rfl), (Nat.le_of_ble_eq_true rfl)⟩) hS (fun q _ h => hFc q h) hFc (fun r12 u11 t H1 locs htt hvm hw hB hz1 hk1 hS => ?_)
    obtain ⟨th213, rfl⟩ : ∃ z, z = u11 := ⟨_, rfl⟩
    try dsimp only at hw hB
    obtain ⟨fs214, hx_15, hP1, hK1, hD1⟩ := hB
    rw [htt] at hP1
    have hK1 := va_K.moved hvm.symm hK1
    obtain ⟨hP, hD⟩ := va_join (wr := [(h0, .inr (12, [.ref fi, tca, .ref ea, .ref sl, tmx, tsv])), (fi, .inr (5, [fna, fla, fv2, fv3, fv4, fv5, .int 0])), (ea, .inl (tE, 2, .inr (.inr (.inr (.inr fE))))), (e0, .inr (4, [.int ei0, ev0_1, ev0_2, ev0_3, ev0_4, ev0_5, ev0_6, .ref ak0])), (e1, .inr (4, [.int ei1, ev1_1, ev1_2, ev1_3, ev1_4, ev1_5, ev1_6, .ref ak1])), (ak0, .inr (0, [.int am0, ae0, .int 0])), (ak1, .inr (0, [.int am1, ae1, .int 0])), (sl, .inr (0, [.int sm, se, .int 0]))]) (w1 := [(mo, .inr (13, fs214))]) hP hD [8] [0, 1, 2, 3, 4, 5, 6, 7] rfl rfl (by decide) (by decide) hk1 hFc hP1 hD1
    have hK := (hK.sub (tys' := [(tE, .object RX3)]) [0] rfl).app hK1
    generalize H1 = H at hP hS ⊢
    have hP : va_P (dC, dI) vwCl [(h0, .inr (12, [.ref fi, tca, .ref ea, .ref sl, tmx, tsv])), (fi, .inr (5, [fna, fla, fv2, fv3, fv4, fv5, .int 0])), (ea, .inl (tE, 2, .inr (.inr (.inr (.inr fE))))), (e0, .inr (4, [.int ei0, ev0_1, ev0_2, ev0_3, ev0_4, ev0_5, ev0_6, .ref ak0])), (e1, .inr (4, [.int ei1, ev1_1, ev1_2, ev1_3, ev1_4, ev1_5, ev1_6, .ref ak1])), (ak0, .inr (0, [.int am0, ae0, .int 0])), (ak1, .inr (0, [.int am1, ae1, .int 0])), (sl, .inr (0, [.int sm, se, .int 0])), (mo, .inr (13, fs214))] H := hP
    have hD : va_D A [(h0, .inr (12, [.ref fi, tca, .ref ea, .ref sl, tmx, tsv])), (fi, .inr (5, [fna, fla, fv2, fv3, fv4, fv5, .int 0])), (ea, .inl (tE, 2, .inr (.inr (.inr (.inr fE))))), (e0, .inr (4, [.int ei0, ev0_1, ev0_2, ev0_3, ev0_4, ev0_5, ev0_6, .ref ak0])), (e1, .inr (4, [.int ei1, ev1_1, ev1_2, ev1_3, ev1_4, ev1_5, ev1_6, .ref ak1])), (ak0, .inr (0, [.int am0, ae0, .int 0])), (ak1, .inr (0, [.int am1, ae1, .int 0])), (sl, .inr (0, [.int sm, se, .int 0])), (mo, .inr (13, fs214))] := hD
    have hK : va_K (dC, dI) vwCl [(tE, .object RX3)] s := hK
    refine W.widen (k := 268) (n := 364939) (Nat.le_of_ble_eq_true rfl) (Nat.le_of_ble_eq_true rfl) ?_
    subst hw
    refine lv_istore (lv' := [(6, .int r12), (5, .int 1), (4, .int 0), (3, .ref out), (2, .ref mo), (1, .ref h0), (0, .ref b)]) hx hb dL_law_267 hl (by decide) rfl (fun ls hl => ?_)
    refine lv_aload_n hx hb dL_law_269 rfl (lv_at hl 4 rfl) ?_
    have hPc := hP.sub (ws' := [(mo, .inr (13, fs214))]) [8] rfl
    have hDc := hD.sub (ws' := [(mo, .inr (13, fs214))]) [8] (by decide) rfl
    have hKc := hK.sub (tys' := []) [] rfl
    have hFc := freeNil hS hA
    refine va_calli (va_runV (As := []) (rest := []) ⟨hx, hb, hml, hown, ht⟩ (k2_thrown l d0 cO dC dI H.size mo 1 fs214 hx_15) (my_V ht M_X12_thrown q1976 q1977 q1975 (Nat.le_of_ble_eq_true rfl) (Nat.le_of_ble_eq_true rfl)) ⟨PREp.fb, va_recv hK hP (ci := 13) (q0 := 8) rfl rfl, fun U hU hW => ⟨rfl, PREp.mk' hE hS hFc hPc hKc U hU hW⟩⟩ rfl rfl hl.1 rfl (lv_room (Nat.le_of_ble_eq_true rfl)) dL_law_270 ⟨(Nat.le_of_ble_eq_true rfl), (Nat.le_of_ble_eq_true rfl)⟩) hS (fun q _ h => hFc q h) hFc (fun r17 u16 t H1 locs htt hvm hw hB hz1 hk1 hS => ?_)
    try dsimp only at hw hB
    have hP1 := hB
    have hP := keepAll hP hk1
    generalize H1 = H at hP hS ⊢
    have hP : va_P (dC, dI) vwCl [(h0, .inr (12, [.ref fi, tca, .ref ea, .ref sl, tmx, tsv])), (fi, .inr (5, [fna, fla, fv2, fv3, fv4, fv5, .int 0])), (ea, .inl (tE, 2, .inr (.inr (.inr (.inr fE))))), (e0, .inr (4, [.int ei0, ev0_1, ev0_2, ev0_3, ev0_4, ev0_5, ev0_6, .ref ak0])), (e1, .inr (4, [.int ei1, ev1_1, ev1_2, ev1_3, ev1_4, ev1_5, ev1_6, .ref ak1])), (ak0, .inr (0, [.int am0, ae0, .int 0])), (ak1, .inr (0, [.int am1, ae1, .int 0])), (sl, .inr (0, [.int sm, se, .int 0])), (mo, .inr (13, fs214))] H := hP
    have hD : va_D A [(h0, .inr (12, [.ref fi, tca, .ref ea, .ref sl, tmx, tsv])), (fi, .inr (5, [fna, fla, fv2, fv3, fv4, fv5, .int 0])), (ea, .inl (tE, 2, .inr (.inr (.inr (.inr fE))))), (e0, .inr (4, [.int ei0, ev0_1, ev0_2, ev0_3, ev0_4, ev0_5, ev0_6, .ref ak0])), (e1, .inr (4, [.int ei1, ev1_1, ev1_2, ev1_3, ev1_4, ev1_5, ev1_6, .ref ak1])), (ak0, .inr (0, [.int am0, ae0, .int 0])), (ak1, .inr (0, [.int am1, ae1, .int 0])), (sl, .inr (0, [.int sm, se, .int 0])), (mo, .inr (13, fs214))] := hD
    have hK : va_K (dC, dI) vwCl [(tE, .object RX3)] s := hK
    refine W.widen (k := 268) (n := 364939) (Nat.le_of_ble_eq_true rfl) (Nat.le_of_ble_eq_true rfl) ?_
    subst hw
    refine lv_iload hx hb dL_law_273 (lv_at hl 1 rfl) ?_
    refine lv_icmp_eq (tgt := 280) hx hb dL_law_275 (by decide) (fun c18 => ?_) (fun c18 => False.elim (by revert c18; decide))
    refine lv_iload hx hb dL_law_280 (lv_at hl 1 rfl) ?_
    refine lv_if_ne (tgt := 297) hx hb dL_law_282 (by decide) (fun c19 => ?_) (fun c19 => False.elim (by revert c19; decide))
    refine lv_goto (tgt := 2038) hx hb dL_law_297 (by decide) ?_
    refine lv_iinc (v := 8) (lv' := [(4, .int 8), (6, .int r12), (5, .int 1), (3, .ref out), (2, .ref mo), (1, .ref h0), (0, .ref b)]) hx hb dL_law_2038 hl (k := 2) rfl (by decide) (by decide) rfl (fun ls hl => ?_)
    refine lv_goto (tgt := 23) hx hb dL_law_2041 (by decide) ?_
    refine lv_iload hx hb dL_law_23 (lv_at hl 0 rfl) ?_
    refine lv_aload_n hx hb dL_law_25 rfl (lv_at hl 6 rfl) ?_
    refine va_slen hx hb hX hbl hbA hS dL_law_26 ?_
    refine W.eq (g2 := F0 m 27 ls [.int 8, .int 8]) rfl ?_
    refine lv_bipush (v := 8) hx hb dL_law_27 (by decide) ?_
    refine lv_isub hx hb dL_law_29 ?_
    refine lv_topi (fun x20 ex20 => ?_)
    obtain rfl : x20 = 0 := ex20.trans (by decide)
    refine lv_icmp_gt (tgt := 2044) hx hb dL_law_30 (by decide) (fun c21 => ?_) (fun c21 => False.elim (by revert c21; decide))
    refine lv_iconst (v := 1) hx hb dL_law_2044 (by decide) ?_
    refine W.widen (k := 600002) (n := 7302232) (Nat.le_of_ble_eq_true rfl) (Nat.le_of_ble_eq_true rfl) ?_
    refine va_forget (by have h := hS.2.2; rw [hAd] at h; exact h) ?_
    exact lw_ret hx hb hr hlocks dL_law_2045
set_option maxHeartbeats 4000000 in
set_option maxRecDepth 100000 in
theorem law_name (l : Launch) (hL : l.stackTraces = false) {p : Program} {e : Env} {s : State} {m : MethodId} {below : List Frame} {meth : Method} {c : Code} {b : Nat} {xs : Nat → Int32} {d0 : Nat} {cO : ClassId} {dC : Nat → ClassId} {dI : Nat → Nat → Nat} {H : Heap} {locs : List Loc} {ls : Array Slot} {h0 mo out : Nat} {ea sl : Nat} {tca tmx tsv : Value} {tE : ClassId} {fE : Nat → Option Nat} {sm : Int32} {se : Value} {fi : Nat} {fna fla fv2 fv3 fv4 fv5 : Value} {e0 ak0 : Nat} {ei0 am0 : Int32} {ev0_1 ev0_2 ev0_3 ev0_4 ev0_5 ev0_6 ae0 : Value} {e1 ak1 : Nat} {ei1 am1 : Int32} {ev1_1 ev1_2 ev1_3 ev1_4 ev1_5 ev1_6 ae1 : Value} {fs : List Value} (hf0 : fE 0 = some e0) (hf1 : fE 1 = some e1) (hlen : fs.length = 75) (hf_files : fs[2]? = some (.int 0)) (C0 : lw_At p s m meth c b 8 xs) (hE : EN d0 cO (fun q : Nat => s.heap.size ≤ q) s s.heap) (hS : va_S (fun q : Nat => s.heap.size ≤ q) s.heap H locs) (hP : va_P (dC, dI) vwCl [(h0, .inr (12, [.ref fi, tca, .ref ea, .ref sl, tmx, tsv])), (fi, .inr (5, [fna, fla, fv2, fv3, fv4, fv5, .int 0])), (ea, .inl (tE, 2, .inr (.inr (.inr (.inr fE))))), (e0, .inr (4, [.int ei0, ev0_1, ev0_2, ev0_3, ev0_4, ev0_5, ev0_6, .ref ak0])), (e1, .inr (4, [.int ei1, ev1_1, ev1_2, ev1_3, ev1_4, ev1_5, ev1_6, .ref ak1])), (ak0, .inr (0, [.int am0, ae0, .int 0])), (ak1, .inr (0, [.int am1, ae1, .int 0])), (sl, .inr (0, [.int sm, se, .int 0])), (mo, .inr (13, fs))] H) (hD : va_D (fun q : Nat => s.heap.size ≤ q) [(h0, .inr (12, [.ref fi, tca, .ref ea, .ref sl, tmx, tsv])), (fi, .inr (5, [fna, fla, fv2, fv3, fv4, fv5, .int 0])), (ea, .inl (tE, 2, .inr (.inr (.inr (.inr fE))))), (e0, .inr (4, [.int ei0, ev0_1, ev0_2, ev0_3, ev0_4, ev0_5, ev0_6, .ref ak0])), (e1, .inr (4, [.int ei1, ev1_1, ev1_2, ev1_3, ev1_4, ev1_5, ev1_6, .ref ak1])), (ak0, .inr (0, [.int am0, ae0, .int 0])), (ak1, .inr (0, [.int am1, ae1, .int 0])), (sl, .inr (0, [.int sm, se, .int 0])), (mo, .inr (13, fs))]) (hK : va_K (dC, dI) vwCl [(tE, .object RX3)] s) (hl : lv_has ls 7 [(4, .int 0), (3, .ref out), (2, .ref mo), (1, .ref h0), (0, .ref b)]) : W p l e room_1 s m #[Value.ref b] below meth c H locs 267 364933 (lw_Z below #[Value.ref b] s) (F0 m 380 ls []) := by
  obtain ⟨hx, hb, hr, hml, hown0, hts, hX, hbl, hlocks, hgv⟩ := id C0
  have hown : s.vm.findClass RL = some m.cls := hown0
  have ht : ∀ w ∈ GT, w.before #[Value.ref b] s = true := fun w h => hts w (gt_tbl h)
  obtain ⟨A, hAd⟩ : ∃ A : Nat → Prop, A = (fun q : Nat => s.heap.size ≤ q) := ⟨_, rfl⟩
  rw [← hAd] at hE hS hD
  have hA : ∀ q : Nat, s.heap.size ≤ q → A q := fun q h => by rw [hAd]; exact h
  have hbA : ¬ A b := by rw [hAd]; exact Nat.not_le.mpr hbl
  refine lv_aload_n hx hb dL_law_380 rfl (lv_at hl 3 rfl) ?_
  refine lv_aload_n hx hb dL_law_381 rfl (lv_at hl 4 rfl) ?_
  refine lv_iload hx hb dL_law_382 (lv_at hl 0 rfl) ?_
  refine lv_iconst (v := 1) hx hb dL_law_384 (by decide) ?_
  refine lv_iadd hx hb dL_law_385 ?_
  refine lv_topi (fun x1 ex1 => ?_)
  obtain rfl : x1 = 1 := ex1.trans (by decide)
  refine va_sld hx hb hX hbl hbA hS (vp_in_nI (n := 1) (by decide) (by decide)) dL_law_386 ?_
  refine lv_topi (fun sy2 esy2 => ?_)
  refine lv_aload_n hx hb dL_law_387 rfl (lv_at hl 1 rfl) ?_
  have hPc := hP.sub (ws' := [(h0, .inr (12, [.ref fi, tca, .ref ea, .ref sl, tmx, tsv])), (fi, .inr (5, [fna, fla, fv2, fv3, fv4, fv5, .int 0])), (ea, .inl (tE, 2, .inr (.inr (.inr (.inr fE))))), (e0, .inr (4, [.int ei0, ev0_1, ev0_2, ev0_3, ev0_4, ev0_5, ev0_6, .ref ak0])), (e1, .inr (4, [.int ei1, ev1_1, ev1_2, ev1_3, ev1_4, ev1_5, ev1_6, .ref ak1])), (ak0, .inr (0, [.int am0, ae0, .int 0])), (ak1, .inr (0, [.int am1, ae1, .int 0])), (sl, .inr (0, [.int sm, se, .int 0]))]) [0, 1, 2, 3, 4, 5, 6, 7] rfl
  have hDc := hD.sub (ws' := [(h0, .inr (12, [.ref fi, tca, .ref ea, .ref sl, tmx, tsv])), (fi, .inr (5, [fna, fla, fv2, fv3, fv4, fv5, .int 0])), (ea, .inl (tE, 2, .inr (.inr (.inr (.inr fE))))), (e0, .inr (4, [.int ei0, ev0_1, ev0_2, ev0_3, ev0_4, ev0_5, ev0_6, .ref ak0])), (e1, .inr (4, [.int ei1, ev1_1, ev1_2, ev1_3, ev1_4, ev1_5, ev1_6, .ref ak1])), (ak0, .inr (0, [.int am0, ae0, .int 0])), (ak1, .inr (0, [.int am1, ae1, .int 0])), (sl, .inr (0, [.int sm, se, .int 0]))]) [0, 1, 2, 3, 4, 5, 6, 7] (by decide) rfl
  have hKc := hK.sub (tys' := [(tE, .object RX3)]) [0] rfl
  have hFc := freeNil hS hA
  refine vx_calli (vx_runSX (As := [.ref h0, .int sy2, .ref out]) (rest := []) ⟨hx, hb, hml, hown, ht⟩ (k_L_name l hL d0 cO dC dI H.size h0 ea sl tca tmx tsv tE fE sm se fi fna fla fv2 fv3 fv4 fv5 e0 ak0 ei0 am0 ev0_1 ev0_2 ev0_3 ev0_4 ev0_5 ev0_6 ae0 e1 ak1 ei1 am1 ev1_1 ev1_2 ev1_3 ev1_4 ev1_5 ev1_6 ae1 hf0 hf1 sy2 out) (my_SW ht M_L_name q1240 q1239 (Nat.le_of_ble_eq_true rfl) (Nat.le_of_ble_eq_true rfl)) ⟨PREp.fb, fun U hU hW => ⟨rfl, PREp.mk' hE hS hFc hPc hKc U hU hW⟩⟩ rfl rfl hl.1 rfl (lv_room (Nat.le_of_ble_eq_true rfl)) dL_law_388 ⟨(Nat.le_of_ble_eq_true rfl), (Nat.le_of_ble_eq_true rfl)⟩) hS (fun q _ h => hFc q h) hFc (fun q _ h => hFc q h) (fun E ce q9 ux t H1 locs htt hvm hw hB hz1 hk1 hS hcell hv9 hcl9 => ?_) (fun r4 u3 t H1 locs htt hvm hw hB hz1 hk1 hS => ?_)
  · skip
    exact hB.elim
  · skip
    try dsimp only at hw hB
    have hP1 := hB
    have hP := keepAll hP hk1
    generalize H1 = H at hP hS ⊢
    have hP : va_P (dC, dI) vwCl [(h0, .inr (12, [.ref fi, tca, .ref ea, .ref sl, tmx, tsv])), (fi, .inr (5, [fna, fla, fv2, fv3, fv4, fv5, .int 0])), (ea, .inl (tE, 2, .inr (.inr (.inr (.inr fE))))), (e0, .inr (4, [.int ei0, ev0_1, ev0_2, ev0_3, ev0_4, ev0_5, ev0_6, .ref ak0])), (e1, .inr (4, [.int ei1, ev1_1, ev1_2, ev1_3, ev1_4, ev1_5, ev1_6, .ref ak1])), (ak0, .inr (0, [.int am0, ae0, .int 0])), (ak1, .inr (0, [.int am1, ae1, .int 0])), (sl, .inr (0, [.int sm, se, .int 0])), (mo, .inr (13, fs))] H := hP
    have hD : va_D A [(h0, .inr (12, [.ref fi, tca, .ref ea, .ref sl, tmx, tsv])), (fi, .inr (5, [fna, fla, fv2, fv3, fv4, fv5, .int 0])), (ea, .inl (tE, 2, .inr (.inr (.inr (.inr fE))))), (e0, .inr (4, [.int ei0, ev0_1, ev0_2, ev0_3, ev0_4, ev0_5, ev0_6, .ref ak0])), (e1, .inr (4, [.int ei1, ev1_1, ev1_2, ev1_3, ev1_4, ev1_5, ev1_6, .ref ak1])), (ak0, .inr (0, [.int am0, ae0, .int 0])), (ak1, .inr (0, [.int am1, ae1, .int 0])), (sl, .inr (0, [.int sm, se, .int 0])), (mo, .inr (13, fs))] := hD
    have hK : va_K (dC, dI) vwCl [(tE, .object RX3)] s := hK
    refine W.widen (k := 268) (n := 364939) (Nat.le_of_ble_eq_true rfl) (Nat.le_of_ble_eq_true rfl) ?_
    subst hw
    refine lv_istore (lv' := [(5, .int 1), (4, .int 0), (3, .ref out), (2, .ref mo), (1, .ref h0), (0, .ref b)]) hx hb dL_law_391 hl (by decide) rfl (fun ls hl => ?_)
    refine lv_aload_n hx hb dL_law_393 rfl (lv_at hl 3 rfl) ?_
    refine lv_aload_n hx hb dL_law_394 rfl (lv_at hl 5 rfl) ?_
    refine lv_iload hx hb dL_law_395 (lv_at hl 1 rfl) ?_
    refine lv_iconst (v := 1) hx hb dL_law_397 (by decide) ?_
    refine lv_iadd hx hb dL_law_398 ?_
    refine lv_topi (fun x5 ex5 => ?_)
    obtain rfl : x5 = 1 := ex5.trans (by decide)
    refine va_sld hx hb hX hbl hbA hS (vp_in_nI (n := 1) (by decide) (by decide)) dL_law_399 ?_
    refine lv_topi (fun sy6 esy6 => ?_)
    have hyy : sy2 = sy6 := esy2.trans esy6.symm
    subst hyy
    have hPc := hP.sub (ws' := [(mo, .inr (13, fs))]) [8] rfl
    have hDc := hD.sub (ws' := [(mo, .inr (13, fs))]) [8] (by decide) rfl
    have hKc := hK.sub (tys' := []) [] rfl
    have hFc := va_free (wc := [(mo, .inr (13, fs))]) hD hS hA [8] rfl
    refine va_calli (va_runV (As := [.int sy2]) (rest := []) ⟨hx, hb, hml, hown, ht⟩ (k_X12_name l d0 cO dC dI H.size mo sy2 fs hlen hf_files) (my_V ht M_X12_name q2031 q2032 q2030 (Nat.le_of_ble_eq_true rfl) (Nat.le_of_ble_eq_true rfl)) ⟨PRE.fb, va_recv hK hP (ci := 13) (q0 := 8) rfl rfl, fun U hU hW => ⟨rfl, PRE.mk' hE hS hFc hPc hKc hDc U hU hW⟩⟩ rfl rfl hl.1 rfl (lv_room (Nat.le_of_ble_eq_true rfl)) dL_law_400 ⟨(Nat.le_of_ble_eq_true rfl), (Nat.le_of_ble_eq_true rfl)⟩) hS (fun q _ h => hFc q h) hFc (fun r8 u7 t H1 locs htt hvm hw hB hz1 hk1 hS => ?_)
    obtain ⟨th29, rfl⟩ : ∃ z, z = u7 := ⟨_, rfl⟩
    try dsimp only at hw hB
    obtain ⟨fs210, hx_11, hP1, hK1, hD1⟩ := hB
    rw [htt] at hP1
    have hK1 := va_K.moved hvm.symm hK1
    obtain ⟨hP, hD⟩ := va_join (wr := [(h0, .inr (12, [.ref fi, tca, .ref ea, .ref sl, tmx, tsv])), (fi, .inr (5, [fna, fla, fv2, fv3, fv4, fv5, .int 0])), (ea, .inl (tE, 2, .inr (.inr (.inr (.inr fE))))), (e0, .inr (4, [.int ei0, ev0_1, ev0_2, ev0_3, ev0_4, ev0_5, ev0_6, .ref ak0])), (e1, .inr (4, [.int ei1, ev1_1, ev1_2, ev1_3, ev1_4, ev1_5, ev1_6, .ref ak1])), (ak0, .inr (0, [.int am0, ae0, .int 0])), (ak1, .inr (0, [.int am1, ae1, .int 0])), (sl, .inr (0, [.int sm, se, .int 0]))]) (w1 := [(mo, .inr (13, fs210))]) hP hD [8] [0, 1, 2, 3, 4, 5, 6, 7] rfl rfl (by decide) (by decide) hk1 hFc hP1 hD1
    have hK := (hK.sub (tys' := [(tE, .object RX3)]) [0] rfl).app hK1
    generalize H1 = H at hP hS ⊢
    have hP : va_P (dC, dI) vwCl [(h0, .inr (12, [.ref fi, tca, .ref ea, .ref sl, tmx, tsv])), (fi, .inr (5, [fna, fla, fv2, fv3, fv4, fv5, .int 0])), (ea, .inl (tE, 2, .inr (.inr (.inr (.inr fE))))), (e0, .inr (4, [.int ei0, ev0_1, ev0_2, ev0_3, ev0_4, ev0_5, ev0_6, .ref ak0])), (e1, .inr (4, [.int ei1, ev1_1, ev1_2, ev1_3, ev1_4, ev1_5, ev1_6, .ref ak1])), (ak0, .inr (0, [.int am0, ae0, .int 0])), (ak1, .inr (0, [.int am1, ae1, .int 0])), (sl, .inr (0, [.int sm, se, .int 0])), (mo, .inr (13, fs210))] H := hP
    have hD : va_D A [(h0, .inr (12, [.ref fi, tca, .ref ea, .ref sl, tmx, tsv])), (fi, .inr (5, [fna, fla, fv2, fv3, fv4, fv5, .int 0])), (ea, .inl (tE, 2, .inr (.inr (.inr (.inr fE))))), (e0, .inr (4, [.int ei0, ev0_1, ev0_2, ev0_3, ev0_4, ev0_5, ev0_6, .ref ak0])), (e1, .inr (4, [.int ei1, ev1_1, ev1_2, ev1_3, ev1_4, ev1_5, ev1_6, .ref ak1])), (ak0, .inr (0, [.int am0, ae0, .int 0])), (ak1, .inr (0, [.int am1, ae1, .int 0])), (sl, .inr (0, [.int sm, se, .int 0])), (mo, .inr (13, fs210))] := hD
    have hK : va_K (dC, dI) vwCl [(tE, .object RX3)] s := hK
    refine W.widen (k := 268) (n := 364939) (Nat.le_of_ble_eq_true rfl) (Nat.le_of_ble_eq_true rfl) ?_
    subst hw
    refine lv_istore (lv' := [(6, .int r8), (5, .int 1), (4, .int 0), (3, .ref out), (2, .ref mo), (1, .ref h0), (0, .ref b)]) hx hb dL_law_403 hl (by decide) rfl (fun ls hl => ?_)
    refine lv_aload_n hx hb dL_law_405 rfl (lv_at hl 4 rfl) ?_
    have hPc := hP.sub (ws' := [(mo, .inr (13, fs210))]) [8] rfl
    have hDc := hD.sub (ws' := [(mo, .inr (13, fs210))]) [8] (by decide) rfl
    have hKc := hK.sub (tys' := []) [] rfl
    have hFc := freeNil hS hA
    refine va_calli (va_runV (As := []) (rest := []) ⟨hx, hb, hml, hown, ht⟩ (k2_thrown l d0 cO dC dI H.size mo 1 fs210 hx_11) (my_V ht M_X12_thrown q1976 q1977 q1975 (Nat.le_of_ble_eq_true rfl) (Nat.le_of_ble_eq_true rfl)) ⟨PREp.fb, va_recv hK hP (ci := 13) (q0 := 8) rfl rfl, fun U hU hW => ⟨rfl, PREp.mk' hE hS hFc hPc hKc U hU hW⟩⟩ rfl rfl hl.1 rfl (lv_room (Nat.le_of_ble_eq_true rfl)) dL_law_406 ⟨(Nat.le_of_ble_eq_true rfl), (Nat.le_of_ble_eq_true rfl)⟩) hS (fun q _ h => hFc q h) hFc (fun r13 u12 t H1 locs htt hvm hw hB hz1 hk1 hS => ?_)
    try dsimp only at hw hB
    have hP1 := hB
    have hP := keepAll hP hk1
    generalize H1 = H at hP hS ⊢
    have hP : va_P (dC, dI) vwCl [(h0, .inr (12, [.ref fi, tca, .ref ea, .ref sl, tmx, tsv])), (fi, .inr (5, [fna, fla, fv2, fv3, fv4, fv5, .int 0])), (ea, .inl (tE, 2, .inr (.inr (.inr (.inr fE))))), (e0, .inr (4, [.int ei0, ev0_1, ev0_2, ev0_3, ev0_4, ev0_5, ev0_6, .ref ak0])), (e1, .inr (4, [.int ei1, ev1_1, ev1_2, ev1_3, ev1_4, ev1_5, ev1_6, .ref ak1])), (ak0, .inr (0, [.int am0, ae0, .int 0])), (ak1, .inr (0, [.int am1, ae1, .int 0])), (sl, .inr (0, [.int sm, se, .int 0])), (mo, .inr (13, fs210))] H := hP
    have hD : va_D A [(h0, .inr (12, [.ref fi, tca, .ref ea, .ref sl, tmx, tsv])), (fi, .inr (5, [fna, fla, fv2, fv3, fv4, fv5, .int 0])), (ea, .inl (tE, 2, .inr (.inr (.inr (.inr fE))))), (e0, .inr (4, [.int ei0, ev0_1, ev0_2, ev0_3, ev0_4, ev0_5, ev0_6, .ref ak0])), (e1, .inr (4, [.int ei1, ev1_1, ev1_2, ev1_3, ev1_4, ev1_5, ev1_6, .ref ak1])), (ak0, .inr (0, [.int am0, ae0, .int 0])), (ak1, .inr (0, [.int am1, ae1, .int 0])), (sl, .inr (0, [.int sm, se, .int 0])), (mo, .inr (13, fs210))] := hD
    have hK : va_K (dC, dI) vwCl [(tE, .object RX3)] s := hK
    refine W.widen (k := 268) (n := 364939) (Nat.le_of_ble_eq_true rfl) (Nat.le_of_ble_eq_true rfl) ?_
    subst hw
    refine lv_iload hx hb dL_law_409 (lv_at hl 1 rfl) ?_
    refine lv_icmp_eq (tgt := 416) hx hb dL_law_411 (by decide) (fun c14 => ?_) (fun c14 => False.elim (by revert c14; decide))
    refine lv_iload hx hb dL_law_416 (lv_at hl 1 rfl) ?_
    refine lv_if_ne (tgt := 433) hx hb dL_law_418 (by decide) (fun c15 => ?_) (fun c15 => False.elim (by revert c15; decide))
    refine lv_goto (tgt := 2038) hx hb dL_law_433 (by decide) ?_
    refine lv_iinc (v := 8) (lv' := [(4, .int 8), (6, .int r8), (5, .int 1), (3, .ref out), (2, .ref mo), (1, .ref h0), (0, .ref b)]) hx hb dL_law_2038 hl (k := 2) rfl (by decide) (by decide) rfl (fun ls hl => ?_)
    refine lv_goto (tgt := 23) hx hb dL_law_2041 (by decide) ?_
    refine lv_iload hx hb dL_law_23 (lv_at hl 0 rfl) ?_
    refine lv_aload_n hx hb dL_law_25 rfl (lv_at hl 6 rfl) ?_
    refine va_slen hx hb hX hbl hbA hS dL_law_26 ?_
    refine W.eq (g2 := F0 m 27 ls [.int 8, .int 8]) rfl ?_
    refine lv_bipush (v := 8) hx hb dL_law_27 (by decide) ?_
    refine lv_isub hx hb dL_law_29 ?_
    refine lv_topi (fun x16 ex16 => ?_)
    obtain rfl : x16 = 0 := ex16.trans (by decide)
    refine lv_icmp_gt (tgt := 2044) hx hb dL_law_30 (by decide) (fun c17 => ?_) (fun c17 => False.elim (by revert c17; decide))
    refine lv_iconst (v := 1) hx hb dL_law_2044 (by decide) ?_
    refine W.widen (k := 600002) (n := 7302232) (Nat.le_of_ble_eq_true rfl) (Nat.le_of_ble_eq_true rfl) ?_
    refine va_forget (by have h := hS.2.2; rw [hAd] at h; exact h) ?_
    exact lw_ret hx hb hr hlocks dL_law_2045
set_option maxHeartbeats 4000000 in
set_option maxRecDepth 100000 in
theorem law_open (l : Launch) (hL : l.stackTraces = false) {p : Program} {e : Env} {s : State} {m : MethodId} {below : List Frame} {meth : Method} {c : Code} {b : Nat} {xs : Nat → Int32} {d0 : Nat} {cO : ClassId} {dC : Nat → ClassId} {dI : Nat → Nat → Nat} {H : Heap} {locs : List Loc} {ls : Array Slot} {h0 mo out : Nat} {ea sl : Nat} {tca tmx tsv : Value} {tE : ClassId} {fE : Nat → Option Nat} {sm : Int32} {se : Value} {fi : Nat} {fna fla fv2 fv3 fv4 fv5 : Value} {e0 ak0 : Nat} {ei0 am0 : Int32} {ev0_1 ev0_2 ev0_3 ev0_4 ev0_5 ev0_6 ae0 : Value} {e1 ak1 : Nat} {ei1 am1 : Int32} {ev1_1 ev1_2 ev1_3 ev1_4 ev1_5 ev1_6 ae1 : Value} {fs : List Value} (hf0 : fE 0 = some e0) (hf1 : fE 1 = some e1) (hlen : fs.length = 75) (hf_files : fs[2]? = some (.int 0)) (C0 : lw_At p s m meth c b 8 xs) (hE : EN d0 cO (fun q : Nat => s.heap.size ≤ q) s s.heap) (hS : va_S (fun q : Nat => s.heap.size ≤ q) s.heap H locs) (hP : va_P (dC, dI) vwCl [(h0, .inr (12, [.ref fi, tca, .ref ea, .ref sl, tmx, tsv])), (fi, .inr (5, [fna, fla, fv2, fv3, fv4, fv5, .int 0])), (ea, .inl (tE, 2, .inr (.inr (.inr (.inr fE))))), (e0, .inr (4, [.int ei0, ev0_1, ev0_2, ev0_3, ev0_4, ev0_5, ev0_6, .ref ak0])), (e1, .inr (4, [.int ei1, ev1_1, ev1_2, ev1_3, ev1_4, ev1_5, ev1_6, .ref ak1])), (ak0, .inr (0, [.int am0, ae0, .int 0])), (ak1, .inr (0, [.int am1, ae1, .int 0])), (sl, .inr (0, [.int sm, se, .int 0])), (mo, .inr (13, fs))] H) (hD : va_D (fun q : Nat => s.heap.size ≤ q) [(h0, .inr (12, [.ref fi, tca, .ref ea, .ref sl, tmx, tsv])), (fi, .inr (5, [fna, fla, fv2, fv3, fv4, fv5, .int 0])), (ea, .inl (tE, 2, .inr (.inr (.inr (.inr fE))))), (e0, .inr (4, [.int ei0, ev0_1, ev0_2, ev0_3, ev0_4, ev0_5, ev0_6, .ref ak0])), (e1, .inr (4, [.int ei1, ev1_1, ev1_2, ev1_3, ev1_4, ev1_5, ev1_6, .ref ak1])), (ak0, .inr (0, [.int am0, ae0, .int 0])), (ak1, .inr (0, [.int am1, ae1, .int 0])), (sl, .inr (0, [.int sm, se, .int 0])), (mo, .inr (13, fs))]) (hK : va_K (dC, dI) vwCl [(tE, .object RX3)] s) (hl : lv_has ls 7 [(4, .int 0), (3, .ref out), (2, .ref mo), (1, .ref h0), (0, .ref b)]) : W p l e room_1 s m #[Value.ref b] below meth c H locs 267 364933 (lw_Z below #[Value.ref b] s) (F0 m 436 ls []) := by
  obtain ⟨hx, hb, hr, hml, hown0, hts, hX, hbl, hlocks, hgv⟩ := id C0
  have hown : s.vm.findClass RL = some m.cls := hown0
  have ht : ∀ w ∈ GT, w.before #[Value.ref b] s = true := fun w h => hts w (gt_tbl h)
  obtain ⟨A, hAd⟩ : ∃ A : Nat → Prop, A = (fun q : Nat => s.heap.size ≤ q) := ⟨_, rfl⟩
  rw [← hAd] at hE hS hD
  have hA : ∀ q : Nat, s.heap.size ≤ q → A q := fun q h => by rw [hAd]; exact h
  have hbA : ¬ A b := by rw [hAd]; exact Nat.not_le.mpr hbl
  refine lv_aload_n hx hb dL_law_436 rfl (lv_at hl 3 rfl) ?_
  refine lv_aload_n hx hb dL_law_437 rfl (lv_at hl 4 rfl) ?_
  refine lv_iload hx hb dL_law_438 (lv_at hl 0 rfl) ?_
  refine lv_iconst (v := 1) hx hb dL_law_440 (by decide) ?_
  refine lv_iadd hx hb dL_law_441 ?_
  refine lv_topi (fun x1 ex1 => ?_)
  obtain rfl : x1 = 1 := ex1.trans (by decide)
  refine va_sld hx hb hX hbl hbA hS (vp_in_nI (n := 1) (by decide) (by decide)) dL_law_442 ?_
  refine lv_topi (fun sy2 esy2 => ?_)
  refine lv_aload_n hx hb dL_law_443 rfl (lv_at hl 4 rfl) ?_
  refine lv_iload hx hb dL_law_444 (lv_at hl 0 rfl) ?_
  refine lv_iconst (v := 2) hx hb dL_law_446 (by decide) ?_
  refine lv_iadd hx hb dL_law_447 ?_
  refine lv_topi (fun x3 ex3 => ?_)
  obtain rfl : x3 = 2 := ex3.trans (by decide)
  refine va_sld hx hb hX hbl hbA hS (vp_in_nI (n := 2) (by decide) (by decide)) dL_law_448 ?_
  refine lv_topi (fun sy4 esy4 => ?_)
  refine lv_aload_n hx hb dL_law_449 rfl (lv_at hl 1 rfl) ?_
  have hPc := hP.sub (ws' := [(h0, .inr (12, [.ref fi, tca, .ref ea, .ref sl, tmx, tsv])), (fi, .inr (5, [fna, fla, fv2, fv3, fv4, fv5, .int 0])), (ea, .inl (tE, 2, .inr (.inr (.inr (.inr fE))))), (e0, .inr (4, [.int ei0, ev0_1, ev0_2, ev0_3, ev0_4, ev0_5, ev0_6, .ref ak0])), (e1, .inr (4, [.int ei1, ev1_1, ev1_2, ev1_3, ev1_4, ev1_5, ev1_6, .ref ak1])), (ak0, .inr (0, [.int am0, ae0, .int 0])), (ak1, .inr (0, [.int am1, ae1, .int 0])), (sl, .inr (0, [.int sm, se, .int 0]))]) [0, 1, 2, 3, 4, 5, 6, 7] rfl
  have hDc := hD.sub (ws' := [(h0, .inr (12, [.ref fi, tca, .ref ea, .ref sl, tmx, tsv])), (fi, .inr (5, [fna, fla, fv2, fv3, fv4, fv5, .int 0])), (ea, .inl (tE, 2, .inr (.inr (.inr (.inr fE))))), (e0, .inr (4, [.int ei0, ev0_1, ev0_2, ev0_3, ev0_4, ev0_5, ev0_6, .ref ak0])), (e1, .inr (4, [.int ei1, ev1_1, ev1_2, ev1_3, ev1_4, ev1_5, ev1_6, .ref ak1])), (ak0, .inr (0, [.int am0, ae0, .int 0])), (ak1, .inr (0, [.int am1, ae1, .int 0])), (sl, .inr (0, [.int sm, se, .int 0]))]) [0, 1, 2, 3, 4, 5, 6, 7] (by decide) rfl
  have hKc := hK.sub (tys' := [(tE, .object RX3)]) [0] rfl
  have hFc := freeNil hS hA
  refine vx_calli (vx_runSX (As := [.ref h0, .int sy2, .int sy4, .ref out]) (rest := []) ⟨hx, hb, hml, hown, ht⟩ (k_L_open l hL d0 cO dC dI H.size h0 ea sl tca tmx tsv tE fE sm se fi fna fla fv2 fv3 fv4 fv5 e0 ak0 ei0 am0 ev0_1 ev0_2 ev0_3 ev0_4 ev0_5 ev0_6 ae0 e1 ak1 ei1 am1 ev1_1 ev1_2 ev1_3 ev1_4 ev1_5 ev1_6 ae1 hf0 hf1 sy2 sy4 out) (my_SW ht M_L_open q1251 q1250 (Nat.le_of_ble_eq_true rfl) (Nat.le_of_ble_eq_true rfl)) ⟨PREp.fb, fun U hU hW => ⟨rfl, PREp.mk' hE hS hFc hPc hKc U hU hW⟩⟩ rfl rfl hl.1 rfl (lv_room (Nat.le_of_ble_eq_true rfl)) dL_law_450 ⟨(Nat.le_of_ble_eq_true rfl), (Nat.le_of_ble_eq_true rfl)⟩) hS (fun q _ h => hFc q h) hFc (fun q _ h => hFc q h) (fun E ce q9 ux t H1 locs htt hvm hw hB hz1 hk1 hS hcell hv9 hcl9 => ?_) (fun r6 u5 t H1 locs htt hvm hw hB hz1 hk1 hS => ?_)
  · skip
    exact hB.elim
  · skip
    try dsimp only at hw hB
    have hP1 := hB
    have hP := keepAll hP hk1
    generalize H1 = H at hP hS ⊢
    have hP : va_P (dC, dI) vwCl [(h0, .inr (12, [.ref fi, tca, .ref ea, .ref sl, tmx, tsv])), (fi, .inr (5, [fna, fla, fv2, fv3, fv4, fv5, .int 0])), (ea, .inl (tE, 2, .inr (.inr (.inr (.inr fE))))), (e0, .inr (4, [.int ei0, ev0_1, ev0_2, ev0_3, ev0_4, ev0_5, ev0_6, .ref ak0])), (e1, .inr (4, [.int ei1, ev1_1, ev1_2, ev1_3, ev1_4, ev1_5, ev1_6, .ref ak1])), (ak0, .inr (0, [.int am0, ae0, .int 0])), (ak1, .inr (0, [.int am1, ae1, .int 0])), (sl, .inr (0, [.int sm, se, .int 0])), (mo, .inr (13, fs))] H := hP
    have hD : va_D A [(h0, .inr (12, [.ref fi, tca, .ref ea, .ref sl, tmx, tsv])), (fi, .inr (5, [fna, fla, fv2, fv3, fv4, fv5, .int 0])), (ea, .inl (tE, 2, .inr (.inr (.inr (.inr fE))))), (e0, .inr (4, [.int ei0, ev0_1, ev0_2, ev0_3, ev0_4, ev0_5, ev0_6, .ref ak0])), (e1, .inr (4, [.int ei1, ev1_1, ev1_2, ev1_3, ev1_4, ev1_5, ev1_6, .ref ak1])), (ak0, .inr (0, [.int am0, ae0, .int 0])), (ak1, .inr (0, [.int am1, ae1, .int 0])), (sl, .inr (0, [.int sm, se, .int 0])), (mo, .inr (13, fs))] := hD
    have hK : va_K (dC, dI) vwCl [(tE, .object RX3)] s := hK
    refine W.widen (k := 269) (n := 364945) (Nat.le_of_ble_eq_true rfl) (Nat.le_of_ble_eq_true rfl) ?_
    subst hw
    refine lv_istore (lv' := [(5, .int 1), (4, .int 0), (3, .ref out), (2, .ref mo), (1, .ref h0), (0, .ref b)]) hx hb dL_law_453 hl (by decide) rfl (fun ls hl => ?_)
    refine lv_aload_n hx hb dL_law_455 rfl (lv_at hl 3 rfl) ?_
    refine lv_aload_n hx hb dL_law_456 rfl (lv_at hl 5 rfl) ?_
    refine lv_iload hx hb dL_law_457 (lv_at hl 1 rfl) ?_
    refine lv_iconst (v := 1) hx hb dL_law_459 (by decide) ?_
    refine lv_iadd hx hb dL_law_460 ?_
    refine lv_topi (fun x7 ex7 => ?_)
    obtain rfl : x7 = 1 := ex7.trans (by decide)
    refine va_sld hx hb hX hbl hbA hS (vp_in_nI (n := 1) (by decide) (by decide)) dL_law_461 ?_
    refine lv_topi (fun sy8 esy8 => ?_)
    have hyy : sy2 = sy8 := esy2.trans esy8.symm
    subst hyy
    refine lv_aload_n hx hb dL_law_462 rfl (lv_at hl 5 rfl) ?_
    refine lv_iload hx hb dL_law_463 (lv_at hl 1 rfl) ?_
    refine lv_iconst (v := 2) hx hb dL_law_465 (by decide) ?_
    refine lv_iadd hx hb dL_law_466 ?_
    refine lv_topi (fun x9 ex9 => ?_)
    obtain rfl : x9 = 2 := ex9.trans (by decide)
    refine va_sld hx hb hX hbl hbA hS (vp_in_nI (n := 2) (by decide) (by decide)) dL_law_467 ?_
    refine lv_topi (fun sy10 esy10 => ?_)
    have hyy : sy4 = sy10 := esy4.trans esy10.symm
    subst hyy
    have hPc := hP.sub (ws' := [(mo, .inr (13, fs))]) [8] rfl
    have hDc := hD.sub (ws' := [(mo, .inr (13, fs))]) [8] (by decide) rfl
    have hKc := hK.sub (tys' := []) [] rfl
    have hFc := va_free (wc := [(mo, .inr (13, fs))]) hD hS hA [8] rfl
    refine va_calli (va_runV (As := [.int sy2, .int sy4]) (rest := []) ⟨hx, hb, hml, hown, ht⟩ (k_X12_open l d0 cO dC dI H.size mo sy2 sy4 fs hlen hf_files) (my_V ht M_X12_open q2035 q2036 q2034 (Nat.le_of_ble_eq_true rfl) (Nat.le_of_ble_eq_true rfl)) ⟨PRE.fb, va_recv hK hP (ci := 13) (q0 := 8) rfl rfl, fun U hU hW => ⟨rfl, PRE.mk' hE hS hFc hPc hKc hDc U hU hW⟩⟩ rfl rfl hl.1 rfl (lv_room (Nat.le_of_ble_eq_true rfl)) dL_law_468 ⟨(Nat.le_of_ble_eq_true rfl), (Nat.le_of_ble_eq_true rfl)⟩) hS (fun q _ h => hFc q h) hFc (fun r12 u11 t H1 locs htt hvm hw hB hz1 hk1 hS => ?_)
    obtain ⟨th213, rfl⟩ : ∃ z, z = u11 := ⟨_, rfl⟩
    try dsimp only at hw hB
    obtain ⟨fs214, hx_15, hP1, hK1, hD1⟩ := hB
    rw [htt] at hP1
    have hK1 := va_K.moved hvm.symm hK1
    obtain ⟨hP, hD⟩ := va_join (wr := [(h0, .inr (12, [.ref fi, tca, .ref ea, .ref sl, tmx, tsv])), (fi, .inr (5, [fna, fla, fv2, fv3, fv4, fv5, .int 0])), (ea, .inl (tE, 2, .inr (.inr (.inr (.inr fE))))), (e0, .inr (4, [.int ei0, ev0_1, ev0_2, ev0_3, ev0_4, ev0_5, ev0_6, .ref ak0])), (e1, .inr (4, [.int ei1, ev1_1, ev1_2, ev1_3, ev1_4, ev1_5, ev1_6, .ref ak1])), (ak0, .inr (0, [.int am0, ae0, .int 0])), (ak1, .inr (0, [.int am1, ae1, .int 0])), (sl, .inr (0, [.int sm, se, .int 0]))]) (w1 := [(mo, .inr (13, fs214))]) hP hD [8] [0, 1, 2, 3, 4, 5, 6, 7] rfl rfl (by decide) (by decide) hk1 hFc hP1 hD1
    have hK := (hK.sub (tys' := [(tE, .object RX3)]) [0] rfl).app hK1
    generalize H1 = H at hP hS ⊢
    have hP : va_P (dC, dI) vwCl [(h0, .inr (12, [.ref fi, tca, .ref ea, .ref sl, tmx, tsv])), (fi, .inr (5, [fna, fla, fv2, fv3, fv4, fv5, .int 0])), (ea, .inl (tE, 2, .inr (.inr (.inr (.inr fE))))), (e0, .inr (4, [.int ei0, ev0_1, ev0_2, ev0_3, ev0_4, ev0_5, ev0_6, .ref ak0])), (e1, .inr (4, [.int ei1, ev1_1, ev1_2, ev1_3, ev1_4, ev1_5, ev1_6, .ref ak1])), (ak0, .inr (0, [.int am0, ae0, .int 0])), (ak1, .inr (0, [.int am1, ae1, .int 0])), (sl, .inr (0, [.int sm, se, .int 0])), (mo, .inr (13, fs214))] H := hP
    have hD : va_D A [(h0, .inr (12, [.ref fi, tca, .ref ea, .ref sl, tmx, tsv])), (fi, .inr (5, [fna, fla, fv2, fv3, fv4, fv5, .int 0])), (ea, .inl (tE, 2, .inr (.inr (.inr (.inr fE))))), (e0, .inr (4, [.int ei0, ev0_1, ev0_2, ev0_3, ev0_4, ev0_5, ev0_6, .ref ak0])), (e1, .inr (4, [.int ei1, ev1_1, ev1_2, ev1_3, ev1_4, ev1_5, ev1_6, .ref ak1])), (ak0, .inr (0, [.int am0, ae0, .int 0])), (ak1, .inr (0, [.int am1, ae1, .int 0])), (sl, .inr (0, [.int sm, se, .int 0])), (mo, .inr (13, fs214))] := hD
    have hK : va_K (dC, dI) vwCl [(tE, .object RX3)] s := hK
    refine W.widen (k := 269) (n := 364945) (Nat.le_of_ble_eq_true rfl) (Nat.le_of_ble_eq_true rfl) ?_
    subst hw
    refine lv_istore (lv' := [(6, .int r12), (5, .int 1), (4, .int 0), (3, .ref out), (2, .ref mo), (1, .ref h0), (0, .ref b)]) hx hb dL_law_471 hl (by decide) rfl (fun ls hl => ?_)
    refine lv_aload_n hx hb dL_law_473 rfl (lv_at hl 4 rfl) ?_
    have hPc := hP.sub (ws' := [(mo, .inr (13, fs214))]) [8] rfl
    have hDc := hD.sub (ws' := [(mo, .inr (13, fs214))]) [8] (by decide) rfl
    have hKc := hK.sub (tys' := []) [] rfl
    have hFc := freeNil hS hA
    refine va_calli (va_runV (As := []) (rest := []) ⟨hx, hb, hml, hown, ht⟩ (k2_thrown l d0 cO dC dI H.size mo 1 fs214 hx_15) (my_V ht M_X12_thrown q1976 q1977 q1975 (Nat.le_of_ble_eq_true rfl) (Nat.le_of_ble_eq_true rfl)) ⟨PREp.fb, va_recv hK hP (ci := 13) (q0 := 8) rfl rfl, fun U hU hW => ⟨rfl, PREp.mk' hE hS hFc hPc hKc U hU hW⟩⟩ rfl rfl hl.1 rfl (lv_room (Nat.le_of_ble_eq_true rfl)) dL_law_474 ⟨(Nat.le_of_ble_eq_true rfl), (Nat.le_of_ble_eq_true rfl)⟩) hS (fun q _ h => hFc q h) hFc (fun r17 u16 t H1 locs htt hvm hw hB hz1 hk1 hS => ?_)
    try dsimp only at hw hB
    have hP1 := hB
    have hP := keepAll hP hk1
    generalize H1 = H at hP hS ⊢
    have hP : va_P (dC, dI) vwCl [(h0, .inr (12, [.ref fi, tca, .ref ea, .ref sl, tmx, tsv])), (fi, .inr (5, [fna, fla, fv2, fv3, fv4, fv5, .int 0])), (ea, .inl (tE, 2, .inr (.inr (.inr (.inr fE))))), (e0, .inr (4, [.int ei0, ev0_1, ev0_2, ev0_3, ev0_4, ev0_5, ev0_6, .ref ak0])), (e1, .inr (4, [.int ei1, ev1_1, ev1_2, ev1_3, ev1_4, ev1_5, ev1_6, .ref ak1])), (ak0, .inr (0, [.int am0, ae0, .int 0])), (ak1, .inr (0, [.int am1, ae1, .int 0])), (sl, .inr (0, [.int sm, se, .int 0])), (mo, .inr (13, fs214))] H := hP
    have hD : va_D A [(h0, .inr (12, [.ref fi, tca, .ref ea, .ref sl, tmx, tsv])), (fi, .inr (5, [fna, fla, fv2, fv3, fv4, fv5, .int 0])), (ea, .inl (tE, 2, .inr (.inr (.inr (.inr fE))))), (e0, .inr (4, [.int ei0, ev0_1, ev0_2, ev0_3, ev0_4, ev0_5, ev0_6, .ref ak0])), (e1, .inr (4, [.int ei1, ev1_1, ev1_2, ev1_3, ev1_4, ev1_5, ev1_6, .ref ak1])), (ak0, .inr (0, [.int am0, ae0, .int 0])), (ak1, .inr (0, [.int am1, ae1, .int 0])), (sl, .inr (0, [.int sm, se, .int 0])), (mo, .inr (13, fs214))] := hD
    have hK : va_K (dC, dI) vwCl [(tE, .object RX3)] s := hK
    refine W.widen (k := 269) (n := 364945) (Nat.le_of_ble_eq_true rfl) (Nat.le_of_ble_eq_true rfl) ?_
    subst hw
    refine lv_iload hx hb dL_law_477 (lv_at hl 1 rfl) ?_
    refine lv_icmp_eq (tgt := 484) hx hb dL_law_479 (by decide) (fun c18 => ?_) (fun c18 => False.elim (by revert c18; decide))
    refine lv_iload hx hb dL_law_484 (lv_at hl 1 rfl) ?_
    refine lv_if_ne (tgt := 501) hx hb dL_law_486 (by decide) (fun c19 => ?_) (fun c19 => False.elim (by revert c19; decide))
    refine lv_goto (tgt := 2038) hx hb dL_law_501 (by decide) ?_
    refine lv_iinc (v := 8) (lv' := [(4, .int 8), (6, .int r12), (5, .int 1), (3, .ref out), (2, .ref mo), (1, .ref h0), (0, .ref b)]) hx hb dL_law_2038 hl (k := 2) rfl (by decide) (by decide) rfl (fun ls hl => ?_)
    refine lv_goto (tgt := 23) hx hb dL_law_2041 (by decide) ?_
    refine lv_iload hx hb dL_law_23 (lv_at hl 0 rfl) ?_
    refine lv_aload_n hx hb dL_law_25 rfl (lv_at hl 6 rfl) ?_
    refine va_slen hx hb hX hbl hbA hS dL_law_26 ?_
    refine W.eq (g2 := F0 m 27 ls [.int 8, .int 8]) rfl ?_
    refine lv_bipush (v := 8) hx hb dL_law_27 (by decide) ?_
    refine lv_isub hx hb dL_law_29 ?_
    refine lv_topi (fun x20 ex20 => ?_)
    obtain rfl : x20 = 0 := ex20.trans (by decide)
    refine lv_icmp_gt (tgt := 2044) hx hb dL_law_30 (by decide) (fun c21 => ?_) (fun c21 => False.elim (by revert c21; decide))
    refine lv_iconst (v := 1) hx hb dL_law_2044 (by decide) ?_
    refine W.widen (k := 600002) (n := 7302232) (Nat.le_of_ble_eq_true rfl) (Nat.le_of_ble_eq_true rfl) ?_
    refine va_forget (by have h := hS.2.2; rw [hAd] at h; exact h) ?_
    exact lw_ret hx hb hr hlocks dL_law_2045
set_option maxHeartbeats 4000000 in
set_option maxRecDepth 100000 in
theorem law_close (l : Launch) (hL : l.stackTraces = false) {p : Program} {e : Env} {s : State} {m : MethodId} {below : List Frame} {meth : Method} {c : Code} {b : Nat} {xs : Nat → Int32} {d0 : Nat} {cO : ClassId} {dC : Nat → ClassId} {dI : Nat → Nat → Nat} {H : Heap} {locs : List Loc} {ls : Array Slot} {h0 mo out : Nat} {ea sl : Nat} {tca tmx tsv : Value} {tE : ClassId} {fE : Nat → Option Nat} {sm : Int32} {se : Value} {fi : Nat} {fna fla fv2 fv3 fv4 fv5 : Value} {e0 ak0 : Nat} {ei0 am0 : Int32} {ev0_1 ev0_2 ev0_3 ev0_4 ev0_5 ev0_6 ae0 : Value} {e1 ak1 : Nat} {ei1 am1 : Int32} {ev1_1 ev1_2 ev1_3 ev1_4 ev1_5 ev1_6 ae1 : Value} {fs : List Value} (hf0 : fE 0 = some e0) (hf1 : fE 1 = some e1) (hlen : fs.length = 75) (hf_files : fs[2]? = some (.int 0)) (C0 : lw_At p s m meth c b 8 xs) (hE : EN d0 cO (fun q : Nat => s.heap.size ≤ q) s s.heap) (hS : va_S (fun q : Nat => s.heap.size ≤ q) s.heap H locs) (hP : va_P (dC, dI) vwCl [(h0, .inr (12, [.ref fi, tca, .ref ea, .ref sl, tmx, tsv])), (fi, .inr (5, [fna, fla, fv2, fv3, fv4, fv5, .int 0])), (ea, .inl (tE, 2, .inr (.inr (.inr (.inr fE))))), (e0, .inr (4, [.int ei0, ev0_1, ev0_2, ev0_3, ev0_4, ev0_5, ev0_6, .ref ak0])), (e1, .inr (4, [.int ei1, ev1_1, ev1_2, ev1_3, ev1_4, ev1_5, ev1_6, .ref ak1])), (ak0, .inr (0, [.int am0, ae0, .int 0])), (ak1, .inr (0, [.int am1, ae1, .int 0])), (sl, .inr (0, [.int sm, se, .int 0])), (mo, .inr (13, fs))] H) (hD : va_D (fun q : Nat => s.heap.size ≤ q) [(h0, .inr (12, [.ref fi, tca, .ref ea, .ref sl, tmx, tsv])), (fi, .inr (5, [fna, fla, fv2, fv3, fv4, fv5, .int 0])), (ea, .inl (tE, 2, .inr (.inr (.inr (.inr fE))))), (e0, .inr (4, [.int ei0, ev0_1, ev0_2, ev0_3, ev0_4, ev0_5, ev0_6, .ref ak0])), (e1, .inr (4, [.int ei1, ev1_1, ev1_2, ev1_3, ev1_4, ev1_5, ev1_6, .ref ak1])), (ak0, .inr (0, [.int am0, ae0, .int 0])), (ak1, .inr (0, [.int am1, ae1, .int 0])), (sl, .inr (0, [.int sm, se, .int 0])), (mo, .inr (13, fs))]) (hK : va_K (dC, dI) vwCl [(tE, .object RX3)] s) (hl : lv_has ls 7 [(4, .int 0), (3, .ref out), (2, .ref mo), (1, .ref h0), (0, .ref b)]) : W p l e room_1 s m #[Value.ref b] below meth c H locs 267 364933 (lw_Z below #[Value.ref b] s) (F0 m 504 ls []) := by
  obtain ⟨hx, hb, hr, hml, hown0, hts, hX, hbl, hlocks, hgv⟩ := id C0
  have hown : s.vm.findClass RL = some m.cls := hown0
  have ht : ∀ w ∈ GT, w.before #[Value.ref b] s = true := fun w h => hts w (gt_tbl h)
  obtain ⟨A, hAd⟩ : ∃ A : Nat → Prop, A = (fun q : Nat => s.heap.size ≤ q) := ⟨_, rfl⟩
  rw [← hAd] at hE hS hD
  have hA : ∀ q : Nat, s.heap.size ≤ q → A q := fun q h => by rw [hAd]; exact h
  have hbA : ¬ A b := by rw [hAd]; exact Nat.not_le.mpr hbl
  refine lv_aload_n hx hb dL_law_504 rfl (lv_at hl 3 rfl) ?_
  refine lv_aload_n hx hb dL_law_505 rfl (lv_at hl 4 rfl) ?_
  refine lv_iload hx hb dL_law_506 (lv_at hl 0 rfl) ?_
  refine lv_iconst (v := 1) hx hb dL_law_508 (by decide) ?_
  refine lv_iadd hx hb dL_law_509 ?_
  refine lv_topi (fun x1 ex1 => ?_)
  obtain rfl : x1 = 1 := ex1.trans (by decide)
  refine va_sld hx hb hX hbl hbA hS (vp_in_nI (n := 1) (by decide) (by decide)) dL_law_510 ?_
  refine lv_topi (fun sy2 esy2 => ?_)
  refine lv_aload_n hx hb dL_law_511 rfl (lv_at hl 4 rfl) ?_
  refine lv_iload hx hb dL_law_512 (lv_at hl 0 rfl) ?_
  refine lv_iconst (v := 2) hx hb dL_law_514 (by decide) ?_
  refine lv_iadd hx hb dL_law_515 ?_
  refine lv_topi (fun x3 ex3 => ?_)
  obtain rfl : x3 = 2 := ex3.trans (by decide)
  refine va_sld hx hb hX hbl hbA hS (vp_in_nI (n := 2) (by decide) (by decide)) dL_law_516 ?_
  refine lv_topi (fun sy4 esy4 => ?_)
  have hPc := hP.sub (ws' := [(h0, .inr (12, [.ref fi, tca, .ref ea, .ref sl, tmx, tsv])), (fi, .inr (5, [fna, fla, fv2, fv3, fv4, fv5, .int 0])), (ea, .inl (tE, 2, .inr (.inr (.inr (.inr fE))))), (e0, .inr (4, [.int ei0, ev0_1, ev0_2, ev0_3, ev0_4, ev0_5, ev0_6, .ref ak0])), (e1, .inr (4, [.int ei1, ev1_1, ev1_2, ev1_3, ev1_4, ev1_5, ev1_6, .ref ak1])), (ak0, .inr (0, [.int am0, ae0, .int 0])), (ak1, .inr (0, [.int am1, ae1, .int 0])), (sl, .inr (0, [.int sm, se, .int 0]))]) [0, 1, 2, 3, 4, 5, 6, 7] rfl
  have hDc := hD.sub (ws' := [(h0, .inr (12, [.ref fi, tca, .ref ea, .ref sl, tmx, tsv])), (fi, .inr (5, [fna, fla, fv2, fv3, fv4, fv5, .int 0])), (ea, .inl (tE, 2, .inr (.inr (.inr (.inr fE))))), (e0, .inr (4, [.int ei0, ev0_1, ev0_2, ev0_3, ev0_4, ev0_5, ev0_6, .ref ak0])), (e1, .inr (4, [.int ei1, ev1_1, ev1_2, ev1_3, ev1_4, ev1_5, ev1_6, .ref ak1])), (ak0, .inr (0, [.int am0, ae0, .int 0])), (ak1, .inr (0, [.int am1, ae1, .int 0])), (sl, .inr (0, [.int sm, se, .int 0]))]) [0, 1, 2, 3, 4, 5, 6, 7] (by decide) rfl
  have hKc := hK.sub (tys' := [(tE, .object RX3)]) [0] rfl
  have hFc := freeNil hS hA
  refine vx_calli (vx_runSX (As := [.ref h0, .int sy2, .int sy4]) (rest := []) ⟨hx, hb, hml, hown, ht⟩ (k_L_close l hL d0 cO dC dI H.size h0 ea sl tca tmx tsv tE fE sm se fi fna fla fv2 fv3 fv4 fv5 e0 ak0 ei0 am0 ev0_1 ev0_2 ev0_3 ev0_4 ev0_5 ev0_6 ae0 e1 ak1 ei1 am1 ev1_1 ev1_2 ev1_3 ev1_4 ev1_5 ev1_6 ae1 hf0 hf1 sy2 sy4) (my_SW ht M_L_close q1292 q1291 (Nat.le_of_ble_eq_true rfl) (Nat.le_of_ble_eq_true rfl)) ⟨PREp.fb, fun U hU hW => ⟨rfl, PREp.mk' hE hS hFc hPc hKc U hU hW⟩⟩ rfl rfl hl.1 rfl (lv_room (Nat.le_of_ble_eq_true rfl)) dL_law_517 ⟨(Nat.le_of_ble_eq_true rfl), (Nat.le_of_ble_eq_true rfl)⟩) hS (fun q _ h => hFc q h) hFc (fun q _ h => hFc q h) (fun E ce q9 ux t H1 locs htt hvm hw hB hz1 hk1 hS hcell hv9 hcl9 => ?_) (fun r6 u5 t H1 locs htt hvm hw hB hz1 hk1 hS => ?_)
  · skip
    exact hB.elim
  · skip
    try dsimp only at hw hB
    have hP1 := hB
    have hP := keepAll hP hk1
    generalize H1 = H at hP hS ⊢
    have hP : va_P (dC, dI) vwCl [(h0, .inr (12, [.ref fi, tca, .ref ea, .ref sl, tmx, tsv])), (fi, .inr (5, [fna, fla, fv2, fv3, fv4, fv5, .int 0])), (ea, .inl (tE, 2, .inr (.inr (.inr (.inr fE))))), (e0, .inr (4, [.int ei0, ev0_1, ev0_2, ev0_3, ev0_4, ev0_5, ev0_6, .ref ak0])), (e1, .inr (4, [.int ei1, ev1_1, ev1_2, ev1_3, ev1_4, ev1_5, ev1_6, .ref ak1])), (ak0, .inr (0, [.int am0, ae0, .int 0])), (ak1, .inr (0, [.int am1, ae1, .int 0])), (sl, .inr (0, [.int sm, se, .int 0])), (mo, .inr (13, fs))] H := hP
    have hD : va_D A [(h0, .inr (12, [.ref fi, tca, .ref ea, .ref sl, tmx, tsv])), (fi, .inr (5, [fna, fla, fv2, fv3, fv4, fv5, .int 0])), (ea, .inl (tE, 2, .inr (.inr (.inr (.inr fE))))), (e0, .inr (4, [.int ei0, ev0_1, ev0_2, ev0_3, ev0_4, ev0_5, ev0_6, .ref ak0])), (e1, .inr (4, [.int ei1, ev1_1, ev1_2, ev1_3, ev1_4, ev1_5, ev1_6, .ref ak1])), (ak0, .inr (0, [.int am0, ae0, .int 0])), (ak1, .inr (0, [.int am1, ae1, .int 0])), (sl, .inr (0, [.int sm, se, .int 0])), (mo, .inr (13, fs))] := hD
    have hK : va_K (dC, dI) vwCl [(tE, .object RX3)] s := hK
    refine W.widen (k := 269) (n := 364945) (Nat.le_of_ble_eq_true rfl) (Nat.le_of_ble_eq_true rfl) ?_
    subst hw
    refine lv_istore (lv' := [(5, .int 1), (4, .int 0), (3, .ref out), (2, .ref mo), (1, .ref h0), (0, .ref b)]) hx hb dL_law_520 hl (by decide) rfl (fun ls hl => ?_)
    refine lv_aload_n hx hb dL_law_522 rfl (lv_at hl 3 rfl) ?_
    refine lv_aload_n hx hb dL_law_523 rfl (lv_at hl 5 rfl) ?_
    refine lv_iload hx hb dL_law_524 (lv_at hl 1 rfl) ?_
    refine lv_iconst (v := 1) hx hb dL_law_526 (by decide) ?_
    refine lv_iadd hx hb dL_law_527 ?_
    refine lv_topi (fun x7 ex7 => ?_)
    obtain rfl : x7 = 1 := ex7.trans (by decide)
    refine va_sld hx hb hX hbl hbA hS (vp_in_nI (n := 1) (by decide) (by decide)) dL_law_528 ?_
    refine lv_topi (fun sy8 esy8 => ?_)
    have hyy : sy2 = sy8 := esy2.trans esy8.symm
    subst hyy
    refine lv_aload_n hx hb dL_law_529 rfl (lv_at hl 5 rfl) ?_
    refine lv_iload hx hb dL_law_530 (lv_at hl 1 rfl) ?_
    refine lv_iconst (v := 2) hx hb dL_law_532 (by decide) ?_
    refine lv_iadd hx hb dL_law_533 ?_
    refine lv_topi (fun x9 ex9 => ?_)
    obtain rfl : x9 = 2 := ex9.trans (by decide)
    refine va_sld hx hb hX hbl hbA hS (vp_in_nI (n := 2) (by decide) (by decide)) dL_law_534 ?_
    refine lv_topi (fun sy10 esy10 => ?_)
    have hyy : sy4 = sy10 := esy4.trans esy10.symm
    subst hyy
    have hPc := hP.sub (ws' := [(mo, .inr (13, fs))]) [8] rfl
    have hDc := hD.sub (ws' := [(mo, .inr (13, fs))]) [8] (by decide) rfl
    have hKc := hK.sub (tys' := []) [] rfl
    have hFc := va_free (wc := [(mo, .inr (13, fs))]) hD hS hA [8] rfl
    refine va_callv (va_runV (As := [.int sy2, .int sy4]) (rest := []) ⟨hx, hb, hml, hown, ht⟩ (k_X12_close l d0 cO dC dI H.size mo sy2 sy4 fs hlen hf_files) (my_V ht M_X12_close q2054 q2055 q2053 (Nat.le_of_ble_eq_true rfl) (Nat.le_of_ble_eq_true rfl)) ⟨PRE.fb, va_recv hK hP (ci := 13) (q0 := 8) rfl rfl, fun U hU hW => ⟨rfl, PRE.mk' hE hS hFc hPc hKc hDc U hU hW⟩⟩ rfl rfl hl.1 rfl (lv_room (Nat.le_of_ble_eq_true rfl)) dL_law_535 ⟨(Nat.le_of_ble_eq_true rfl), (Nat.le_of_ble_eq_true rfl)⟩) hS (fun q _ h => hFc q h) hFc (fun u11 t H1 locs htt hvm hw hB hz1 hk1 hS => ?_)
    obtain ⟨th213, rfl⟩ : ∃ z, z = u11 := ⟨_, rfl⟩
    try dsimp only at hw hB
    obtain ⟨fs214, hx_15, hP1, hK1, hD1⟩ := hB
    rw [htt] at hP1
    have hK1 := va_K.moved hvm.symm hK1
    obtain ⟨hP, hD⟩ := va_join (wr := [(h0, .inr (12, [.ref fi, tca, .ref ea, .ref sl, tmx, tsv])), (fi, .inr (5, [fna, fla, fv2, fv3, fv4, fv5, .int 0])), (ea, .inl (tE, 2, .inr (.inr (.inr (.inr fE))))), (e0, .inr (4, [.int ei0, ev0_1, ev0_2, ev0_3, ev0_4, ev0_5, ev0_6, .ref ak0])), (e1, .inr (4, [.int ei1, ev1_1, ev1_2, ev1_3, ev1_4, ev1_5, ev1_6, .ref ak1])), (ak0, .inr (0, [.int am0, ae0, .int 0])), (ak1, .inr (0, [.int am1, ae1, .int 0])), (sl, .inr (0, [.int sm, se, .int 0]))]) (w1 := [(mo, .inr (13, fs214))]) hP hD [8] [0, 1, 2, 3, 4, 5, 6, 7] rfl rfl (by decide) (by decide) hk1 hFc hP1 hD1
    have hK := (hK.sub (tys' := [(tE, .object RX3)]) [0] rfl).app hK1
    generalize H1 = H at hP hS ⊢
    have hP : va_P (dC, dI) vwCl [(h0, .inr (12, [.ref fi, tca, .ref ea, .ref sl, tmx, tsv])), (fi, .inr (5, [fna, fla, fv2, fv3, fv4, fv5, .int 0])), (ea, .inl (tE, 2, .inr (.inr (.inr (.inr fE))))), (e0, .inr (4, [.int ei0, ev0_1, ev0_2, ev0_3, ev0_4, ev0_5, ev0_6, .ref ak0])), (e1, .inr (4, [.int ei1, ev1_1, ev1_2, ev1_3, ev1_4, ev1_5, ev1_6, .ref ak1])), (ak0, .inr (0, [.int am0, ae0, .int 0])), (ak1, .inr (0, [.int am1, ae1, .int 0])), (sl, .inr (0, [.int sm, se, .int 0])), (mo, .inr (13, fs214))] H := hP
    have hD : va_D A [(h0, .inr (12, [.ref fi, tca, .ref ea, .ref sl, tmx, tsv])), (fi, .inr (5, [fna, fla, fv2, fv3, fv4, fv5, .int 0])), (ea, .inl (tE, 2, .inr (.inr (.inr (.inr fE))))), (e0, .inr (4, [.int ei0, ev0_1, ev0_2, ev0_3, ev0_4, ev0_5, ev0_6, .ref ak0])), (e1, .inr (4, [.int ei1, ev1_1, ev1_2, ev1_3, ev1_4, ev1_5, ev1_6, .ref ak1])), (ak0, .inr (0, [.int am0, ae0, .int 0])), (ak1, .inr (0, [.int am1, ae1, .int 0])), (sl, .inr (0, [.int sm, se, .int 0])), (mo, .inr (13, fs214))] := hD
    have hK : va_K (dC, dI) vwCl [(tE, .object RX3)] s := hK
    refine W.widen (k := 269) (n := 364945) (Nat.le_of_ble_eq_true rfl) (Nat.le_of_ble_eq_true rfl) ?_
    subst hw
    refine lv_aload_n hx hb dL_law_538 rfl (lv_at hl 3 rfl) ?_
    have hPc := hP.sub (ws' := [(mo, .inr (13, fs214))]) [8] rfl
    have hDc := hD.sub (ws' := [(mo, .inr (13, fs214))]) [8] (by decide) rfl
    have hKc := hK.sub (tys' := []) [] rfl
    have hFc := freeNil hS hA
    refine va_calli (va_runV (As := []) (rest := []) ⟨hx, hb, hml, hown, ht⟩ (k2_thrown l d0 cO dC dI H.size mo 1 fs214 hx_15) (my_V ht M_X12_thrown q1976 q1977 q1975 (Nat.le_of_ble_eq_true rfl) (Nat.le_of_ble_eq_true rfl)) ⟨PREp.fb, va_recv hK hP (ci := 13) (q0 := 8) rfl rfl, fun U hU hW => ⟨rfl, PREp.mk' hE hS hFc hPc hKc U hU hW⟩⟩ rfl rfl hl.1 rfl (lv_room (Nat.le_of_ble_eq_true rfl)) dL_law_539 ⟨(Nat.le_of_ble_eq_true rfl), (Nat.le_of_ble_eq_true rfl)⟩) hS (fun q _ h => hFc q h) hFc (fun r17 u16 t H1 locs htt hvm hw hB hz1 hk1 hS => ?_)
    try dsimp only at hw hB
    have hP1 := hB
    have hP := keepAll hP hk1
    generalize H1 = H at hP hS ⊢
    have hP : va_P (dC, dI) vwCl [(h0, .inr (12, [.ref fi, tca, .ref ea, .ref sl, tmx, tsv])), (fi, .inr (5, [fna, fla, fv2, fv3, fv4, fv5, .int 0])), (ea, .inl (tE, 2, .inr (.inr (.inr (.inr fE))))), (e0, .inr (4, [.int ei0, ev0_1, ev0_2, ev0_3, ev0_4, ev0_5, ev0_6, .ref ak0])), (e1, .inr (4, [.int ei1, ev1_1, ev1_2, ev1_3, ev1_4, ev1_5, ev1_6, .ref ak1])), (ak0, .inr (0, [.int am0, ae0, .int 0])), (ak1, .inr (0, [.int am1, ae1, .int 0])), (sl, .inr (0, [.int sm, se, .int 0])), (mo, .inr (13, fs214))] H := hP
    have hD : va_D A [(h0, .inr (12, [.ref fi, tca, .ref ea, .ref sl, tmx, tsv])), (fi, .inr (5, [fna, fla, fv2, fv3, fv4, fv5, .int 0])), (ea, .inl (tE, 2, .inr (.inr (.inr (.inr fE))))), (e0, .inr (4, [.int ei0, ev0_1, ev0_2, ev0_3, ev0_4, ev0_5, ev0_6, .ref ak0])), (e1, .inr (4, [.int ei1, ev1_1, ev1_2, ev1_3, ev1_4, ev1_5, ev1_6, .ref ak1])), (ak0, .inr (0, [.int am0, ae0, .int 0])), (ak1, .inr (0, [.int am1, ae1, .int 0])), (sl, .inr (0, [.int sm, se, .int 0])), (mo, .inr (13, fs214))] := hD
    have hK : va_K (dC, dI) vwCl [(tE, .object RX3)] s := hK
    refine W.widen (k := 269) (n := 364945) (Nat.le_of_ble_eq_true rfl) (Nat.le_of_ble_eq_true rfl) ?_
    subst hw
    refine lv_iload hx hb dL_law_542 (lv_at hl 0 rfl) ?_
    refine lv_icmp_eq (tgt := 549) hx hb dL_law_544 (by decide) (fun c18 => ?_) (fun c18 => False.elim (by revert c18; decide))
    refine lv_goto (tgt := 2038) hx hb dL_law_549 (by decide) ?_
    refine lv_iinc (v := 8) (lv' := [(4, .int 8), (5, .int 1), (3, .ref out), (2, .ref mo), (1, .ref h0), (0, .ref b)]) hx hb dL_law_2038 hl (k := 1) rfl (by decide) (by decide) rfl (fun ls hl => ?_)
    refine lv_goto (tgt := 23) hx hb dL_law_2041 (by decide) ?_
    refine lv_iload hx hb dL_law_23 (lv_at hl 0 rfl) ?_
    refine lv_aload_n hx hb dL_law_25 rfl (lv_at hl 5 rfl) ?_
    refine va_slen hx hb hX hbl hbA hS dL_law_26 ?_
    refine W.eq (g2 := F0 m 27 ls [.int 8, .int 8]) rfl ?_
    refine lv_bipush (v := 8) hx hb dL_law_27 (by decide) ?_
    refine lv_isub hx hb dL_law_29 ?_
    refine lv_topi (fun x19 ex19 => ?_)
    obtain rfl : x19 = 0 := ex19.trans (by decide)
    refine lv_icmp_gt (tgt := 2044) hx hb dL_law_30 (by decide) (fun c20 => ?_) (fun c20 => False.elim (by revert c20; decide))
    refine lv_iconst (v := 1) hx hb dL_law_2044 (by decide) ?_
    refine W.widen (k := 600002) (n := 7302232) (Nat.le_of_ble_eq_true rfl) (Nat.le_of_ble_eq_true rfl) ?_
    refine va_forget (by have h := hS.2.2; rw [hAd] at h; exact h) ?_
    exact lw_ret hx hb hr hlocks dL_law_2045
set_option maxHeartbeats 4000000 in
set_option maxRecDepth 100000 in
theorem law_change (l : Launch) (hL : l.stackTraces = false) {p : Program} {e : Env} {s : State} {m : MethodId} {below : List Frame} {meth : Method} {c : Code} {b : Nat} {xs : Nat → Int32} {d0 : Nat} {cO : ClassId} {dC : Nat → ClassId} {dI : Nat → Nat → Nat} {H : Heap} {locs : List Loc} {ls : Array Slot} {h0 mo out : Nat} {ea sl : Nat} {tca tmx tsv : Value} {tE : ClassId} {fE : Nat → Option Nat} {sm : Int32} {se : Value} {fi : Nat} {fna fla fv2 fv3 fv4 fv5 : Value} {e0 ak0 : Nat} {ei0 am0 : Int32} {ev0_1 ev0_2 ev0_3 ev0_4 ev0_5 ev0_6 ae0 : Value} {e1 ak1 : Nat} {ei1 am1 : Int32} {ev1_1 ev1_2 ev1_3 ev1_4 ev1_5 ev1_6 ae1 : Value} {fs : List Value} (hf0 : fE 0 = some e0) (hf1 : fE 1 = some e1) (hlen : fs.length = 75) (hf_files : fs[2]? = some (.int 0)) (C0 : lw_At p s m meth c b 8 xs) (hE : EN d0 cO (fun q : Nat => s.heap.size ≤ q) s s.heap) (hS : va_S (fun q : Nat => s.heap.size ≤ q) s.heap H locs) (hP : va_P (dC, dI) vwCl [(h0, .inr (12, [.ref fi, tca, .ref ea, .ref sl, tmx, tsv])), (fi, .inr (5, [fna, fla, fv2, fv3, fv4, fv5, .int 0])), (ea, .inl (tE, 2, .inr (.inr (.inr (.inr fE))))), (e0, .inr (4, [.int ei0, ev0_1, ev0_2, ev0_3, ev0_4, ev0_5, ev0_6, .ref ak0])), (e1, .inr (4, [.int ei1, ev1_1, ev1_2, ev1_3, ev1_4, ev1_5, ev1_6, .ref ak1])), (ak0, .inr (0, [.int am0, ae0, .int 0])), (ak1, .inr (0, [.int am1, ae1, .int 0])), (sl, .inr (0, [.int sm, se, .int 0])), (mo, .inr (13, fs))] H) (hD : va_D (fun q : Nat => s.heap.size ≤ q) [(h0, .inr (12, [.ref fi, tca, .ref ea, .ref sl, tmx, tsv])), (fi, .inr (5, [fna, fla, fv2, fv3, fv4, fv5, .int 0])), (ea, .inl (tE, 2, .inr (.inr (.inr (.inr fE))))), (e0, .inr (4, [.int ei0, ev0_1, ev0_2, ev0_3, ev0_4, ev0_5, ev0_6, .ref ak0])), (e1, .inr (4, [.int ei1, ev1_1, ev1_2, ev1_3, ev1_4, ev1_5, ev1_6, .ref ak1])), (ak0, .inr (0, [.int am0, ae0, .int 0])), (ak1, .inr (0, [.int am1, ae1, .int 0])), (sl, .inr (0, [.int sm, se, .int 0])), (mo, .inr (13, fs))]) (hK : va_K (dC, dI) vwCl [(tE, .object RX3)] s) (hl : lv_has ls 7 [(4, .int 0), (3, .ref out), (2, .ref mo), (1, .ref h0), (0, .ref b)]) : W p l e room_1 s m #[Value.ref b] below meth c H locs 267 364933 (lw_Z below #[Value.ref b] s) (F0 m 552 ls []) := by
  obtain ⟨hx, hb, hr, hml, hown0, hts, hX, hbl, hlocks, hgv⟩ := id C0
  have hown : s.vm.findClass RL = some m.cls := hown0
  have ht : ∀ w ∈ GT, w.before #[Value.ref b] s = true := fun w h => hts w (gt_tbl h)
  obtain ⟨A, hAd⟩ : ∃ A : Nat → Prop, A = (fun q : Nat => s.heap.size ≤ q) := ⟨_, rfl⟩
  rw [← hAd] at hE hS hD
  have hA : ∀ q : Nat, s.heap.size ≤ q → A q := fun q h => by rw [hAd]; exact h
  have hbA : ¬ A b := by rw [hAd]; exact Nat.not_le.mpr hbl
  refine lv_aload_n hx hb dL_law_552 rfl (lv_at hl 3 rfl) ?_
  refine lv_aload_n hx hb dL_law_553 rfl (lv_at hl 4 rfl) ?_
  refine lv_iload hx hb dL_law_554 (lv_at hl 0 rfl) ?_
  refine lv_iconst (v := 1) hx hb dL_law_556 (by decide) ?_
  refine lv_iadd hx hb dL_law_557 ?_
  refine lv_topi (fun x1 ex1 => ?_)
  obtain rfl : x1 = 1 := ex1.trans (by decide)
  refine va_sld hx hb hX hbl hbA hS (vp_in_nI (n := 1) (by decide) (by decide)) dL_law_558 ?_
  refine lv_topi (fun sy2 esy2 => ?_)
  refine lv_aload_n hx hb dL_law_559 rfl (lv_at hl 4 rfl) ?_
  refine lv_iload hx hb dL_law_560 (lv_at hl 0 rfl) ?_
  refine lv_iconst (v := 2) hx hb dL_law_562 (by decide) ?_
  refine lv_iadd hx hb dL_law_563 ?_
  refine lv_topi (fun x3 ex3 => ?_)
  obtain rfl : x3 = 2 := ex3.trans (by decide)
  refine va_sld hx hb hX hbl hbA hS (vp_in_nI (n := 2) (by decide) (by decide)) dL_law_564 ?_
  refine lv_topi (fun sy4 esy4 => ?_)
  refine lv_aload_n hx hb dL_law_565 rfl (lv_at hl 4 rfl) ?_
  refine lv_iload hx hb dL_law_566 (lv_at hl 0 rfl) ?_
  refine lv_iconst (v := 3) hx hb dL_law_568 (by decide) ?_
  refine lv_iadd hx hb dL_law_569 ?_
  refine lv_topi (fun x5 ex5 => ?_)
  obtain rfl : x5 = 3 := ex5.trans (by decide)
  refine va_sld hx hb hX hbl hbA hS (vp_in_nI (n := 3) (by decide) (by decide)) dL_law_570 ?_
  refine lv_topi (fun sy6 esy6 => ?_)
  refine lv_aload_n hx hb dL_law_571 rfl (lv_at hl 4 rfl) ?_
  refine lv_iload hx hb dL_law_572 (lv_at hl 0 rfl) ?_
  refine lv_iconst (v := 4) hx hb dL_law_574 (by decide) ?_
  refine lv_iadd hx hb dL_law_575 ?_
  refine lv_topi (fun x7 ex7 => ?_)
  obtain rfl : x7 = 4 := ex7.trans (by decide)
  refine va_sld hx hb hX hbl hbA hS (vp_in_nI (n := 4) (by decide) (by decide)) dL_law_576 ?_
  refine lv_topi (fun sy8 esy8 => ?_)
  refine lv_aload_n hx hb dL_law_577 rfl (lv_at hl 4 rfl) ?_
  refine lv_iload hx hb dL_law_578 (lv_at hl 0 rfl) ?_
  refine lv_iconst (v := 5) hx hb dL_law_580 (by decide) ?_
  refine lv_iadd hx hb dL_law_581 ?_
  refine lv_topi (fun x9 ex9 => ?_)
  obtain rfl : x9 = 5 := ex9.trans (by decide)
  refine va_sld hx hb hX hbl hbA hS (vp_in_nI (n := 5) (by decide) (by decide)) dL_law_582 ?_
  refine lv_topi (fun sy10 esy10 => ?_)
  refine lv_aload_n hx hb dL_law_583 rfl (lv_at hl 4 rfl) ?_
  refine lv_iload hx hb dL_law_584 (lv_at hl 0 rfl) ?_
  refine lv_bipush (v := 6) hx hb dL_law_586 (by decide) ?_
  refine lv_iadd hx hb dL_law_588 ?_
  refine lv_topi (fun x11 ex11 => ?_)
  obtain rfl : x11 = 6 := ex11.trans (by decide)
  refine va_sld hx hb hX hbl hbA hS (vp_in_nI (n := 6) (by decide) (by decide)) dL_law_589 ?_
  refine lv_topi (fun sy12 esy12 => ?_)
  refine lv_aload_n hx hb dL_law_590 rfl (lv_at hl 4 rfl) ?_
  refine lv_iload hx hb dL_law_591 (lv_at hl 0 rfl) ?_
  refine lv_bipush (v := 7) hx hb dL_law_593 (by decide) ?_
  refine lv_iadd hx hb dL_law_595 ?_
  refine lv_topi (fun x13 ex13 => ?_)
  obtain rfl : x13 = 7 := ex13.trans (by decide)
  refine va_sld hx hb hX hbl hbA hS (vp_in_nI (n := 7) (by decide) (by decide)) dL_law_596 ?_
  refine lv_topi (fun sy14 esy14 => ?_)
  refine lv_aload_n hx hb dL_law_597 rfl (lv_at hl 1 rfl) ?_
  have hPc := hP.sub (ws' := [(h0, .inr (12, [.ref fi, tca, .ref ea, .ref sl, tmx, tsv])), (fi, .inr (5, [fna, fla, fv2, fv3, fv4, fv5, .int 0])), (ea, .inl (tE, 2, .inr (.inr (.inr (.inr fE))))), (e0, .inr (4, [.int ei0, ev0_1, ev0_2, ev0_3, ev0_4, ev0_5, ev0_6, .ref ak0])), (e1, .inr (4, [.int ei1, ev1_1, ev1_2, ev1_3, ev1_4, ev1_5, ev1_6, .ref ak1])), (ak0, .inr (0, [.int am0, ae0, .int 0])), (ak1, .inr (0, [.int am1, ae1, .int 0])), (sl, .inr (0, [.int sm, se, .int 0]))]) [0, 1, 2, 3, 4, 5, 6, 7] rfl
  have hDc := hD.sub (ws' := [(h0, .inr (12, [.ref fi, tca, .ref ea, .ref sl, tmx, tsv])), (fi, .inr (5, [fna, fla, fv2, fv3, fv4, fv5, .int 0])), (ea, .inl (tE, 2, .inr (.inr (.inr (.inr fE))))), (e0, .inr (4, [.int ei0, ev0_1, ev0_2, ev0_3, ev0_4, ev0_5, ev0_6, .ref ak0])), (e1, .inr (4, [.int ei1, ev1_1, ev1_2, ev1_3, ev1_4, ev1_5, ev1_6, .ref ak1])), (ak0, .inr (0, [.int am0, ae0, .int 0])), (ak1, .inr (0, [.int am1, ae1, .int 0])), (sl, .inr (0, [.int sm, se, .int 0]))]) [0, 1, 2, 3, 4, 5, 6, 7] (by decide) rfl
  have hKc := hK.sub (tys' := [(tE, .object RX3)]) [0] rfl
  have hFc := freeNil hS hA
  refine vx_calli (vx_runSX (As := [.ref h0, .int sy2, .int sy4, .int sy6, .int sy8, .int sy10, .int sy12, .int sy14, .ref out]) (rest := []) ⟨hx, hb, hml, hown, ht⟩ (k_L_change l hL d0 cO dC dI H.size h0 ea sl tca tmx tsv tE fE sm se fi fna fla fv2 fv3 fv4 fv5 e0 ak0 ei0 am0 ev0_1 ev0_2 ev0_3 ev0_4 ev0_5 ev0_6 ae0 e1 ak1 ei1 am1 ev1_1 ev1_2 ev1_3 ev1_4 ev1_5 ev1_6 ae1 hf0 hf1 sy2 sy4 sy6 sy8 sy10 sy12 sy14 out) (my_SW ht M_L_change q1321 q1320 (Nat.le_of_ble_eq_true rfl) (Nat.le_of_ble_eq_true rfl)) ⟨PREp.fb, fun U hU hW => ⟨rfl, PREp.mk' hE hS hFc hPc hKc U hU hW⟩⟩ rfl rfl hl.1 rfl (lv_room (Nat.le_of_ble_eq_true rfl)) dL_law_598 ⟨(Nat.le_of_ble_eq_true rfl), (Nat.le_of_ble_eq_true rfl)⟩) hS (fun q _ h => hFc q h) hFc (fun q _ h => hFc q h) (fun E ce q9 ux t H1 locs htt hvm hw hB hz1 hk1 hS hcell hv9 hcl9 => ?_) (fun r16 u15 t H1 locs htt hvm hw hB hz1 hk1 hS => ?_)
  · skip
    exact hB.elim
  · skip
    try dsimp only at hw hB
    have hP1 := hB
    have hP := keepAll hP hk1
    generalize H1 = H at hP hS ⊢
    have hP : va_P (dC, dI) vwCl [(h0, .inr (12, [.ref fi, tca, .ref ea, .ref sl, tmx, tsv])), (fi, .inr (5, [fna, fla, fv2, fv3, fv4, fv5, .int 0])), (ea, .inl (tE, 2, .inr (.inr (.inr (.inr fE))))), (e0, .inr (4, [.int ei0, ev0_1, ev0_2, ev0_3, ev0_4, ev0_5, ev0_6, .ref ak0])), (e1, .inr (4, [.int ei1, ev1_1, ev1_2, ev1_3, ev1_4, ev1_5, ev1_6, .ref ak1])), (ak0, .inr (0, [.int am0, ae0, .int 0])), (ak1, .inr (0, [.int am1, ae1, .int 0])), (sl, .inr (0, [.int sm, se, .int 0])), (mo, .inr (13, fs))] H := hP
    have hD : va_D A [(h0, .inr (12, [.ref fi, tca, .ref ea, .ref sl, tmx, tsv])), (fi, .inr (5, [fna, fla, fv2, fv3, fv4, fv5, .int 0])), (ea, .inl (tE, 2, .inr (.inr (.inr (.inr fE))))), (e0, .inr (4, [.int ei0, ev0_1, ev0_2, ev0_3, ev0_4, ev0_5, ev0_6, .ref ak0])), (e1, .inr (4, [.int ei1, ev1_1, ev1_2, ev1_3, ev1_4, ev1_5, ev1_6, .ref ak1])), (ak0, .inr (0, [.int am0, ae0, .int 0])), (ak1, .inr (0, [.int am1, ae1, .int 0])), (sl, .inr (0, [.int sm, se, .int 0])), (mo, .inr (13, fs))] := hD
    have hK : va_K (dC, dI) vwCl [(tE, .object RX3)] s := hK
    refine W.widen (k := 269) (n := 364945) (Nat.le_of_ble_eq_true rfl) (Nat.le_of_ble_eq_true rfl) ?_
    subst hw
    refine lv_istore (lv' := [(5, .int 1), (4, .int 0), (3, .ref out), (2, .ref mo), (1, .ref h0), (0, .ref b)]) hx hb dL_law_601 hl (by decide) rfl (fun ls hl => ?_)
    refine lv_aload_n hx hb dL_law_603 rfl (lv_at hl 3 rfl) ?_
    refine lv_aload_n hx hb dL_law_604 rfl (lv_at hl 5 rfl) ?_
    refine lv_iload hx hb dL_law_605 (lv_at hl 1 rfl) ?_
    refine lv_iconst (v := 1) hx hb dL_law_607 (by decide) ?_
    refine lv_iadd hx hb dL_law_608 ?_
    refine lv_topi (fun x17 ex17 => ?_)
    obtain rfl : x17 = 1 := ex17.trans (by decide)
    refine va_sld hx hb hX hbl hbA hS (vp_in_nI (n := 1) (by decide) (by decide)) dL_law_609 ?_
    refine lv_topi (fun sy18 esy18 => ?_)
    have hyy : sy2 = sy18 := esy2.trans esy18.symm
    subst hyy
    refine lv_aload_n hx hb dL_law_610 rfl (lv_at hl 5 rfl) ?_
    refine lv_iload hx hb dL_law_611 (lv_at hl 1 rfl) ?_
    refine lv_iconst (v := 2) hx hb dL_law_613 (by decide) ?_
    refine lv_iadd hx hb dL_law_614 ?_
    refine lv_topi (fun x19 ex19 => ?_)
    obtain rfl : x19 = 2 := ex19.trans (by decide)
    refine va_sld hx hb hX hbl hbA hS (vp_in_nI (n := 2) (by decide) (by decide)) dL_law_615 ?_
    refine lv_topi (fun sy20 esy20 => ?_)
    have hyy : sy4 = sy20 := esy4.trans esy20.symm
    subst hyy
    refine lv_aload_n hx hb dL_law_616 rfl (lv_at hl 5 rfl) ?_
    refine lv_iload hx hb dL_law_617 (lv_at hl 1 rfl) ?_
    refine lv_iconst (v := 3) hx hb dL_law_619 (by decide) ?_
    refine lv_iadd hx hb dL_law_620 ?_
    refine lv_topi (fun x21 ex21 => ?_)
    obtain rfl : x21 = 3 := ex21.trans (by decide)
    refine va_sld hx hb hX hbl hbA hS (vp_in_nI (n := 3) (by decide) (by decide)) dL_law_621 ?_
    refine lv_topi (fun sy22 esy22 => ?_)
    have hyy : sy6 = sy22 := esy6.trans esy22.symm
    subst hyy
    refine lv_aload_n hx hb dL_law_622 rfl (lv_at hl 5 rfl) ?_
    refine lv_iload hx hb dL_law_623 (lv_at hl 1 rfl) ?_
    refine lv_iconst (v := 4) hx hb dL_law_625 (by decide) ?_
    refine lv_iadd hx hb dL_law_626 ?_
    refine lv_topi (fun x23 ex23 => ?_)
    obtain rfl : x23 = 4 := ex23.trans (by decide)
    refine va_sld hx hb hX hbl hbA hS (vp_in_nI (n := 4) (by decide) (by decide)) dL_law_627 ?_
    refine lv_topi (fun sy24 esy24 => ?_)
    have hyy : sy8 = sy24 := esy8.trans esy24.symm
    subst hyy
    refine lv_aload_n hx hb dL_law_628 rfl (lv_at hl 5 rfl) ?_
    refine lv_iload hx hb dL_law_629 (lv_at hl 1 rfl) ?_
    refine lv_iconst (v := 5) hx hb dL_law_631 (by decide) ?_
    refine lv_iadd hx hb dL_law_632 ?_
    refine lv_topi (fun x25 ex25 => ?_)
    obtain rfl : x25 = 5 := ex25.trans (by decide)
    refine va_sld hx hb hX hbl hbA hS (vp_in_nI (n := 5) (by decide) (by decide)) dL_law_633 ?_
    refine lv_topi (fun sy26 esy26 => ?_)
    have hyy : sy10 = sy26 := esy10.trans esy26.symm
    subst hyy
    refine lv_aload_n hx hb dL_law_634 rfl (lv_at hl 5 rfl) ?_
    refine lv_iload hx hb dL_law_635 (lv_at hl 1 rfl) ?_
    refine lv_bipush (v := 6) hx hb dL_law_637 (by decide) ?_
    refine lv_iadd hx hb dL_law_639 ?_
    refine lv_topi (fun x27 ex27 => ?_)
    obtain rfl : x27 = 6 := ex27.trans (by decide)
    refine va_sld hx hb hX hbl hbA hS (vp_in_nI (n := 6) (by decide) (by decide)) dL_law_640 ?_
    refine lv_topi (fun sy28 esy28 => ?_)
    have hyy : sy12 = sy28 := esy12.trans esy28.symm
    subst hyy
    refine lv_aload_n hx hb dL_law_641 rfl (lv_at hl 5 rfl) ?_
    refine lv_iload hx hb dL_law_642 (lv_at hl 1 rfl) ?_
    refine lv_bipush (v := 7) hx hb dL_law_644 (by decide) ?_
    refine lv_iadd hx hb dL_law_646 ?_
    refine lv_topi (fun x29 ex29 => ?_)
    obtain rfl : x29 = 7 := ex29.trans (by decide)
    refine va_sld hx hb hX hbl hbA hS (vp_in_nI (n := 7) (by decide) (by decide)) dL_law_647 ?_
    refine lv_topi (fun sy30 esy30 => ?_)
    have hyy : sy14 = sy30 := esy14.trans esy30.symm
    subst hyy
    have hPc := hP.sub (ws' := [(mo, .inr (13, fs))]) [8] rfl
    have hDc := hD.sub (ws' := [(mo, .inr (13, fs))]) [8] (by decide) rfl
    have hKc := hK.sub (tys' := []) [] rfl
    have hFc := va_free (wc := [(mo, .inr (13, fs))]) hD hS hA [8] rfl
    refine va_calli (va_runV (As := [.int sy2, .int sy4, .int sy6, .int sy8, .int sy10, .int sy12, .int sy14]) (rest := []) ⟨hx, hb, hml, hown, ht⟩ (k_X12_change l d0 cO dC dI H.size mo sy2 sy4 sy6 sy8 sy10 sy12 sy14 fs hlen hf_files) (my_V ht M_X12_change q2073 q2074 q2072 (Nat.le_of_ble_eq_true rfl) (Nat.le_of_ble_eq_true rfl)) ⟨PRE.fb, va_recv hK hP (ci := 13) (q0 := 8) rfl rfl, fun U hU hW => ⟨rfl, PRE.mk' hE hS hFc hPc hKc hDc U hU hW⟩⟩ rfl rfl hl.1 rfl (lv_room (Nat.le_of_ble_eq_true rfl)) dL_law_648 ⟨(Nat.le_of_ble_eq_true rfl), (Nat.le_of_ble_eq_true rfl)⟩) hS (fun q _ h => hFc q h) hFc (fun r32 u31 t H1 locs htt hvm hw hB hz1 hk1 hS => ?_)
    obtain ⟨th233, rfl⟩ : ∃ z, z = u31 := ⟨_, rfl⟩
    try dsimp only at hw hB
    obtain ⟨fs234, hx_35, hP1, hK1, hD1⟩ := hB
    rw [htt] at hP1
    have hK1 := va_K.moved hvm.symm hK1
    obtain ⟨hP, hD⟩ := va_join (wr := [(h0, .inr (12, [.ref fi, tca, .ref ea, .ref sl, tmx, tsv])), (fi, .inr (5, [fna, fla, fv2, fv3, fv4, fv5, .int 0])), (ea, .inl (tE, 2, .inr (.inr (.inr (.inr fE))))), (e0, .inr (4, [.int ei0, ev0_1, ev0_2, ev0_3, ev0_4, ev0_5, ev0_6, .ref ak0])), (e1, .inr (4, [.int ei1, ev1_1, ev1_2, ev1_3, ev1_4, ev1_5, ev1_6, .ref ak1])), (ak0, .inr (0, [.int am0, ae0, .int 0])), (ak1, .inr (0, [.int am1, ae1, .int 0])), (sl, .inr (0, [.int sm, se, .int 0]))]) (w1 := [(mo, .inr (13, fs234))]) hP hD [8] [0, 1, 2, 3, 4, 5, 6, 7] rfl rfl (by decide) (by decide) hk1 hFc hP1 hD1
    have hK := (hK.sub (tys' := [(tE, .object RX3)]) [0] rfl).app hK1
    generalize H1 = H at hP hS ⊢
    have hP : va_P (dC, dI) vwCl [(h0, .inr (12, [.ref fi, tca, .ref ea, .ref sl, tmx, tsv])), (fi, .inr (5, [fna, fla, fv2, fv3, fv4, fv5, .int 0])), (ea, .inl (tE, 2, .inr (.inr (.inr (.inr fE))))), (e0, .inr (4, [.int ei0, ev0_1, ev0_2, ev0_3, ev0_4, ev0_5, ev0_6, .ref ak0])), (e1, .inr (4, [.int ei1, ev1_1, ev1_2, ev1_3, ev1_4, ev1_5, ev1_6, .ref ak1])), (ak0, .inr (0, [.int am0, ae0, .int 0])), (ak1, .inr (0, [.int am1, ae1, .int 0])), (sl, .inr (0, [.int sm, se, .int 0])), (mo, .inr (13, fs234))] H := hP
    have hD : va_D A [(h0, .inr (12, [.ref fi, tca, .ref ea, .ref sl, tmx, tsv])), (fi, .inr (5, [fna, fla, fv2, fv3, fv4, fv5, .int 0])), (ea, .inl (tE, 2, .inr (.inr (.inr (.inr fE))))), (e0, .inr (4, [.int ei0, ev0_1, ev0_2, ev0_3, ev0_4, ev0_5, ev0_6, .ref ak0])), (e1, .inr (4, [.int ei1, ev1_1, ev1_2, ev1_3, ev1_4, ev1_5, ev1_6, .ref ak1])), (ak0, .inr (0, [.int am0, ae0, .int 0])), (ak1, .inr (0, [.int am1, ae1, .int 0])), (sl, .inr (0, [.int sm, se, .int 0])), (mo, .inr (13, fs234))] := hD
    have hK : va_K (dC, dI) vwCl [(tE, .object RX3)] s := hK
    refine W.widen (k := 269) (n := 364945) (Nat.le_of_ble_eq_true rfl) (Nat.le_of_ble_eq_true rfl) ?_
    subst hw
    refine lv_istore (lv' := [(6, .int r32), (5, .int 1), (4, .int 0), (3, .ref out), (2, .ref mo), (1, .ref h0), (0, .ref b)]) hx hb dL_law_651 hl (by decide) rfl (fun ls hl => ?_)
    refine lv_aload_n hx hb dL_law_653 rfl (lv_at hl 4 rfl) ?_
    have hPc := hP.sub (ws' := [(mo, .inr (13, fs234))]) [8] rfl
    have hDc := hD.sub (ws' := [(mo, .inr (13, fs234))]) [8] (by decide) rfl
    have hKc := hK.sub (tys' := []) [] rfl
    have hFc := freeNil hS hA
    refine va_calli (va_runV (As := []) (rest := []) ⟨hx, hb, hml, hown, ht⟩ (k2_thrown l d0 cO dC dI H.size mo 1 fs234 hx_35) (my_V ht M_X12_thrown q1976 q1977 q1975 (Nat.le_of_ble_eq_true rfl) (Nat.le_of_ble_eq_true rfl)) ⟨PREp.fb, va_recv hK hP (ci := 13) (q0 := 8) rfl rfl, fun U hU hW => ⟨rfl, PREp.mk' hE hS hFc hPc hKc U hU hW⟩⟩ rfl rfl hl.1 rfl (lv_room (Nat.le_of_ble_eq_true rfl)) dL_law_654 ⟨(Nat.le_of_ble_eq_true rfl), (Nat.le_of_ble_eq_true rfl)⟩) hS (fun q _ h => hFc q h) hFc (fun r37 u36 t H1 locs htt hvm hw hB hz1 hk1 hS => ?_)
    try dsimp only at hw hB
    have hP1 := hB
    have hP := keepAll hP hk1
    generalize H1 = H at hP hS ⊢
    have hP : va_P (dC, dI) vwCl [(h0, .inr (12, [.ref fi, tca, .ref ea, .ref sl, tmx, tsv])), (fi, .inr (5, [fna, fla, fv2, fv3, fv4, fv5, .int 0])), (ea, .inl (tE, 2, .inr (.inr (.inr (.inr fE))))), (e0, .inr (4, [.int ei0, ev0_1, ev0_2, ev0_3, ev0_4, ev0_5, ev0_6, .ref ak0])), (e1, .inr (4, [.int ei1, ev1_1, ev1_2, ev1_3, ev1_4, ev1_5, ev1_6, .ref ak1])), (ak0, .inr (0, [.int am0, ae0, .int 0])), (ak1, .inr (0, [.int am1, ae1, .int 0])), (sl, .inr (0, [.int sm, se, .int 0])), (mo, .inr (13, fs234))] H := hP
    have hD : va_D A [(h0, .inr (12, [.ref fi, tca, .ref ea, .ref sl, tmx, tsv])), (fi, .inr (5, [fna, fla, fv2, fv3, fv4, fv5, .int 0])), (ea, .inl (tE, 2, .inr (.inr (.inr (.inr fE))))), (e0, .inr (4, [.int ei0, ev0_1, ev0_2, ev0_3, ev0_4, ev0_5, ev0_6, .ref ak0])), (e1, .inr (4, [.int ei1, ev1_1, ev1_2, ev1_3, ev1_4, ev1_5, ev1_6, .ref ak1])), (ak0, .inr (0, [.int am0, ae0, .int 0])), (ak1, .inr (0, [.int am1, ae1, .int 0])), (sl, .inr (0, [.int sm, se, .int 0])), (mo, .inr (13, fs234))] := hD
    have hK : va_K (dC, dI) vwCl [(tE, .object RX3)] s := hK
    refine W.widen (k := 269) (n := 364945) (Nat.le_of_ble_eq_true rfl) (Nat.le_of_ble_eq_true rfl) ?_
    subst hw
    refine lv_iload hx hb dL_law_657 (lv_at hl 1 rfl) ?_
    refine lv_icmp_eq (tgt := 664) hx hb dL_law_659 (by decide) (fun c38 => ?_) (fun c38 => False.elim (by revert c38; decide))
    refine lv_iload hx hb dL_law_664 (lv_at hl 1 rfl) ?_
    refine lv_if_ne (tgt := 681) hx hb dL_law_666 (by decide) (fun c39 => ?_) (fun c39 => False.elim (by revert c39; decide))
    refine lv_goto (tgt := 2038) hx hb dL_law_681 (by decide) ?_
    refine lv_iinc (v := 8) (lv' := [(4, .int 8), (6, .int r32), (5, .int 1), (3, .ref out), (2, .ref mo), (1, .ref h0), (0, .ref b)]) hx hb dL_law_2038 hl (k := 2) rfl (by decide) (by decide) rfl (fun ls hl => ?_)
    refine lv_goto (tgt := 23) hx hb dL_law_2041 (by decide) ?_
    refine lv_iload hx hb dL_law_23 (lv_at hl 0 rfl) ?_
    refine lv_aload_n hx hb dL_law_25 rfl (lv_at hl 6 rfl) ?_
    refine va_slen hx hb hX hbl hbA hS dL_law_26 ?_
    refine W.eq (g2 := F0 m 27 ls [.int 8, .int 8]) rfl ?_
    refine lv_bipush (v := 8) hx hb dL_law_27 (by decide) ?_
    refine lv_isub hx hb dL_law_29 ?_
    refine lv_topi (fun x40 ex40 => ?_)
    obtain rfl : x40 = 0 := ex40.trans (by decide)
    refine lv_icmp_gt (tgt := 2044) hx hb dL_law_30 (by decide) (fun c41 => ?_) (fun c41 => False.elim (by revert c41; decide))
    refine lv_iconst (v := 1) hx hb dL_law_2044 (by decide) ?_
    refine W.widen (k := 600002) (n := 7302232) (Nat.le_of_ble_eq_true rfl) (Nat.le_of_ble_eq_true rfl) ?_
    refine va_forget (by have h := hS.2.2; rw [hAd] at h; exact h) ?_
    exact lw_ret hx hb hr hlocks dL_law_2045
set_option maxHeartbeats 4000000 in
set_option maxRecDepth 100000 in
theorem law_request (l : Launch) (hL : l.stackTraces = false) {p : Program} {e : Env} {s : State} {m : MethodId} {below : List Frame} {meth : Method} {c : Code} {b : Nat} {xs : Nat → Int32} {d0 : Nat} {cO : ClassId} {dC : Nat → ClassId} {dI : Nat → Nat → Nat} {H : Heap} {locs : List Loc} {ls : Array Slot} {h0 mo out : Nat} {ea sl : Nat} {tca tmx tsv : Value} {tE : ClassId} {fE : Nat → Option Nat} {sm : Int32} {se : Value} {fi : Nat} {fna fla fv2 fv3 fv4 fv5 : Value} {e0 ak0 : Nat} {ei0 am0 : Int32} {ev0_1 ev0_2 ev0_3 ev0_4 ev0_5 ev0_6 ae0 : Value} {e1 ak1 : Nat} {ei1 am1 : Int32} {ev1_1 ev1_2 ev1_3 ev1_4 ev1_5 ev1_6 ae1 : Value} {fs : List Value} (hf0 : fE 0 = some e0) (hf1 : fE 1 = some e1) (hlen : fs.length = 75) (hf_files : fs[2]? = some (.int 0)) (C0 : lw_At p s m meth c b 8 xs) (hE : EN d0 cO (fun q : Nat => s.heap.size ≤ q) s s.heap) (hS : va_S (fun q : Nat => s.heap.size ≤ q) s.heap H locs) (hP : va_P (dC, dI) vwCl [(h0, .inr (12, [.ref fi, tca, .ref ea, .ref sl, tmx, tsv])), (fi, .inr (5, [fna, fla, fv2, fv3, fv4, fv5, .int 0])), (ea, .inl (tE, 2, .inr (.inr (.inr (.inr fE))))), (e0, .inr (4, [.int ei0, ev0_1, ev0_2, ev0_3, ev0_4, ev0_5, ev0_6, .ref ak0])), (e1, .inr (4, [.int ei1, ev1_1, ev1_2, ev1_3, ev1_4, ev1_5, ev1_6, .ref ak1])), (ak0, .inr (0, [.int am0, ae0, .int 0])), (ak1, .inr (0, [.int am1, ae1, .int 0])), (sl, .inr (0, [.int sm, se, .int 0])), (mo, .inr (13, fs))] H) (hD : va_D (fun q : Nat => s.heap.size ≤ q) [(h0, .inr (12, [.ref fi, tca, .ref ea, .ref sl, tmx, tsv])), (fi, .inr (5, [fna, fla, fv2, fv3, fv4, fv5, .int 0])), (ea, .inl (tE, 2, .inr (.inr (.inr (.inr fE))))), (e0, .inr (4, [.int ei0, ev0_1, ev0_2, ev0_3, ev0_4, ev0_5, ev0_6, .ref ak0])), (e1, .inr (4, [.int ei1, ev1_1, ev1_2, ev1_3, ev1_4, ev1_5, ev1_6, .ref ak1])), (ak0, .inr (0, [.int am0, ae0, .int 0])), (ak1, .inr (0, [.int am1, ae1, .int 0])), (sl, .inr (0, [.int sm, se, .int 0])), (mo, .inr (13, fs))]) (hK : va_K (dC, dI) vwCl [(tE, .object RX3)] s) (hl : lv_has ls 7 [(4, .int 0), (3, .ref out), (2, .ref mo), (1, .ref h0), (0, .ref b)]) : W p l e room_1 s m #[Value.ref b] below meth c H locs 267 364933 (lw_Z below #[Value.ref b] s) (F0 m 684 ls []) := by
  obtain ⟨hx, hb, hr, hml, hown0, hts, hX, hbl, hlocks, hgv⟩ := id C0
  have hown : s.vm.findClass RL = some m.cls := hown0
  have ht : ∀ w ∈ GT, w.before #[Value.ref b] s = true := fun w h => hts w (gt_tbl h)
  obtain ⟨A, hAd⟩ : ∃ A : Nat → Prop, A = (fun q : Nat => s.heap.size ≤ q) := ⟨_, rfl⟩
  rw [← hAd] at hE hS hD
  have hA : ∀ q : Nat, s.heap.size ≤ q → A q := fun q h => by rw [hAd]; exact h
  have hbA : ¬ A b := by rw [hAd]; exact Nat.not_le.mpr hbl
  refine lv_aload_n hx hb dL_law_684 rfl (lv_at hl 3 rfl) ?_
  refine lv_aload_n hx hb dL_law_685 rfl (lv_at hl 4 rfl) ?_
  refine lv_iload hx hb dL_law_686 (lv_at hl 0 rfl) ?_
  refine lv_iconst (v := 1) hx hb dL_law_688 (by decide) ?_
  refine lv_iadd hx hb dL_law_689 ?_
  refine lv_topi (fun x1 ex1 => ?_)
  obtain rfl : x1 = 1 := ex1.trans (by decide)
  refine va_sld hx hb hX hbl hbA hS (vp_in_nI (n := 1) (by decide) (by decide)) dL_law_690 ?_
  refine lv_topi (fun sy2 esy2 => ?_)
  refine lv_aload_n hx hb dL_law_691 rfl (lv_at hl 4 rfl) ?_
  refine lv_iload hx hb dL_law_692 (lv_at hl 0 rfl) ?_
  refine lv_iconst (v := 2) hx hb dL_law_694 (by decide) ?_
  refine lv_iadd hx hb dL_law_695 ?_
  refine lv_topi (fun x3 ex3 => ?_)
  obtain rfl : x3 = 2 := ex3.trans (by decide)
  refine va_sld hx hb hX hbl hbA hS (vp_in_nI (n := 2) (by decide) (by decide)) dL_law_696 ?_
  refine lv_topi (fun sy4 esy4 => ?_)
  refine lv_aload_n hx hb dL_law_697 rfl (lv_at hl 4 rfl) ?_
  refine lv_iload hx hb dL_law_698 (lv_at hl 0 rfl) ?_
  refine lv_iconst (v := 3) hx hb dL_law_700 (by decide) ?_
  refine lv_iadd hx hb dL_law_701 ?_
  refine lv_topi (fun x5 ex5 => ?_)
  obtain rfl : x5 = 3 := ex5.trans (by decide)
  refine va_sld hx hb hX hbl hbA hS (vp_in_nI (n := 3) (by decide) (by decide)) dL_law_702 ?_
  refine lv_topi (fun sy6 esy6 => ?_)
  refine lv_aload_n hx hb dL_law_703 rfl (lv_at hl 4 rfl) ?_
  refine lv_iload hx hb dL_law_704 (lv_at hl 0 rfl) ?_
  refine lv_iconst (v := 4) hx hb dL_law_706 (by decide) ?_
  refine lv_iadd hx hb dL_law_707 ?_
  refine lv_topi (fun x7 ex7 => ?_)
  obtain rfl : x7 = 4 := ex7.trans (by decide)
  refine va_sld hx hb hX hbl hbA hS (vp_in_nI (n := 4) (by decide) (by decide)) dL_law_708 ?_
  refine lv_topi (fun sy8 esy8 => ?_)
  refine lv_aload_n hx hb dL_law_709 rfl (lv_at hl 4 rfl) ?_
  refine lv_iload hx hb dL_law_710 (lv_at hl 0 rfl) ?_
  refine lv_iconst (v := 5) hx hb dL_law_712 (by decide) ?_
  refine lv_iadd hx hb dL_law_713 ?_
  refine lv_topi (fun x9 ex9 => ?_)
  obtain rfl : x9 = 5 := ex9.trans (by decide)
  refine va_sld hx hb hX hbl hbA hS (vp_in_nI (n := 5) (by decide) (by decide)) dL_law_714 ?_
  refine lv_topi (fun sy10 esy10 => ?_)
  refine lv_aload_n hx hb dL_law_715 rfl (lv_at hl 4 rfl) ?_
  refine lv_iload hx hb dL_law_716 (lv_at hl 0 rfl) ?_
  refine lv_bipush (v := 6) hx hb dL_law_718 (by decide) ?_
  refine lv_iadd hx hb dL_law_720 ?_
  refine lv_topi (fun x11 ex11 => ?_)
  obtain rfl : x11 = 6 := ex11.trans (by decide)
  refine va_sld hx hb hX hbl hbA hS (vp_in_nI (n := 6) (by decide) (by decide)) dL_law_721 ?_
  refine lv_topi (fun sy12 esy12 => ?_)
  refine lv_aload_n hx hb dL_law_722 rfl (lv_at hl 1 rfl) ?_
  have hPc := hP.sub (ws' := [(h0, .inr (12, [.ref fi, tca, .ref ea, .ref sl, tmx, tsv])), (fi, .inr (5, [fna, fla, fv2, fv3, fv4, fv5, .int 0])), (ea, .inl (tE, 2, .inr (.inr (.inr (.inr fE))))), (e0, .inr (4, [.int ei0, ev0_1, ev0_2, ev0_3, ev0_4, ev0_5, ev0_6, .ref ak0])), (e1, .inr (4, [.int ei1, ev1_1, ev1_2, ev1_3, ev1_4, ev1_5, ev1_6, .ref ak1])), (ak0, .inr (0, [.int am0, ae0, .int 0])), (ak1, .inr (0, [.int am1, ae1, .int 0])), (sl, .inr (0, [.int sm, se, .int 0]))]) [0, 1, 2, 3, 4, 5, 6, 7] rfl
  have hDc := hD.sub (ws' := [(h0, .inr (12, [.ref fi, tca, .ref ea, .ref sl, tmx, tsv])), (fi, .inr (5, [fna, fla, fv2, fv3, fv4, fv5, .int 0])), (ea, .inl (tE, 2, .inr (.inr (.inr (.inr fE))))), (e0, .inr (4, [.int ei0, ev0_1, ev0_2, ev0_3, ev0_4, ev0_5, ev0_6, .ref ak0])), (e1, .inr (4, [.int ei1, ev1_1, ev1_2, ev1_3, ev1_4, ev1_5, ev1_6, .ref ak1])), (ak0, .inr (0, [.int am0, ae0, .int 0])), (ak1, .inr (0, [.int am1, ae1, .int 0])), (sl, .inr (0, [.int sm, se, .int 0]))]) [0, 1, 2, 3, 4, 5, 6, 7] (by decide) rfl
  have hKc := hK.sub (tys' := [(tE, .object RX3)]) [0] rfl
  have hFc := freeNil hS hA
  refine vx_calli (vx_runSX (As := [.ref h0, .int sy2, .int sy4, .int sy6, .int sy8, .int sy10, .int sy12, .ref out]) (rest := []) ⟨hx, hb, hml, hown, ht⟩ (k_L_request l hL d0 cO dC dI H.size h0 ea sl tca tmx tsv tE fE sm se fi fna fla fv2 fv3 fv4 fv5 e0 ak0 ei0 am0 ev0_1 ev0_2 ev0_3 ev0_4 ev0_5 ev0_6 ae0 e1 ak1 ei1 am1 ev1_1 ev1_2 ev1_3 ev1_4 ev1_5 ev1_6 ae1 hf0 hf1 sy2 sy4 sy6 sy8 sy10 sy12 out) (my_SW ht M_L_request q1343 q1342 (Nat.le_of_ble_eq_true rfl) (Nat.le_of_ble_eq_true rfl)) ⟨PREp.fb, fun U hU hW => ⟨rfl, PREp.mk' hE hS hFc hPc hKc U hU hW⟩⟩ rfl rfl hl.1 rfl (lv_room (Nat.le_of_ble_eq_true rfl)) dL_law_723 ⟨(Nat.le_of_ble_eq_true rfl), (Nat.le_of_ble_eq_true rfl)⟩) hS (fun q _ h => hFc q h) hFc (fun q _ h => hFc q h) (fun E ce q9 ux t H1 locs htt hvm hw hB hz1 hk1 hS hcell hv9 hcl9 => ?_) (fun r14 u13 t H1 locs htt hvm hw hB hz1 hk1 hS => ?_)
  · skip
    exact hB.elim
  · skip
    try dsimp only at hw hB
    have hP1 := hB
    have hP := keepAll hP hk1
    generalize H1 = H at hP hS ⊢
    have hP : va_P (dC, dI) vwCl [(h0, .inr (12, [.ref fi, tca, .ref ea, .ref sl, tmx, tsv])), (fi, .inr (5, [fna, fla, fv2, fv3, fv4, fv5, .int 0])), (ea, .inl (tE, 2, .inr (.inr (.inr (.inr fE))))), (e0, .inr (4, [.int ei0, ev0_1, ev0_2, ev0_3, ev0_4, ev0_5, ev0_6, .ref ak0])), (e1, .inr (4, [.int ei1, ev1_1, ev1_2, ev1_3, ev1_4, ev1_5, ev1_6, .ref ak1])), (ak0, .inr (0, [.int am0, ae0, .int 0])), (ak1, .inr (0, [.int am1, ae1, .int 0])), (sl, .inr (0, [.int sm, se, .int 0])), (mo, .inr (13, fs))] H := hP
    have hD : va_D A [(h0, .inr (12, [.ref fi, tca, .ref ea, .ref sl, tmx, tsv])), (fi, .inr (5, [fna, fla, fv2, fv3, fv4, fv5, .int 0])), (ea, .inl (tE, 2, .inr (.inr (.inr (.inr fE))))), (e0, .inr (4, [.int ei0, ev0_1, ev0_2, ev0_3, ev0_4, ev0_5, ev0_6, .ref ak0])), (e1, .inr (4, [.int ei1, ev1_1, ev1_2, ev1_3, ev1_4, ev1_5, ev1_6, .ref ak1])), (ak0, .inr (0, [.int am0, ae0, .int 0])), (ak1, .inr (0, [.int am1, ae1, .int 0])), (sl, .inr (0, [.int sm, se, .int 0])), (mo, .inr (13, fs))] := hD
    have hK : va_K (dC, dI) vwCl [(tE, .object RX3)] s := hK
    refine W.widen (k := 269) (n := 364945) (Nat.le_of_ble_eq_true rfl) (Nat.le_of_ble_eq_true rfl) ?_
    subst hw
    refine lv_istore (lv' := [(5, .int 1), (4, .int 0), (3, .ref out), (2, .ref mo), (1, .ref h0), (0, .ref b)]) hx hb dL_law_726 hl (by decide) rfl (fun ls hl => ?_)
    refine lv_aload_n hx hb dL_law_728 rfl (lv_at hl 3 rfl) ?_
    refine lv_aload_n hx hb dL_law_729 rfl (lv_at hl 5 rfl) ?_
    refine lv_iload hx hb dL_law_730 (lv_at hl 1 rfl) ?_
    refine lv_iconst (v := 1) hx hb dL_law_732 (by decide) ?_
    refine lv_iadd hx hb dL_law_733 ?_
    refine lv_topi (fun x15 ex15 => ?_)
    obtain rfl : x15 = 1 := ex15.trans (by decide)
    refine va_sld hx hb hX hbl hbA hS (vp_in_nI (n := 1) (by decide) (by decide)) dL_law_734 ?_
    refine lv_topi (fun sy16 esy16 => ?_)
    have hyy : sy2 = sy16 := esy2.trans esy16.symm
    subst hyy
    refine lv_aload_n hx hb dL_law_735 rfl (lv_at hl 5 rfl) ?_
    refine lv_iload hx hb dL_law_736 (lv_at hl 1 rfl) ?_
    refine lv_iconst (v := 2) hx hb dL_law_738 (by decide) ?_
    refine lv_iadd hx hb dL_law_739 ?_
    refine lv_topi (fun x17 ex17 => ?_)
    obtain rfl : x17 = 2 := ex17.trans (by decide)
    refine va_sld hx hb hX hbl hbA hS (vp_in_nI (n := 2) (by decide) (by decide)) dL_law_740 ?_
    refine lv_topi (fun sy18 esy18 => ?_)
    have hyy : sy4 = sy18 := esy4.trans esy18.symm
    subst hyy
    refine lv_aload_n hx hb dL_law_741 rfl (lv_at hl 5 rfl) ?_
    refine lv_iload hx hb dL_law_742 (lv_at hl 1 rfl) ?_
    refine lv_iconst (v := 3) hx hb dL_law_744 (by decide) ?_
    refine lv_iadd hx hb dL_law_745 ?_
    refine lv_topi (fun x19 ex19 => ?_)
    obtain rfl : x19 = 3 := ex19.trans (by decide)
    refine va_sld hx hb hX hbl hbA hS (vp_in_nI (n := 3) (by decide) (by decide)) dL_law_746 ?_
    refine lv_topi (fun sy20 esy20 => ?_)
    have hyy : sy6 = sy20 := esy6.trans esy20.symm
    subst hyy
    refine lv_aload_n hx hb dL_law_747 rfl (lv_at hl 5 rfl) ?_
    refine lv_iload hx hb dL_law_748 (lv_at hl 1 rfl) ?_
    refine lv_iconst (v := 4) hx hb dL_law_750 (by decide) ?_
    refine lv_iadd hx hb dL_law_751 ?_
    refine lv_topi (fun x21 ex21 => ?_)
    obtain rfl : x21 = 4 := ex21.trans (by decide)
    refine va_sld hx hb hX hbl hbA hS (vp_in_nI (n := 4) (by decide) (by decide)) dL_law_752 ?_
    refine lv_topi (fun sy22 esy22 => ?_)
    have hyy : sy8 = sy22 := esy8.trans esy22.symm
    subst hyy
    refine lv_aload_n hx hb dL_law_753 rfl (lv_at hl 5 rfl) ?_
    refine lv_iload hx hb dL_law_754 (lv_at hl 1 rfl) ?_
    refine lv_iconst (v := 5) hx hb dL_law_756 (by decide) ?_
    refine lv_iadd hx hb dL_law_757 ?_
    refine lv_topi (fun x23 ex23 => ?_)
    obtain rfl : x23 = 5 := ex23.trans (by decide)
    refine va_sld hx hb hX hbl hbA hS (vp_in_nI (n := 5) (by decide) (by decide)) dL_law_758 ?_
    refine lv_topi (fun sy24 esy24 => ?_)
    have hyy : sy10 = sy24 := esy10.trans esy24.symm
    subst hyy
    refine lv_aload_n hx hb dL_law_759 rfl (lv_at hl 5 rfl) ?_
    refine lv_iload hx hb dL_law_760 (lv_at hl 1 rfl) ?_
    refine lv_bipush (v := 6) hx hb dL_law_762 (by decide) ?_
    refine lv_iadd hx hb dL_law_764 ?_
    refine lv_topi (fun x25 ex25 => ?_)
    obtain rfl : x25 = 6 := ex25.trans (by decide)
    refine va_sld hx hb hX hbl hbA hS (vp_in_nI (n := 6) (by decide) (by decide)) dL_law_765 ?_
    refine lv_topi (fun sy26 esy26 => ?_)
    have hyy : sy12 = sy26 := esy12.trans esy26.symm
    subst hyy
    have hPc := hP.sub (ws' := [(mo, .inr (13, fs))]) [8] rfl
    have hDc := hD.sub (ws' := [(mo, .inr (13, fs))]) [8] (by decide) rfl
    have hKc := hK.sub (tys' := []) [] rfl
    have hFc := va_free (wc := [(mo, .inr (13, fs))]) hD hS hA [8] rfl
    refine va_calli (va_runV (As := [.int sy2, .int sy4, .int sy6, .int sy8, .int sy10, .int sy12]) (rest := []) ⟨hx, hb, hml, hown, ht⟩ (k_X12_request l d0 cO dC dI H.size mo sy2 sy4 sy6 sy8 sy10 sy12 fs hlen hf_files) (my_V ht M_X12_request q2108 q2109 q2107 (Nat.le_of_ble_eq_true rfl) (Nat.le_of_ble_eq_true rfl)) ⟨PRE.fb, va_recv hK hP (ci := 13) (q0 := 8) rfl rfl, fun U hU hW => ⟨rfl, PRE.mk' hE hS hFc hPc hKc hDc U hU hW⟩⟩ rfl rfl hl.1 rfl (lv_room (Nat.le_of_ble_eq_true rfl)) dL_law_766 ⟨(Nat.le_of_ble_eq_true rfl), (Nat.le_of_ble_eq_true rfl)⟩) hS (fun q _ h => hFc q h) hFc (fun r28 u27 t H1 locs htt hvm hw hB hz1 hk1 hS => ?_)
    obtain ⟨th229, rfl⟩ : ∃ z, z = u27 := ⟨_, rfl⟩
    try dsimp only at hw hB
    obtain ⟨fs230, hx_31, hP1, hK1, hD1⟩ := hB
    rw [htt] at hP1
    have hK1 := va_K.moved hvm.symm hK1
    obtain ⟨hP, hD⟩ := va_join (wr := [(h0, .inr (12, [.ref fi, tca, .ref ea, .ref sl, tmx, tsv])), (fi, .inr (5, [fna, fla, fv2, fv3, fv4, fv5, .int 0])), (ea, .inl (tE, 2, .inr (.inr (.inr (.inr fE))))), (e0, .inr (4, [.int ei0, ev0_1, ev0_2, ev0_3, ev0_4, ev0_5, ev0_6, .ref ak0])), (e1, .inr (4, [.int ei1, ev1_1, ev1_2, ev1_3, ev1_4, ev1_5, ev1_6, .ref ak1])), (ak0, .inr (0, [.int am0, ae0, .int 0])), (ak1, .inr (0, [.int am1, ae1, .int 0])), (sl, .inr (0, [.int sm, se, .int 0]))]) (w1 := [(mo, .inr (13, fs230))]) hP hD [8] [0, 1, 2, 3, 4, 5, 6, 7] rfl rfl (by decide) (by decide) hk1 hFc hP1 hD1
    have hK := (hK.sub (tys' := [(tE, .object RX3)]) [0] rfl).app hK1
    generalize H1 = H at hP hS ⊢
    have hP : va_P (dC, dI) vwCl [(h0, .inr (12, [.ref fi, tca, .ref ea, .ref sl, tmx, tsv])), (fi, .inr (5, [fna, fla, fv2, fv3, fv4, fv5, .int 0])), (ea, .inl (tE, 2, .inr (.inr (.inr (.inr fE))))), (e0, .inr (4, [.int ei0, ev0_1, ev0_2, ev0_3, ev0_4, ev0_5, ev0_6, .ref ak0])), (e1, .inr (4, [.int ei1, ev1_1, ev1_2, ev1_3, ev1_4, ev1_5, ev1_6, .ref ak1])), (ak0, .inr (0, [.int am0, ae0, .int 0])), (ak1, .inr (0, [.int am1, ae1, .int 0])), (sl, .inr (0, [.int sm, se, .int 0])), (mo, .inr (13, fs230))] H := hP
    have hD : va_D A [(h0, .inr (12, [.ref fi, tca, .ref ea, .ref sl, tmx, tsv])), (fi, .inr (5, [fna, fla, fv2, fv3, fv4, fv5, .int 0])), (ea, .inl (tE, 2, .inr (.inr (.inr (.inr fE))))), (e0, .inr (4, [.int ei0, ev0_1, ev0_2, ev0_3, ev0_4, ev0_5, ev0_6, .ref ak0])), (e1, .inr (4, [.int ei1, ev1_1, ev1_2, ev1_3, ev1_4, ev1_5, ev1_6, .ref ak1])), (ak0, .inr (0, [.int am0, ae0, .int 0])), (ak1, .inr (0, [.int am1, ae1, .int 0])), (sl, .inr (0, [.int sm, se, .int 0])), (mo, .inr (13, fs230))] := hD
    have hK : va_K (dC, dI) vwCl [(tE, .object RX3)] s := hK
    refine W.widen (k := 269) (n := 364945) (Nat.le_of_ble_eq_true rfl) (Nat.le_of_ble_eq_true rfl) ?_
    subst hw
    refine lv_istore (lv' := [(6, .int r28), (5, .int 1), (4, .int 0), (3, .ref out), (2, .ref mo), (1, .ref h0), (0, .ref b)]) hx hb dL_law_769 hl (by decide) rfl (fun ls hl => ?_)
    refine lv_aload_n hx hb dL_law_771 rfl (lv_at hl 4 rfl) ?_
    have hPc := hP.sub (ws' := [(mo, .inr (13, fs230))]) [8] rfl
    have hDc := hD.sub (ws' := [(mo, .inr (13, fs230))]) [8] (by decide) rfl
    have hKc := hK.sub (tys' := []) [] rfl
    have hFc := freeNil hS hA
    refine va_calli (va_runV (As := []) (rest := []) ⟨hx, hb, hml, hown, ht⟩ (k2_thrown l d0 cO dC dI H.size mo 1 fs230 hx_31) (my_V ht M_X12_thrown q1976 q1977 q1975 (Nat.le_of_ble_eq_true rfl) (Nat.le_of_ble_eq_true rfl)) ⟨PREp.fb, va_recv hK hP (ci := 13) (q0 := 8) rfl rfl, fun U hU hW => ⟨rfl, PREp.mk' hE hS hFc hPc hKc U hU hW⟩⟩ rfl rfl hl.1 rfl (lv_room (Nat.le_of_ble_eq_true rfl)) dL_law_772 ⟨(Nat.le_of_ble_eq_true rfl), (Nat.le_of_ble_eq_true rfl)⟩) hS (fun q _ h => hFc q h) hFc (fun r33 u32 t H1 locs htt hvm hw hB hz1 hk1 hS => ?_)
    try dsimp only at hw hB
    have hP1 := hB
    have hP := keepAll hP hk1
    generalize H1 = H at hP hS ⊢
    have hP : va_P (dC, dI) vwCl [(h0, .inr (12, [.ref fi, tca, .ref ea, .ref sl, tmx, tsv])), (fi, .inr (5, [fna, fla, fv2, fv3, fv4, fv5, .int 0])), (ea, .inl (tE, 2, .inr (.inr (.inr (.inr fE))))), (e0, .inr (4, [.int ei0, ev0_1, ev0_2, ev0_3, ev0_4, ev0_5, ev0_6, .ref ak0])), (e1, .inr (4, [.int ei1, ev1_1, ev1_2, ev1_3, ev1_4, ev1_5, ev1_6, .ref ak1])), (ak0, .inr (0, [.int am0, ae0, .int 0])), (ak1, .inr (0, [.int am1, ae1, .int 0])), (sl, .inr (0, [.int sm, se, .int 0])), (mo, .inr (13, fs230))] H := hP
    have hD : va_D A [(h0, .inr (12, [.ref fi, tca, .ref ea, .ref sl, tmx, tsv])), (fi, .inr (5, [fna, fla, fv2, fv3, fv4, fv5, .int 0])), (ea, .inl (tE, 2, .inr (.inr (.inr (.inr fE))))), (e0, .inr (4, [.int ei0, ev0_1, ev0_2, ev0_3, ev0_4, ev0_5, ev0_6, .ref ak0])), (e1, .inr (4, [.int ei1, ev1_1, ev1_2, ev1_3, ev1_4, ev1_5, ev1_6, .ref ak1])), (ak0, .inr (0, [.int am0, ae0, .int 0])), (ak1, .inr (0, [.int am1, ae1, .int 0])), (sl, .inr (0, [.int sm, se, .int 0])), (mo, .inr (13, fs230))] := hD
    have hK : va_K (dC, dI) vwCl [(tE, .object RX3)] s := hK
    refine W.widen (k := 269) (n := 364945) (Nat.le_of_ble_eq_true rfl) (Nat.le_of_ble_eq_true rfl) ?_
    subst hw
    refine lv_iload hx hb dL_law_775 (lv_at hl 1 rfl) ?_
    refine lv_icmp_eq (tgt := 782) hx hb dL_law_777 (by decide) (fun c34 => ?_) (fun c34 => False.elim (by revert c34; decide))
    refine lv_iload hx hb dL_law_782 (lv_at hl 1 rfl) ?_
    refine lv_if_ne (tgt := 799) hx hb dL_law_784 (by decide) (fun c35 => ?_) (fun c35 => False.elim (by revert c35; decide))
    refine lv_goto (tgt := 2038) hx hb dL_law_799 (by decide) ?_
    refine lv_iinc (v := 8) (lv' := [(4, .int 8), (6, .int r28), (5, .int 1), (3, .ref out), (2, .ref mo), (1, .ref h0), (0, .ref b)]) hx hb dL_law_2038 hl (k := 2) rfl (by decide) (by decide) rfl (fun ls hl => ?_)
    refine lv_goto (tgt := 23) hx hb dL_law_2041 (by decide) ?_
    refine lv_iload hx hb dL_law_23 (lv_at hl 0 rfl) ?_
    refine lv_aload_n hx hb dL_law_25 rfl (lv_at hl 6 rfl) ?_
    refine va_slen hx hb hX hbl hbA hS dL_law_26 ?_
    refine W.eq (g2 := F0 m 27 ls [.int 8, .int 8]) rfl ?_
    refine lv_bipush (v := 8) hx hb dL_law_27 (by decide) ?_
    refine lv_isub hx hb dL_law_29 ?_
    refine lv_topi (fun x36 ex36 => ?_)
    obtain rfl : x36 = 0 := ex36.trans (by decide)
    refine lv_icmp_gt (tgt := 2044) hx hb dL_law_30 (by decide) (fun c37 => ?_) (fun c37 => False.elim (by revert c37; decide))
    refine lv_iconst (v := 1) hx hb dL_law_2044 (by decide) ?_
    refine W.widen (k := 600002) (n := 7302232) (Nat.le_of_ble_eq_true rfl) (Nat.le_of_ble_eq_true rfl) ?_
    refine va_forget (by have h := hS.2.2; rw [hAd] at h; exact h) ?_
    exact lw_ret hx hb hr hlocks dL_law_2045
set_option maxHeartbeats 4000000 in
set_option maxRecDepth 100000 in
theorem law_agree (l : Launch) (hL : l.stackTraces = false) {p : Program} {e : Env} {s : State} {m : MethodId} {below : List Frame} {meth : Method} {c : Code} {b : Nat} {xs : Nat → Int32} {d0 : Nat} {cO : ClassId} {dC : Nat → ClassId} {dI : Nat → Nat → Nat} {H : Heap} {locs : List Loc} {ls : Array Slot} {h0 mo out : Nat} {ea sl : Nat} {tca tmx tsv : Value} {tE : ClassId} {fE : Nat → Option Nat} {sm : Int32} {se : Value} {fi : Nat} {fna fla fv2 fv3 fv4 fv5 : Value} {e0 ak0 : Nat} {ei0 am0 : Int32} {ev0_1 ev0_2 ev0_3 ev0_4 ev0_5 ev0_6 ae0 : Value} {e1 ak1 : Nat} {ei1 am1 : Int32} {ev1_1 ev1_2 ev1_3 ev1_4 ev1_5 ev1_6 ae1 : Value} {fs : List Value} (hf0 : fE 0 = some e0) (hf1 : fE 1 = some e1) (hlen : fs.length = 75) (hf_files : fs[2]? = some (.int 0)) (C0 : lw_At p s m meth c b 8 xs) (hE : EN d0 cO (fun q : Nat => s.heap.size ≤ q) s s.heap) (hS : va_S (fun q : Nat => s.heap.size ≤ q) s.heap H locs) (hP : va_P (dC, dI) vwCl [(h0, .inr (12, [.ref fi, tca, .ref ea, .ref sl, tmx, tsv])), (fi, .inr (5, [fna, fla, fv2, fv3, fv4, fv5, .int 0])), (ea, .inl (tE, 2, .inr (.inr (.inr (.inr fE))))), (e0, .inr (4, [.int ei0, ev0_1, ev0_2, ev0_3, ev0_4, ev0_5, ev0_6, .ref ak0])), (e1, .inr (4, [.int ei1, ev1_1, ev1_2, ev1_3, ev1_4, ev1_5, ev1_6, .ref ak1])), (ak0, .inr (0, [.int am0, ae0, .int 0])), (ak1, .inr (0, [.int am1, ae1, .int 0])), (sl, .inr (0, [.int sm, se, .int 0])), (mo, .inr (13, fs))] H) (hD : va_D (fun q : Nat => s.heap.size ≤ q) [(h0, .inr (12, [.ref fi, tca, .ref ea, .ref sl, tmx, tsv])), (fi, .inr (5, [fna, fla, fv2, fv3, fv4, fv5, .int 0])), (ea, .inl (tE, 2, .inr (.inr (.inr (.inr fE))))), (e0, .inr (4, [.int ei0, ev0_1, ev0_2, ev0_3, ev0_4, ev0_5, ev0_6, .ref ak0])), (e1, .inr (4, [.int ei1, ev1_1, ev1_2, ev1_3, ev1_4, ev1_5, ev1_6, .ref ak1])), (ak0, .inr (0, [.int am0, ae0, .int 0])), (ak1, .inr (0, [.int am1, ae1, .int 0])), (sl, .inr (0, [.int sm, se, .int 0])), (mo, .inr (13, fs))]) (hK : va_K (dC, dI) vwCl [(tE, .object RX3)] s) (hl : lv_has ls 7 [(4, .int 0), (3, .ref out), (2, .ref mo), (1, .ref h0), (0, .ref b)]) : W p l e room_1 s m #[Value.ref b] below meth c H locs 267 364933 (lw_Z below #[Value.ref b] s) (F0 m 1439 ls []) := by
  obtain ⟨hx, hb, hr, hml, hown0, hts, hX, hbl, hlocks, hgv⟩ := id C0
  have hown : s.vm.findClass RL = some m.cls := hown0
  have ht : ∀ w ∈ GT, w.before #[Value.ref b] s = true := fun w h => hts w (gt_tbl h)
  obtain ⟨A, hAd⟩ : ∃ A : Nat → Prop, A = (fun q : Nat => s.heap.size ≤ q) := ⟨_, rfl⟩
  rw [← hAd] at hE hS hD
  have hA : ∀ q : Nat, s.heap.size ≤ q → A q := fun q h => by rw [hAd]; exact h
  have hbA : ¬ A b := by rw [hAd]; exact Nat.not_le.mpr hbl
  refine lv_aload_n hx hb dL_law_1439 rfl (lv_at hl 3 rfl) ?_
  refine lv_aload_n hx hb dL_law_1440 rfl (lv_at hl 4 rfl) ?_
  refine lv_iload hx hb dL_law_1441 (lv_at hl 0 rfl) ?_
  refine lv_iconst (v := 1) hx hb dL_law_1443 (by decide) ?_
  refine lv_iadd hx hb dL_law_1444 ?_
  refine lv_topi (fun x1 ex1 => ?_)
  obtain rfl : x1 = 1 := ex1.trans (by decide)
  refine va_sld hx hb hX hbl hbA hS (vp_in_nI (n := 1) (by decide) (by decide)) dL_law_1445 ?_
  refine lv_topi (fun sy2 esy2 => ?_)
  refine lv_aload_n hx hb dL_law_1446 rfl (lv_at hl 1 rfl) ?_
  have hPc := hP.sub (ws' := [(h0, .inr (12, [.ref fi, tca, .ref ea, .ref sl, tmx, tsv])), (fi, .inr (5, [fna, fla, fv2, fv3, fv4, fv5, .int 0])), (ea, .inl (tE, 2, .inr (.inr (.inr (.inr fE))))), (e0, .inr (4, [.int ei0, ev0_1, ev0_2, ev0_3, ev0_4, ev0_5, ev0_6, .ref ak0])), (e1, .inr (4, [.int ei1, ev1_1, ev1_2, ev1_3, ev1_4, ev1_5, ev1_6, .ref ak1])), (ak0, .inr (0, [.int am0, ae0, .int 0])), (ak1, .inr (0, [.int am1, ae1, .int 0])), (sl, .inr (0, [.int sm, se, .int 0]))]) [0, 1, 2, 3, 4, 5, 6, 7] rfl
  have hDc := hD.sub (ws' := [(h0, .inr (12, [.ref fi, tca, .ref ea, .ref sl, tmx, tsv])), (fi, .inr (5, [fna, fla, fv2, fv3, fv4, fv5, .int 0])), (ea, .inl (tE, 2, .inr (.inr (.inr (.inr fE))))), (e0, .inr (4, [.int ei0, ev0_1, ev0_2, ev0_3, ev0_4, ev0_5, ev0_6, .ref ak0])), (e1, .inr (4, [.int ei1, ev1_1, ev1_2, ev1_3, ev1_4, ev1_5, ev1_6, .ref ak1])), (ak0, .inr (0, [.int am0, ae0, .int 0])), (ak1, .inr (0, [.int am1, ae1, .int 0])), (sl, .inr (0, [.int sm, se, .int 0]))]) [0, 1, 2, 3, 4, 5, 6, 7] (by decide) rfl
  have hKc := hK.sub (tys' := [(tE, .object RX3)]) [0] rfl
  have hFc := freeNil hS hA
  refine vx_calli (vx_runSX (As := [.ref h0, .int sy2, .ref out]) (rest := []) ⟨hx, hb, hml, hown, ht⟩ (k_L_agree l hL d0 cO dC dI H.size h0 ea sl tca tmx tsv tE fE sm se fi fna fla fv2 fv3 fv4 fv5 e0 ak0 ei0 am0 ev0_1 ev0_2 ev0_3 ev0_4 ev0_5 ev0_6 ae0 e1 ak1 ei1 am1 ev1_1 ev1_2 ev1_3 ev1_4 ev1_5 ev1_6 ae1 hf0 hf1 sy2 out) (my_SW ht M_L_agree q1658 q1657 (Nat.le_of_ble_eq_true rfl) (Nat.le_of_ble_eq_true rfl)) ⟨PREp.fb, fun U hU hW => ⟨rfl, PREp.mk' hE hS hFc hPc hKc U hU hW⟩⟩ rfl rfl hl.1 rfl (lv_room (Nat.le_of_ble_eq_true rfl)) dL_law_1447 ⟨(Nat.le_of_ble_eq_true rfl), (Nat.le_of_ble_eq_true rfl)⟩) hS (fun q _ h => hFc q h) hFc (fun q _ h => hFc q h) (fun E ce q9 ux t H1 locs htt hvm hw hB hz1 hk1 hS hcell hv9 hcl9 => ?_) (fun r4 u3 t H1 locs htt hvm hw hB hz1 hk1 hS => ?_)
  · skip
    exact hB.elim
  · skip
    try dsimp only at hw hB
    have hP1 := hB
    have hP := keepAll hP hk1
    generalize H1 = H at hP hS ⊢
    have hP : va_P (dC, dI) vwCl [(h0, .inr (12, [.ref fi, tca, .ref ea, .ref sl, tmx, tsv])), (fi, .inr (5, [fna, fla, fv2, fv3, fv4, fv5, .int 0])), (ea, .inl (tE, 2, .inr (.inr (.inr (.inr fE))))), (e0, .inr (4, [.int ei0, ev0_1, ev0_2, ev0_3, ev0_4, ev0_5, ev0_6, .ref ak0])), (e1, .inr (4, [.int ei1, ev1_1, ev1_2, ev1_3, ev1_4, ev1_5, ev1_6, .ref ak1])), (ak0, .inr (0, [.int am0, ae0, .int 0])), (ak1, .inr (0, [.int am1, ae1, .int 0])), (sl, .inr (0, [.int sm, se, .int 0])), (mo, .inr (13, fs))] H := hP
    have hD : va_D A [(h0, .inr (12, [.ref fi, tca, .ref ea, .ref sl, tmx, tsv])), (fi, .inr (5, [fna, fla, fv2, fv3, fv4, fv5, .int 0])), (ea, .inl (tE, 2, .inr (.inr (.inr (.inr fE))))), (e0, .inr (4, [.int ei0, ev0_1, ev0_2, ev0_3, ev0_4, ev0_5, ev0_6, .ref ak0])), (e1, .inr (4, [.int ei1, ev1_1, ev1_2, ev1_3, ev1_4, ev1_5, ev1_6, .ref ak1])), (ak0, .inr (0, [.int am0, ae0, .int 0])), (ak1, .inr (0, [.int am1, ae1, .int 0])), (sl, .inr (0, [.int sm, se, .int 0])), (mo, .inr (13, fs))] := hD
    have hK : va_K (dC, dI) vwCl [(tE, .object RX3)] s := hK
    refine W.widen (k := 268) (n := 364939) (Nat.le_of_ble_eq_true rfl) (Nat.le_of_ble_eq_true rfl) ?_
    subst hw
    refine lv_istore (lv' := [(5, .int 1), (4, .int 0), (3, .ref out), (2, .ref mo), (1, .ref h0), (0, .ref b)]) hx hb dL_law_1450 hl (by decide) rfl (fun ls hl => ?_)
    refine lv_aload_n hx hb dL_law_1452 rfl (lv_at hl 3 rfl) ?_
    refine lv_aload_n hx hb dL_law_1453 rfl (lv_at hl 5 rfl) ?_
    refine lv_iload hx hb dL_law_1454 (lv_at hl 1 rfl) ?_
    refine lv_iconst (v := 1) hx hb dL_law_1456 (by decide) ?_
    refine lv_iadd hx hb dL_law_1457 ?_
    refine lv_topi (fun x5 ex5 => ?_)
    obtain rfl : x5 = 1 := ex5.trans (by decide)
    refine va_sld hx hb hX hbl hbA hS (vp_in_nI (n := 1) (by decide) (by decide)) dL_law_1458 ?_
    refine lv_topi (fun sy6 esy6 => ?_)
    have hyy : sy2 = sy6 := esy2.trans esy6.symm
    subst hyy
    have hPc := hP.sub (ws' := [(mo, .inr (13, fs))]) [8] rfl
    have hDc := hD.sub (ws' := [(mo, .inr (13, fs))]) [8] (by decide) rfl
    have hKc := hK.sub (tys' := []) [] rfl
    have hFc := va_free (wc := [(mo, .inr (13, fs))]) hD hS hA [8] rfl
    refine va_calli (va_runV (As := [.int sy2]) (rest := []) ⟨hx, hb, hml, hown, ht⟩ (k_X12_agree l d0 cO dC dI H.size mo sy2 fs hlen hf_files) (my_V ht M_X12_agree q2359 q2360 q2358 (Nat.le_of_ble_eq_true rfl) (Nat.le_of_ble_eq_true rfl)) ⟨PRE.fb, va_recv hK hP (ci := 13) (q0 := 8) rfl rfl, fun U hU hW => ⟨rfl, PRE.mk' hE hS hFc hPc hKc hDc U hU hW⟩⟩ rfl rfl hl.1 rfl (lv_room (Nat.le_of_ble_eq_true rfl)) dL_law_1459 ⟨(Nat.le_of_ble_eq_true rfl), (Nat.le_of_ble_eq_true rfl)⟩) hS (fun q _ h => hFc q h) hFc (fun r8 u7 t H1 locs htt hvm hw hB hz1 hk1 hS => ?_)
    obtain ⟨th29, rfl⟩ : ∃ z, z = u7 := ⟨_, rfl⟩
    try dsimp only at hw hB
    obtain ⟨fs210, hx_11, hP1, hK1, hD1⟩ := hB
    rw [htt] at hP1
    have hK1 := va_K.moved hvm.symm hK1
    obtain ⟨hP, hD⟩ := va_join (wr := [(h0, .inr (12, [.ref fi, tca, .ref ea, .ref sl, tmx, tsv])), (fi, .inr (5, [fna, fla, fv2, fv3, fv4, fv5, .int 0])), (ea, .inl (tE, 2, .inr (.inr (.inr (.inr fE))))), (e0, .inr (4, [.int ei0, ev0_1, ev0_2, ev0_3, ev0_4, ev0_5, ev0_6, .ref ak0])), (e1, .inr (4, [.int ei1, ev1_1, ev1_2, ev1_3, ev1_4, ev1_5, ev1_6, .ref ak1])), (ak0, .inr (0, [.int am0, ae0, .int 0])), (ak1, .inr (0, [.int am1, ae1, .int 0])), (sl, .inr (0, [.int sm, se, .int 0]))]) (w1 := [(mo, .inr (13, fs210))]) hP hD [8] [0, 1, 2, 3, 4, 5, 6, 7] rfl rfl (by decide) (by decide) hk1 hFc hP1 hD1
    have hK := (hK.sub (tys' := [(tE, .object RX3)]) [0] rfl).app hK1
    generalize H1 = H at hP hS ⊢
    have hP : va_P (dC, dI) vwCl [(h0, .inr (12, [.ref fi, tca, .ref ea, .ref sl, tmx, tsv])), (fi, .inr (5, [fna, fla, fv2, fv3, fv4, fv5, .int 0])), (ea, .inl (tE, 2, .inr (.inr (.inr (.inr fE))))), (e0, .inr (4, [.int ei0, ev0_1, ev0_2, ev0_3, ev0_4, ev0_5, ev0_6, .ref ak0])), (e1, .inr (4, [.int ei1, ev1_1, ev1_2, ev1_3, ev1_4, ev1_5, ev1_6, .ref ak1])), (ak0, .inr (0, [.int am0, ae0, .int 0])), (ak1, .inr (0, [.int am1, ae1, .int 0])), (sl, .inr (0, [.int sm, se, .int 0])), (mo, .inr (13, fs210))] H := hP
    have hD : va_D A [(h0, .inr (12, [.ref fi, tca, .ref ea, .ref sl, tmx, tsv])), (fi, .inr (5, [fna, fla, fv2, fv3, fv4, fv5, .int 0])), (ea, .inl (tE, 2, .inr (.inr (.inr (.inr fE))))), (e0, .inr (4, [.int ei0, ev0_1, ev0_2, ev0_3, ev0_4, ev0_5, ev0_6, .ref ak0])), (e1, .inr (4, [.int ei1, ev1_1, ev1_2, ev1_3, ev1_4, ev1_5, ev1_6, .ref ak1])), (ak0, .inr (0, [.int am0, ae0, .int 0])), (ak1, .inr (0, [.int am1, ae1, .int 0])), (sl, .inr (0, [.int sm, se, .int 0])), (mo, .inr (13, fs210))] := hD
    have hK : va_K (dC, dI) vwCl [(tE, .object RX3)] s := hK
    refine W.widen (k := 268) (n := 364939) (Nat.le_of_ble_eq_true rfl) (Nat.le_of_ble_eq_true rfl) ?_
    subst hw
    refine lv_istore (lv' := [(6, .int r8), (5, .int 1), (4, .int 0), (3, .ref out), (2, .ref mo), (1, .ref h0), (0, .ref b)]) hx hb dL_law_1462 hl (by decide) rfl (fun ls hl => ?_)
    refine lv_aload_n hx hb dL_law_1464 rfl (lv_at hl 4 rfl) ?_
    have hPc := hP.sub (ws' := [(mo, .inr (13, fs210))]) [8] rfl
    have hDc := hD.sub (ws' := [(mo, .inr (13, fs210))]) [8] (by decide) rfl
    have hKc := hK.sub (tys' := []) [] rfl
    have hFc := freeNil hS hA
    refine va_calli (va_runV (As := []) (rest := []) ⟨hx, hb, hml, hown, ht⟩ (k2_thrown l d0 cO dC dI H.size mo 1 fs210 hx_11) (my_V ht M_X12_thrown q1976 q1977 q1975 (Nat.le_of_ble_eq_true rfl) (Nat.le_of_ble_eq_true rfl)) ⟨PREp.fb, va_recv hK hP (ci := 13) (q0 := 8) rfl rfl, fun U hU hW => ⟨rfl, PREp.mk' hE hS hFc hPc hKc U hU hW⟩⟩ rfl rfl hl.1 rfl (lv_room (Nat.le_of_ble_eq_true rfl)) dL_law_1465 ⟨(Nat.le_of_ble_eq_true rfl), (Nat.le_of_ble_eq_true rfl)⟩) hS (fun q _ h => hFc q h) hFc (fun r13 u12 t H1 locs htt hvm hw hB hz1 hk1 hS => ?_)
    try dsimp only at hw hB
    have hP1 := hB
    have hP := keepAll hP hk1
    generalize H1 = H at hP hS ⊢
    have hP : va_P (dC, dI) vwCl [(h0, .inr (12, [.ref fi, tca, .ref ea, .ref sl, tmx, tsv])), (fi, .inr (5, [fna, fla, fv2, fv3, fv4, fv5, .int 0])), (ea, .inl (tE, 2, .inr (.inr (.inr (.inr fE))))), (e0, .inr (4, [.int ei0, ev0_1, ev0_2, ev0_3, ev0_4, ev0_5, ev0_6, .ref ak0])), (e1, .inr (4, [.int ei1, ev1_1, ev1_2, ev1_3, ev1_4, ev1_5, ev1_6, .ref ak1])), (ak0, .inr (0, [.int am0, ae0, .int 0])), (ak1, .inr (0, [.int am1, ae1, .int 0])), (sl, .inr (0, [.int sm, se, .int 0])), (mo, .inr (13, fs210))] H := hP
    have hD : va_D A [(h0, .inr (12, [.ref fi, tca, .ref ea, .ref sl, tmx, tsv])), (fi, .inr (5, [fna, fla, fv2, fv3, fv4, fv5, .int 0])), (ea, .inl (tE, 2, .inr (.inr (.inr (.inr fE))))), (e0, .inr (4, [.int ei0, ev0_1, ev0_2, ev0_3, ev0_4, ev0_5, ev0_6, .ref ak0])), (e1, .inr (4, [.int ei1, ev1_1, ev1_2, ev1_3, ev1_4, ev1_5, ev1_6, .ref ak1])), (ak0, .inr (0, [.int am0, ae0, .int 0])), (ak1, .inr (0, [.int am1, ae1, .int 0])), (sl, .inr (0, [.int sm, se, .int 0])), (mo, .inr (13, fs210))] := hD
    have hK : va_K (dC, dI) vwCl [(tE, .object RX3)] s := hK
    refine W.widen (k := 268) (n := 364939) (Nat.le_of_ble_eq_true rfl) (Nat.le_of_ble_eq_true rfl) ?_
    subst hw
    refine lv_iload hx hb dL_law_1468 (lv_at hl 1 rfl) ?_
    refine lv_icmp_eq (tgt := 1475) hx hb dL_law_1470 (by decide) (fun c14 => ?_) (fun c14 => False.elim (by revert c14; decide))
    refine lv_iload hx hb dL_law_1475 (lv_at hl 1 rfl) ?_
    refine lv_if_ne (tgt := 1499) hx hb dL_law_1477 (by decide) (fun c15 => ?_) (fun c15 => False.elim (by revert c15; decide))
    refine lv_goto (tgt := 2038) hx hb dL_law_1499 (by decide) ?_
    refine lv_iinc (v := 8) (lv' := [(4, .int 8), (6, .int r8), (5, .int 1), (3, .ref out), (2, .ref mo), (1, .ref h0), (0, .ref b)]) hx hb dL_law_2038 hl (k := 2) rfl (by decide) (by decide) rfl (fun ls hl => ?_)
    refine lv_goto (tgt := 23) hx hb dL_law_2041 (by decide) ?_
    refine lv_iload hx hb dL_law_23 (lv_at hl 0 rfl) ?_
    refine lv_aload_n hx hb dL_law_25 rfl (lv_at hl 6 rfl) ?_
    refine va_slen hx hb hX hbl hbA hS dL_law_26 ?_
    refine W.eq (g2 := F0 m 27 ls [.int 8, .int 8]) rfl ?_
    refine lv_bipush (v := 8) hx hb dL_law_27 (by decide) ?_
    refine lv_isub hx hb dL_law_29 ?_
    refine lv_topi (fun x16 ex16 => ?_)
    obtain rfl : x16 = 0 := ex16.trans (by decide)
    refine lv_icmp_gt (tgt := 2044) hx hb dL_law_30 (by decide) (fun c17 => ?_) (fun c17 => False.elim (by revert c17; decide))
    refine lv_iconst (v := 1) hx hb dL_law_2044 (by decide) ?_
    refine W.widen (k := 600002) (n := 7302232) (Nat.le_of_ble_eq_true rfl) (Nat.le_of_ble_eq_true rfl) ?_
    refine va_forget (by have h := hS.2.2; rw [hAd] at h; exact h) ?_
    exact lw_ret hx hb hr hlocks dL_law_2045
set_option maxHeartbeats 4000000 in
set_option maxRecDepth 100000 in
theorem law_faults (l : Launch) (hL : l.stackTraces = false) {p : Program} {e : Env} {s : State} {m : MethodId} {below : List Frame} {meth : Method} {c : Code} {b : Nat} {xs : Nat → Int32} {d0 : Nat} {cO : ClassId} {dC : Nat → ClassId} {dI : Nat → Nat → Nat} {H : Heap} {locs : List Loc} {ls : Array Slot} {h0 mo out : Nat} {ea sl : Nat} {tca tmx tsv : Value} {tE : ClassId} {fE : Nat → Option Nat} {sm : Int32} {se : Value} {fi : Nat} {fna fla fv2 fv3 fv4 fv5 : Value} {e0 ak0 : Nat} {ei0 am0 : Int32} {ev0_1 ev0_2 ev0_3 ev0_4 ev0_5 ev0_6 ae0 : Value} {e1 ak1 : Nat} {ei1 am1 : Int32} {ev1_1 ev1_2 ev1_3 ev1_4 ev1_5 ev1_6 ae1 : Value} {fs : List Value} (hf0 : fE 0 = some e0) (hf1 : fE 1 = some e1) (hlen : fs.length = 75) (hf_files : fs[2]? = some (.int 0)) (C0 : lw_At p s m meth c b 8 xs) (hE : EN d0 cO (fun q : Nat => s.heap.size ≤ q) s s.heap) (hS : va_S (fun q : Nat => s.heap.size ≤ q) s.heap H locs) (hP : va_P (dC, dI) vwCl [(h0, .inr (12, [.ref fi, tca, .ref ea, .ref sl, tmx, tsv])), (fi, .inr (5, [fna, fla, fv2, fv3, fv4, fv5, .int 0])), (ea, .inl (tE, 2, .inr (.inr (.inr (.inr fE))))), (e0, .inr (4, [.int ei0, ev0_1, ev0_2, ev0_3, ev0_4, ev0_5, ev0_6, .ref ak0])), (e1, .inr (4, [.int ei1, ev1_1, ev1_2, ev1_3, ev1_4, ev1_5, ev1_6, .ref ak1])), (ak0, .inr (0, [.int am0, ae0, .int 0])), (ak1, .inr (0, [.int am1, ae1, .int 0])), (sl, .inr (0, [.int sm, se, .int 0])), (mo, .inr (13, fs))] H) (hD : va_D (fun q : Nat => s.heap.size ≤ q) [(h0, .inr (12, [.ref fi, tca, .ref ea, .ref sl, tmx, tsv])), (fi, .inr (5, [fna, fla, fv2, fv3, fv4, fv5, .int 0])), (ea, .inl (tE, 2, .inr (.inr (.inr (.inr fE))))), (e0, .inr (4, [.int ei0, ev0_1, ev0_2, ev0_3, ev0_4, ev0_5, ev0_6, .ref ak0])), (e1, .inr (4, [.int ei1, ev1_1, ev1_2, ev1_3, ev1_4, ev1_5, ev1_6, .ref ak1])), (ak0, .inr (0, [.int am0, ae0, .int 0])), (ak1, .inr (0, [.int am1, ae1, .int 0])), (sl, .inr (0, [.int sm, se, .int 0])), (mo, .inr (13, fs))]) (hK : va_K (dC, dI) vwCl [(tE, .object RX3)] s) (hl : lv_has ls 7 [(4, .int 0), (3, .ref out), (2, .ref mo), (1, .ref h0), (0, .ref b)]) : W p l e room_1 s m #[Value.ref b] below meth c H locs 267 364933 (lw_Z below #[Value.ref b] s) (F0 m 1890 ls []) := by
  obtain ⟨hx, hb, hr, hml, hown0, hts, hX, hbl, hlocks, hgv⟩ := id C0
  have hown : s.vm.findClass RL = some m.cls := hown0
  have ht : ∀ w ∈ GT, w.before #[Value.ref b] s = true := fun w h => hts w (gt_tbl h)
  obtain ⟨A, hAd⟩ : ∃ A : Nat → Prop, A = (fun q : Nat => s.heap.size ≤ q) := ⟨_, rfl⟩
  rw [← hAd] at hE hS hD
  have hA : ∀ q : Nat, s.heap.size ≤ q → A q := fun q h => by rw [hAd]; exact h
  have hbA : ¬ A b := by rw [hAd]; exact Nat.not_le.mpr hbl
  refine lv_aload_n hx hb dL_law_1890 rfl (lv_at hl 3 rfl) ?_
  refine lv_aload_n hx hb dL_law_1891 rfl (lv_at hl 4 rfl) ?_
  refine lv_iload hx hb dL_law_1892 (lv_at hl 0 rfl) ?_
  refine lv_iconst (v := 1) hx hb dL_law_1894 (by decide) ?_
  refine lv_iadd hx hb dL_law_1895 ?_
  refine lv_topi (fun x1 ex1 => ?_)
  obtain rfl : x1 = 1 := ex1.trans (by decide)
  refine va_sld hx hb hX hbl hbA hS (vp_in_nI (n := 1) (by decide) (by decide)) dL_law_1896 ?_
  refine lv_topi (fun sy2 esy2 => ?_)
  refine lv_aload_n hx hb dL_law_1897 rfl (lv_at hl 4 rfl) ?_
  refine lv_iload hx hb dL_law_1898 (lv_at hl 0 rfl) ?_
  refine lv_iconst (v := 2) hx hb dL_law_1900 (by decide) ?_
  refine lv_iadd hx hb dL_law_1901 ?_
  refine lv_topi (fun x3 ex3 => ?_)
  obtain rfl : x3 = 2 := ex3.trans (by decide)
  refine va_sld hx hb hX hbl hbA hS (vp_in_nI (n := 2) (by decide) (by decide)) dL_law_1902 ?_
  refine lv_topi (fun sy4 esy4 => ?_)
  refine lv_aload_n hx hb dL_law_1903 rfl (lv_at hl 1 rfl) ?_
  have hPc := hP.sub (ws' := [(h0, .inr (12, [.ref fi, tca, .ref ea, .ref sl, tmx, tsv])), (fi, .inr (5, [fna, fla, fv2, fv3, fv4, fv5, .int 0])), (ea, .inl (tE, 2, .inr (.inr (.inr (.inr fE))))), (e0, .inr (4, [.int ei0, ev0_1, ev0_2, ev0_3, ev0_4, ev0_5, ev0_6, .ref ak0])), (e1, .inr (4, [.int ei1, ev1_1, ev1_2, ev1_3, ev1_4, ev1_5, ev1_6, .ref ak1])), (ak0, .inr (0, [.int am0, ae0, .int 0])), (ak1, .inr (0, [.int am1, ae1, .int 0])), (sl, .inr (0, [.int sm, se, .int 0]))]) [0, 1, 2, 3, 4, 5, 6, 7] rfl
  have hDc := hD.sub (ws' := [(h0, .inr (12, [.ref fi, tca, .ref ea, .ref sl, tmx, tsv])), (fi, .inr (5, [fna, fla, fv2, fv3, fv4, fv5, .int 0])), (ea, .inl (tE, 2, .inr (.inr (.inr (.inr fE))))), (e0, .inr (4, [.int ei0, ev0_1, ev0_2, ev0_3, ev0_4, ev0_5, ev0_6, .ref ak0])), (e1, .inr (4, [.int ei1, ev1_1, ev1_2, ev1_3, ev1_4, ev1_5, ev1_6, .ref ak1])), (ak0, .inr (0, [.int am0, ae0, .int 0])), (ak1, .inr (0, [.int am1, ae1, .int 0])), (sl, .inr (0, [.int sm, se, .int 0]))]) [0, 1, 2, 3, 4, 5, 6, 7] (by decide) rfl
  have hKc := hK.sub (tys' := [(tE, .object RX3)]) [0] rfl
  have hFc := freeNil hS hA
  refine vx_calli (vx_runSX (As := [.ref h0, .int sy2, .int sy4, .ref out]) (rest := []) ⟨hx, hb, hml, hown, ht⟩ (k_L_faults l hL d0 cO dC dI H.size h0 ea sl tca tmx tsv tE fE sm se fi fna fla fv2 fv3 fv4 fv5 e0 ak0 ei0 am0 ev0_1 ev0_2 ev0_3 ev0_4 ev0_5 ev0_6 ae0 e1 ak1 ei1 am1 ev1_1 ev1_2 ev1_3 ev1_4 ev1_5 ev1_6 ae1 hf0 hf1 sy2 sy4 out) (my_SW ht M_L_faults q1726 q1725 (Nat.le_of_ble_eq_true rfl) (Nat.le_of_ble_eq_true rfl)) ⟨PREp.fb, fun U hU hW => ⟨rfl, PREp.mk' hE hS hFc hPc hKc U hU hW⟩⟩ rfl rfl hl.1 rfl (lv_room (Nat.le_of_ble_eq_true rfl)) dL_law_1904 ⟨(Nat.le_of_ble_eq_true rfl), (Nat.le_of_ble_eq_true rfl)⟩) hS (fun q _ h => hFc q h) hFc (fun q _ h => hFc q h) (fun E ce q9 ux t H1 locs htt hvm hw hB hz1 hk1 hS hcell hv9 hcl9 => ?_) (fun r6 u5 t H1 locs htt hvm hw hB hz1 hk1 hS => ?_)
  · skip
    exact hB.elim
  · skip
    try dsimp only at hw hB
    have hP1 := hB
    have hP := keepAll hP hk1
    generalize H1 = H at hP hS ⊢
    have hP : va_P (dC, dI) vwCl [(h0, .inr (12, [.ref fi, tca, .ref ea, .ref sl, tmx, tsv])), (fi, .inr (5, [fna, fla, fv2, fv3, fv4, fv5, .int 0])), (ea, .inl (tE, 2, .inr (.inr (.inr (.inr fE))))), (e0, .inr (4, [.int ei0, ev0_1, ev0_2, ev0_3, ev0_4, ev0_5, ev0_6, .ref ak0])), (e1, .inr (4, [.int ei1, ev1_1, ev1_2, ev1_3, ev1_4, ev1_5, ev1_6, .ref ak1])), (ak0, .inr (0, [.int am0, ae0, .int 0])), (ak1, .inr (0, [.int am1, ae1, .int 0])), (sl, .inr (0, [.int sm, se, .int 0])), (mo, .inr (13, fs))] H := hP
    have hD : va_D A [(h0, .inr (12, [.ref fi, tca, .ref ea, .ref sl, tmx, tsv])), (fi, .inr (5, [fna, fla, fv2, fv3, fv4, fv5, .int 0])), (ea, .inl (tE, 2, .inr (.inr (.inr (.inr fE))))), (e0, .inr (4, [.int ei0, ev0_1, ev0_2, ev0_3, ev0_4, ev0_5, ev0_6, .ref ak0])), (e1, .inr (4, [.int ei1, ev1_1, ev1_2, ev1_3, ev1_4, ev1_5, ev1_6, .ref ak1])), (ak0, .inr (0, [.int am0, ae0, .int 0])), (ak1, .inr (0, [.int am1, ae1, .int 0])), (sl, .inr (0, [.int sm, se, .int 0])), (mo, .inr (13, fs))] := hD
    have hK : va_K (dC, dI) vwCl [(tE, .object RX3)] s := hK
    refine W.widen (k := 269) (n := 364945) (Nat.le_of_ble_eq_true rfl) (Nat.le_of_ble_eq_true rfl) ?_
    subst hw
    refine lv_istore (lv' := [(5, .int 1), (4, .int 0), (3, .ref out), (2, .ref mo), (1, .ref h0), (0, .ref b)]) hx hb dL_law_1907 hl (by decide) rfl (fun ls hl => ?_)
    refine lv_aload_n hx hb dL_law_1909 rfl (lv_at hl 3 rfl) ?_
    refine lv_aload_n hx hb dL_law_1910 rfl (lv_at hl 5 rfl) ?_
    refine lv_iload hx hb dL_law_1911 (lv_at hl 1 rfl) ?_
    refine lv_iconst (v := 1) hx hb dL_law_1913 (by decide) ?_
    refine lv_iadd hx hb dL_law_1914 ?_
    refine lv_topi (fun x7 ex7 => ?_)
    obtain rfl : x7 = 1 := ex7.trans (by decide)
    refine va_sld hx hb hX hbl hbA hS (vp_in_nI (n := 1) (by decide) (by decide)) dL_law_1915 ?_
    refine lv_topi (fun sy8 esy8 => ?_)
    have hyy : sy2 = sy8 := esy2.trans esy8.symm
    subst hyy
    refine lv_aload_n hx hb dL_law_1916 rfl (lv_at hl 5 rfl) ?_
    refine lv_iload hx hb dL_law_1917 (lv_at hl 1 rfl) ?_
    refine lv_iconst (v := 2) hx hb dL_law_1919 (by decide) ?_
    refine lv_iadd hx hb dL_law_1920 ?_
    refine lv_topi (fun x9 ex9 => ?_)
    obtain rfl : x9 = 2 := ex9.trans (by decide)
    refine va_sld hx hb hX hbl hbA hS (vp_in_nI (n := 2) (by decide) (by decide)) dL_law_1921 ?_
    refine lv_topi (fun sy10 esy10 => ?_)
    have hyy : sy4 = sy10 := esy4.trans esy10.symm
    subst hyy
    have hPc := hP.sub (ws' := [(mo, .inr (13, fs))]) [8] rfl
    have hDc := hD.sub (ws' := [(mo, .inr (13, fs))]) [8] (by decide) rfl
    have hKc := hK.sub (tys' := []) [] rfl
    have hFc := va_free (wc := [(mo, .inr (13, fs))]) hD hS hA [8] rfl
    refine va_calli (va_runV (As := [.int sy2, .int sy4]) (rest := []) ⟨hx, hb, hml, hown, ht⟩ (k_X12_faults l d0 cO dC dI H.size mo sy2 sy4 fs hlen hf_files) (my_V ht M_X12_faults q2393 q2394 q2392 (Nat.le_of_ble_eq_true rfl) (Nat.le_of_ble_eq_true rfl)) ⟨PRE.fb, va_recv hK hP (ci := 13) (q0 := 8) rfl rfl, fun U hU hW => ⟨rfl, PRE.mk' hE hS hFc hPc hKc hDc U hU hW⟩⟩ rfl rfl hl.1 rfl (lv_room (Nat.le_of_ble_eq_true rfl)) dL_law_1922 ⟨(Nat.le_of_ble_eq_true rfl), (Nat.le_of_ble_eq_true rfl)⟩) hS (fun q _ h => hFc q h) hFc (fun r12 u11 t H1 locs htt hvm hw hB hz1 hk1 hS => ?_)
    obtain ⟨th213, rfl⟩ : ∃ z, z = u11 := ⟨_, rfl⟩
    try dsimp only at hw hB
    obtain ⟨fs214, hx_15, hP1, hK1, hD1⟩ := hB
    rw [htt] at hP1
    have hK1 := va_K.moved hvm.symm hK1
    obtain ⟨hP, hD⟩ := va_join (wr := [(h0, .inr (12, [.ref fi, tca, .ref ea, .ref sl, tmx, tsv])), (fi, .inr (5, [fna, fla, fv2, fv3, fv4, fv5, .int 0])), (ea, .inl (tE, 2, .inr (.inr (.inr (.inr fE))))), (e0, .inr (4, [.int ei0, ev0_1, ev0_2, ev0_3, ev0_4, ev0_5, ev0_6, .ref ak0])), (e1, .inr (4, [.int ei1, ev1_1, ev1_2, ev1_3, ev1_4, ev1_5, ev1_6, .ref ak1])), (ak0, .inr (0, [.int am0, ae0, .int 0])), (ak1, .inr (0, [.int am1, ae1, .int 0])), (sl, .inr (0, [.int sm, se, .int 0]))]) (w1 := [(mo, .inr (13, fs214))]) hP hD [8] [0, 1, 2, 3, 4, 5, 6, 7] rfl rfl (by decide) (by decide) hk1 hFc hP1 hD1
    have hK := (hK.sub (tys' := [(tE, .object RX3)]) [0] rfl).app hK1
    generalize H1 = H at hP hS ⊢
    have hP : va_P (dC, dI) vwCl [(h0, .inr (12, [.ref fi, tca, .ref ea, .ref sl, tmx, tsv])), (fi, .inr (5, [fna, fla, fv2, fv3, fv4, fv5, .int 0])), (ea, .inl (tE, 2, .inr (.inr (.inr (.inr fE))))), (e0, .inr (4, [.int ei0, ev0_1, ev0_2, ev0_3, ev0_4, ev0_5, ev0_6, .ref ak0])), (e1, .inr (4, [.int ei1, ev1_1, ev1_2, ev1_3, ev1_4, ev1_5, ev1_6, .ref ak1])), (ak0, .inr (0, [.int am0, ae0, .int 0])), (ak1, .inr (0, [.int am1, ae1, .int 0])), (sl, .inr (0, [.int sm, se, .int 0])), (mo, .inr (13, fs214))] H := hP
    have hD : va_D A [(h0, .inr (12, [.ref fi, tca, .ref ea, .ref sl, tmx, tsv])), (fi, .inr (5, [fna, fla, fv2, fv3, fv4, fv5, .int 0])), (ea, .inl (tE, 2, .inr (.inr (.inr (.inr fE))))), (e0, .inr (4, [.int ei0, ev0_1, ev0_2, ev0_3, ev0_4, ev0_5, ev0_6, .ref ak0])), (e1, .inr (4, [.int ei1, ev1_1, ev1_2, ev1_3, ev1_4, ev1_5, ev1_6, .ref ak1])), (ak0, .inr (0, [.int am0, ae0, .int 0])), (ak1, .inr (0, [.int am1, ae1, .int 0])), (sl, .inr (0, [.int sm, se, .int 0])), (mo, .inr (13, fs214))] := hD
    have hK : va_K (dC, dI) vwCl [(tE, .object RX3)] s := hK
    refine W.widen (k := 269) (n := 364945) (Nat.le_of_ble_eq_true rfl) (Nat.le_of_ble_eq_true rfl) ?_
    subst hw
    refine lv_istore (lv' := [(6, .int r12), (5, .int 1), (4, .int 0), (3, .ref out), (2, .ref mo), (1, .ref h0), (0, .ref b)]) hx hb dL_law_1925 hl (by decide) rfl (fun ls hl => ?_)
    refine lv_aload_n hx hb dL_law_1927 rfl (lv_at hl 4 rfl) ?_
    have hPc := hP.sub (ws' := [(mo, .inr (13, fs214))]) [8] rfl
    have hDc := hD.sub (ws' := [(mo, .inr (13, fs214))]) [8] (by decide) rfl
    have hKc := hK.sub (tys' := []) [] rfl
    have hFc := freeNil hS hA
    refine va_calli (va_runV (As := []) (rest := []) ⟨hx, hb, hml, hown, ht⟩ (k2_thrown l d0 cO dC dI H.size mo 1 fs214 hx_15) (my_V ht M_X12_thrown q1976 q1977 q1975 (Nat.le_of_ble_eq_true rfl) (Nat.le_of_ble_eq_true rfl)) ⟨PREp.fb, va_recv hK hP (ci := 13) (q0 := 8) rfl rfl, fun U hU hW => ⟨rfl, PREp.mk' hE hS hFc hPc hKc U hU hW⟩⟩ rfl rfl hl.1 rfl (lv_room (Nat.le_of_ble_eq_true rfl)) dL_law_1928 ⟨(Nat.le_of_ble_eq_true rfl), (Nat.le_of_ble_eq_true rfl)⟩) hS (fun q _ h => hFc q h) hFc (fun r17 u16 t H1 locs htt hvm hw hB hz1 hk1 hS => ?_)
    try dsimp only at hw hB
    have hP1 := hB
    have hP := keepAll hP hk1
    generalize H1 = H at hP hS ⊢
    have hP : va_P (dC, dI) vwCl [(h0, .inr (12, [.ref fi, tca, .ref ea, .ref sl, tmx, tsv])), (fi, .inr (5, [fna, fla, fv2, fv3, fv4, fv5, .int 0])), (ea, .inl (tE, 2, .inr (.inr (.inr (.inr fE))))), (e0, .inr (4, [.int ei0, ev0_1, ev0_2, ev0_3, ev0_4, ev0_5, ev0_6, .ref ak0])), (e1, .inr (4, [.int ei1, ev1_1, ev1_2, ev1_3, ev1_4, ev1_5, ev1_6, .ref ak1])), (ak0, .inr (0, [.int am0, ae0, .int 0])), (ak1, .inr (0, [.int am1, ae1, .int 0])), (sl, .inr (0, [.int sm, se, .int 0])), (mo, .inr (13, fs214))] H := hP
    have hD : va_D A [(h0, .inr (12, [.ref fi, tca, .ref ea, .ref sl, tmx, tsv])), (fi, .inr (5, [fna, fla, fv2, fv3, fv4, fv5, .int 0])), (ea, .inl (tE, 2, .inr (.inr (.inr (.inr fE))))), (e0, .inr (4, [.int ei0, ev0_1, ev0_2, ev0_3, ev0_4, ev0_5, ev0_6, .ref ak0])), (e1, .inr (4, [.int ei1, ev1_1, ev1_2, ev1_3, ev1_4, ev1_5, ev1_6, .ref ak1])), (ak0, .inr (0, [.int am0, ae0, .int 0])), (ak1, .inr (0, [.int am1, ae1, .int 0])), (sl, .inr (0, [.int sm, se, .int 0])), (mo, .inr (13, fs214))] := hD
    have hK : va_K (dC, dI) vwCl [(tE, .object RX3)] s := hK
    refine W.widen (k := 269) (n := 364945) (Nat.le_of_ble_eq_true rfl) (Nat.le_of_ble_eq_true rfl) ?_
    subst hw
    refine lv_iload hx hb dL_law_1931 (lv_at hl 1 rfl) ?_
    refine lv_icmp_eq (tgt := 1938) hx hb dL_law_1933 (by decide) (fun c18 => ?_) (fun c18 => False.elim (by revert c18; decide))
    refine lv_iload hx hb dL_law_1938 (lv_at hl 1 rfl) ?_
    refine lv_if_ne (tgt := 1955) hx hb dL_law_1940 (by decide) (fun c19 => ?_) (fun c19 => False.elim (by revert c19; decide))
    refine lv_goto (tgt := 2038) hx hb dL_law_1955 (by decide) ?_
    refine lv_iinc (v := 8) (lv' := [(4, .int 8), (6, .int r12), (5, .int 1), (3, .ref out), (2, .ref mo), (1, .ref h0), (0, .ref b)]) hx hb dL_law_2038 hl (k := 2) rfl (by decide) (by decide) rfl (fun ls hl => ?_)
    refine lv_goto (tgt := 23) hx hb dL_law_2041 (by decide) ?_
    refine lv_iload hx hb dL_law_23 (lv_at hl 0 rfl) ?_
    refine lv_aload_n hx hb dL_law_25 rfl (lv_at hl 6 rfl) ?_
    refine va_slen hx hb hX hbl hbA hS dL_law_26 ?_
    refine W.eq (g2 := F0 m 27 ls [.int 8, .int 8]) rfl ?_
    refine lv_bipush (v := 8) hx hb dL_law_27 (by decide) ?_
    refine lv_isub hx hb dL_law_29 ?_
    refine lv_topi (fun x20 ex20 => ?_)
    obtain rfl : x20 = 0 := ex20.trans (by decide)
    refine lv_icmp_gt (tgt := 2044) hx hb dL_law_30 (by decide) (fun c21 => ?_) (fun c21 => False.elim (by revert c21; decide))
    refine lv_iconst (v := 1) hx hb dL_law_2044 (by decide) ?_
    refine W.widen (k := 600002) (n := 7302232) (Nat.le_of_ble_eq_true rfl) (Nat.le_of_ble_eq_true rfl) ?_
    refine va_forget (by have h := hS.2.2; rw [hAd] at h; exact h) ?_
    exact lw_ret hx hb hr hlocks dL_law_2045
set_option maxHeartbeats 4000000 in
set_option maxRecDepth 100000 in
theorem law_fault (l : Launch) (hL : l.stackTraces = false) {p : Program} {e : Env} {s : State} {m : MethodId} {below : List Frame} {meth : Method} {c : Code} {b : Nat} {xs : Nat → Int32} {d0 : Nat} {cO : ClassId} {dC : Nat → ClassId} {dI : Nat → Nat → Nat} {H : Heap} {locs : List Loc} {ls : Array Slot} {h0 mo out : Nat} {ea sl : Nat} {tca tmx tsv : Value} {tE : ClassId} {fE : Nat → Option Nat} {sm : Int32} {se : Value} {fi : Nat} {fna fla fv2 fv3 fv4 fv5 : Value} {e0 ak0 : Nat} {ei0 am0 : Int32} {ev0_1 ev0_2 ev0_3 ev0_4 ev0_5 ev0_6 ae0 : Value} {e1 ak1 : Nat} {ei1 am1 : Int32} {ev1_1 ev1_2 ev1_3 ev1_4 ev1_5 ev1_6 ae1 : Value} {fs : List Value} (hf0 : fE 0 = some e0) (hf1 : fE 1 = some e1) (hlen : fs.length = 75) (hf_files : fs[2]? = some (.int 0)) (C0 : lw_At p s m meth c b 8 xs) (hE : EN d0 cO (fun q : Nat => s.heap.size ≤ q) s s.heap) (hS : va_S (fun q : Nat => s.heap.size ≤ q) s.heap H locs) (hP : va_P (dC, dI) vwCl [(h0, .inr (12, [.ref fi, tca, .ref ea, .ref sl, tmx, tsv])), (fi, .inr (5, [fna, fla, fv2, fv3, fv4, fv5, .int 0])), (ea, .inl (tE, 2, .inr (.inr (.inr (.inr fE))))), (e0, .inr (4, [.int ei0, ev0_1, ev0_2, ev0_3, ev0_4, ev0_5, ev0_6, .ref ak0])), (e1, .inr (4, [.int ei1, ev1_1, ev1_2, ev1_3, ev1_4, ev1_5, ev1_6, .ref ak1])), (ak0, .inr (0, [.int am0, ae0, .int 0])), (ak1, .inr (0, [.int am1, ae1, .int 0])), (sl, .inr (0, [.int sm, se, .int 0])), (mo, .inr (13, fs))] H) (hD : va_D (fun q : Nat => s.heap.size ≤ q) [(h0, .inr (12, [.ref fi, tca, .ref ea, .ref sl, tmx, tsv])), (fi, .inr (5, [fna, fla, fv2, fv3, fv4, fv5, .int 0])), (ea, .inl (tE, 2, .inr (.inr (.inr (.inr fE))))), (e0, .inr (4, [.int ei0, ev0_1, ev0_2, ev0_3, ev0_4, ev0_5, ev0_6, .ref ak0])), (e1, .inr (4, [.int ei1, ev1_1, ev1_2, ev1_3, ev1_4, ev1_5, ev1_6, .ref ak1])), (ak0, .inr (0, [.int am0, ae0, .int 0])), (ak1, .inr (0, [.int am1, ae1, .int 0])), (sl, .inr (0, [.int sm, se, .int 0])), (mo, .inr (13, fs))]) (hK : va_K (dC, dI) vwCl [(tE, .object RX3)] s) (hl : lv_has ls 7 [(4, .int 0), (3, .ref out), (2, .ref mo), (1, .ref h0), (0, .ref b)]) : W p l e room_1 s m #[Value.ref b] below meth c H locs 267 364933 (lw_Z below #[Value.ref b] s) (F0 m 1958 ls []) := by
  obtain ⟨hx, hb, hr, hml, hown0, hts, hX, hbl, hlocks, hgv⟩ := id C0
  have hown : s.vm.findClass RL = some m.cls := hown0
  have ht : ∀ w ∈ GT, w.before #[Value.ref b] s = true := fun w h => hts w (gt_tbl h)
  obtain ⟨A, hAd⟩ : ∃ A : Nat → Prop, A = (fun q : Nat => s.heap.size ≤ q) := ⟨_, rfl⟩
  rw [← hAd] at hE hS hD
  have hA : ∀ q : Nat, s.heap.size ≤ q → A q := fun q h => by rw [hAd]; exact h
  have hbA : ¬ A b := by rw [hAd]; exact Nat.not_le.mpr hbl
  refine lv_aload_n hx hb dL_law_1958 rfl (lv_at hl 3 rfl) ?_
  refine lv_aload_n hx hb dL_law_1959 rfl (lv_at hl 4 rfl) ?_
  refine lv_iload hx hb dL_law_1960 (lv_at hl 0 rfl) ?_
  refine lv_iconst (v := 1) hx hb dL_law_1962 (by decide) ?_
  refine lv_iadd hx hb dL_law_1963 ?_
  refine lv_topi (fun x1 ex1 => ?_)
  obtain rfl : x1 = 1 := ex1.trans (by decide)
  refine va_sld hx hb hX hbl hbA hS (vp_in_nI (n := 1) (by decide) (by decide)) dL_law_1964 ?_
  refine lv_topi (fun sy2 esy2 => ?_)
  refine lv_aload_n hx hb dL_law_1965 rfl (lv_at hl 4 rfl) ?_
  refine lv_iload hx hb dL_law_1966 (lv_at hl 0 rfl) ?_
  refine lv_iconst (v := 2) hx hb dL_law_1968 (by decide) ?_
  refine lv_iadd hx hb dL_law_1969 ?_
  refine lv_topi (fun x3 ex3 => ?_)
  obtain rfl : x3 = 2 := ex3.trans (by decide)
  refine va_sld hx hb hX hbl hbA hS (vp_in_nI (n := 2) (by decide) (by decide)) dL_law_1970 ?_
  refine lv_topi (fun sy4 esy4 => ?_)
  refine lv_aload_n hx hb dL_law_1971 rfl (lv_at hl 4 rfl) ?_
  refine lv_iload hx hb dL_law_1972 (lv_at hl 0 rfl) ?_
  refine lv_iconst (v := 3) hx hb dL_law_1974 (by decide) ?_
  refine lv_iadd hx hb dL_law_1975 ?_
  refine lv_topi (fun x5 ex5 => ?_)
  obtain rfl : x5 = 3 := ex5.trans (by decide)
  refine va_sld hx hb hX hbl hbA hS (vp_in_nI (n := 3) (by decide) (by decide)) dL_law_1976 ?_
  refine lv_topi (fun sy6 esy6 => ?_)
  refine lv_aload_n hx hb dL_law_1977 rfl (lv_at hl 1 rfl) ?_
  have hPc := hP.sub (ws' := [(h0, .inr (12, [.ref fi, tca, .ref ea, .ref sl, tmx, tsv])), (fi, .inr (5, [fna, fla, fv2, fv3, fv4, fv5, .int 0])), (ea, .inl (tE, 2, .inr (.inr (.inr (.inr fE))))), (e0, .inr (4, [.int ei0, ev0_1, ev0_2, ev0_3, ev0_4, ev0_5, ev0_6, .ref ak0])), (e1, .inr (4, [.int ei1, ev1_1, ev1_2, ev1_3, ev1_4, ev1_5, ev1_6, .ref ak1])), (ak0, .inr (0, [.int am0, ae0, .int 0])), (ak1, .inr (0, [.int am1, ae1, .int 0])), (sl, .inr (0, [.int sm, se, .int 0]))]) [0, 1, 2, 3, 4, 5, 6, 7] rfl
  have hDc := hD.sub (ws' := [(h0, .inr (12, [.ref fi, tca, .ref ea, .ref sl, tmx, tsv])), (fi, .inr (5, [fna, fla, fv2, fv3, fv4, fv5, .int 0])), (ea, .inl (tE, 2, .inr (.inr (.inr (.inr fE))))), (e0, .inr (4, [.int ei0, ev0_1, ev0_2, ev0_3, ev0_4, ev0_5, ev0_6, .ref ak0])), (e1, .inr (4, [.int ei1, ev1_1, ev1_2, ev1_3, ev1_4, ev1_5, ev1_6, .ref ak1])), (ak0, .inr (0, [.int am0, ae0, .int 0])), (ak1, .inr (0, [.int am1, ae1, .int 0])), (sl, .inr (0, [.int sm, se, .int 0]))]) [0, 1, 2, 3, 4, 5, 6, 7] (by decide) rfl
  have hKc := hK.sub (tys' := [(tE, .object RX3)]) [0] rfl
  have hFc := freeNil hS hA
  refine vx_calli (vx_runSX (As := [.ref h0, .int sy2, .int sy4, .int sy6, .ref out]) (rest := []) ⟨hx, hb, hml, hown, ht⟩ (k_L_fault l hL d0 cO dC dI H.size h0 ea sl tca tmx tsv tE fE sm se fi fna fla fv2 fv3 fv4 fv5 e0 ak0 ei0 am0 ev0_1 ev0_2 ev0_3 ev0_4 ev0_5 ev0_6 ae0 e1 ak1 ei1 am1 ev1_1 ev1_2 ev1_3 ev1_4 ev1_5 ev1_6 ae1 hf0 hf1 sy2 sy4 sy6 out) (my_SW ht M_L_fault q1734 q1733 (Nat.le_of_ble_eq_true rfl) (Nat.le_of_ble_eq_true rfl)) ⟨PREp.fb, fun U hU hW => ⟨rfl, PREp.mk' hE hS hFc hPc hKc U hU hW⟩⟩ rfl rfl hl.1 rfl (lv_room (Nat.le_of_ble_eq_true rfl)) dL_law_1978 ⟨(Nat.le_of_ble_eq_true rfl), (Nat.le_of_ble_eq_true rfl)⟩) hS (fun q _ h => hFc q h) hFc (fun q _ h => hFc q h) (fun E ce q9 ux t H1 locs htt hvm hw hB hz1 hk1 hS hcell hv9 hcl9 => ?_) (fun r8 u7 t H1 locs htt hvm hw hB hz1 hk1 hS => ?_)
  · skip
    exact hB.elim
  · skip
    try dsimp only at hw hB
    have hP1 := hB
    have hP := keepAll hP hk1
    generalize H1 = H at hP hS ⊢
    have hP : va_P (dC, dI) vwCl [(h0, .inr (12, [.ref fi, tca, .ref ea, .ref sl, tmx, tsv])), (fi, .inr (5, [fna, fla, fv2, fv3, fv4, fv5, .int 0])), (ea, .inl (tE, 2, .inr (.inr (.inr (.inr fE))))), (e0, .inr (4, [.int ei0, ev0_1, ev0_2, ev0_3, ev0_4, ev0_5, ev0_6, .ref ak0])), (e1, .inr (4, [.int ei1, ev1_1, ev1_2, ev1_3, ev1_4, ev1_5, ev1_6, .ref ak1])), (ak0, .inr (0, [.int am0, ae0, .int 0])), (ak1, .inr (0, [.int am1, ae1, .int 0])), (sl, .inr (0, [.int sm, se, .int 0])), (mo, .inr (13, fs))] H := hP
    have hD : va_D A [(h0, .inr (12, [.ref fi, tca, .ref ea, .ref sl, tmx, tsv])), (fi, .inr (5, [fna, fla, fv2, fv3, fv4, fv5, .int 0])), (ea, .inl (tE, 2, .inr (.inr (.inr (.inr fE))))), (e0, .inr (4, [.int ei0, ev0_1, ev0_2, ev0_3, ev0_4, ev0_5, ev0_6, .ref ak0])), (e1, .inr (4, [.int ei1, ev1_1, ev1_2, ev1_3, ev1_4, ev1_5, ev1_6, .ref ak1])), (ak0, .inr (0, [.int am0, ae0, .int 0])), (ak1, .inr (0, [.int am1, ae1, .int 0])), (sl, .inr (0, [.int sm, se, .int 0])), (mo, .inr (13, fs))] := hD
    have hK : va_K (dC, dI) vwCl [(tE, .object RX3)] s := hK
    refine W.widen (k := 269) (n := 364945) (Nat.le_of_ble_eq_true rfl) (Nat.le_of_ble_eq_true rfl) ?_
    subst hw
    refine lv_istore (lv' := [(5, .int 1), (4, .int 0), (3, .ref out), (2, .ref mo), (1, .ref h0), (0, .ref b)]) hx hb dL_law_1981 hl (by decide) rfl (fun ls hl => ?_)
    refine lv_aload_n hx hb dL_law_1983 rfl (lv_at hl 3 rfl) ?_
    refine lv_aload_n hx hb dL_law_1984 rfl (lv_at hl 5 rfl) ?_
    refine lv_iload hx hb dL_law_1985 (lv_at hl 1 rfl) ?_
    refine lv_iconst (v := 1) hx hb dL_law_1987 (by decide) ?_
    refine lv_iadd hx hb dL_law_1988 ?_
    refine lv_topi (fun x9 ex9 => ?_)
    obtain rfl : x9 = 1 := ex9.trans (by decide)
    refine va_sld hx hb hX hbl hbA hS (vp_in_nI (n := 1) (by decide) (by decide)) dL_law_1989 ?_
    refine lv_topi (fun sy10 esy10 => ?_)
    have hyy : sy2 = sy10 := esy2.trans esy10.symm
    subst hyy
    refine lv_aload_n hx hb dL_law_1990 rfl (lv_at hl 5 rfl) ?_
    refine lv_iload hx hb dL_law_1991 (lv_at hl 1 rfl) ?_
    refine lv_iconst (v := 2) hx hb dL_law_1993 (by decide) ?_
    refine lv_iadd hx hb dL_law_1994 ?_
    refine lv_topi (fun x11 ex11 => ?_)
    obtain rfl : x11 = 2 := ex11.trans (by decide)
    refine va_sld hx hb hX hbl hbA hS (vp_in_nI (n := 2) (by decide) (by decide)) dL_law_1995 ?_
    refine lv_topi (fun sy12 esy12 => ?_)
    have hyy : sy4 = sy12 := esy4.trans esy12.symm
    subst hyy
    refine lv_aload_n hx hb dL_law_1996 rfl (lv_at hl 5 rfl) ?_
    refine lv_iload hx hb dL_law_1997 (lv_at hl 1 rfl) ?_
    refine lv_iconst (v := 3) hx hb dL_law_1999 (by decide) ?_
    refine lv_iadd hx hb dL_law_2000 ?_
    refine lv_topi (fun x13 ex13 => ?_)
    obtain rfl : x13 = 3 := ex13.trans (by decide)
    refine va_sld hx hb hX hbl hbA hS (vp_in_nI (n := 3) (by decide) (by decide)) dL_law_2001 ?_
    refine lv_topi (fun sy14 esy14 => ?_)
    have hyy : sy6 = sy14 := esy6.trans esy14.symm
    subst hyy
    have hPc := hP.sub (ws' := [(mo, .inr (13, fs))]) [8] rfl
    have hDc := hD.sub (ws' := [(mo, .inr (13, fs))]) [8] (by decide) rfl
    have hKc := hK.sub (tys' := []) [] rfl
    have hFc := va_free (wc := [(mo, .inr (13, fs))]) hD hS hA [8] rfl
    refine va_calli (va_runV (As := [.int sy2, .int sy4, .int sy6]) (rest := []) ⟨hx, hb, hml, hown, ht⟩ (k_X12_fault l d0 cO dC dI H.size mo sy2 sy4 sy6 fs hlen hf_files) (my_V ht M_X12_fault q2397 q2398 q2396 (Nat.le_of_ble_eq_true rfl) (Nat.le_of_ble_eq_true rfl)) ⟨PRE.fb, va_recv hK hP (ci := 13) (q0 := 8) rfl rfl, fun U hU hW => ⟨rfl, PRE.mk' hE hS hFc hPc hKc hDc U hU hW⟩⟩ rfl rfl hl.1 rfl (lv_room (Nat.le_of_ble_eq_true rfl)) dL_law_2002 ⟨(Nat.le_of_ble_eq_true rfl), (Nat.le_of_ble_eq_true rfl)⟩) hS (fun q _ h => hFc q h) hFc (fun r16 u15 t H1 locs htt hvm hw hB hz1 hk1 hS => ?_)
    obtain ⟨th217, rfl⟩ : ∃ z, z = u15 := ⟨_, rfl⟩
    try dsimp only at hw hB
    obtain ⟨fs218, hx_19, hP1, hK1, hD1⟩ := hB
    rw [htt] at hP1
    have hK1 := va_K.moved hvm.symm hK1
    obtain ⟨hP, hD⟩ := va_join (wr := [(h0, .inr (12, [.ref fi, tca, .ref ea, .ref sl, tmx, tsv])), (fi, .inr (5, [fna, fla, fv2, fv3, fv4, fv5, .int 0])), (ea, .inl (tE, 2, .inr (.inr (.inr (.inr fE))))), (e0, .inr (4, [.int ei0, ev0_1, ev0_2, ev0_3, ev0_4, ev0_5, ev0_6, .ref ak0])), (e1, .inr (4, [.int ei1, ev1_1, ev1_2, ev1_3, ev1_4, ev1_5, ev1_6, .ref ak1])), (ak0, .inr (0, [.int am0, ae0, .int 0])), (ak1, .inr (0, [.int am1, ae1, .int 0])), (sl, .inr (0, [.int sm, se, .int 0]))]) (w1 := [(mo, .inr (13, fs218))]) hP hD [8] [0, 1, 2, 3, 4, 5, 6, 7] rfl rfl (by decide) (by decide) hk1 hFc hP1 hD1
    have hK := (hK.sub (tys' := [(tE, .object RX3)]) [0] rfl).app hK1
    generalize H1 = H at hP hS ⊢
    have hP : va_P (dC, dI) vwCl [(h0, .inr (12, [.ref fi, tca, .ref ea, .ref sl, tmx, tsv])), (fi, .inr (5, [fna, fla, fv2, fv3, fv4, fv5, .int 0])), (ea, .inl (tE, 2, .inr (.inr (.inr (.inr fE))))), (e0, .inr (4, [.int ei0, ev0_1, ev0_2, ev0_3, ev0_4, ev0_5, ev0_6, .ref ak0])), (e1, .inr (4, [.int ei1, ev1_1, ev1_2, ev1_3, ev1_4, ev1_5, ev1_6, .ref ak1])), (ak0, .inr (0, [.int am0, ae0, .int 0])), (ak1, .inr (0, [.int am1, ae1, .int 0])), (sl, .inr (0, [.int sm, se, .int 0])), (mo, .inr (13, fs218))] H := hP
    have hD : va_D A [(h0, .inr (12, [.ref fi, tca, .ref ea, .ref sl, tmx, tsv])), (fi, .inr (5, [fna, fla, fv2, fv3, fv4, fv5, .int 0])), (ea, .inl (tE, 2, .inr (.inr (.inr (.inr fE))))), (e0, .inr (4, [.int ei0, ev0_1, ev0_2, ev0_3, ev0_4, ev0_5, ev0_6, .ref ak0])), (e1, .inr (4, [.int ei1, ev1_1, ev1_2, ev1_3, ev1_4, ev1_5, ev1_6, .ref ak1])), (ak0, .inr (0, [.int am0, ae0, .int 0])), (ak1, .inr (0, [.int am1, ae1, .int 0])), (sl, .inr (0, [.int sm, se, .int 0])), (mo, .inr (13, fs218))] := hD
    have hK : va_K (dC, dI) vwCl [(tE, .object RX3)] s := hK
    refine W.widen (k := 269) (n := 364945) (Nat.le_of_ble_eq_true rfl) (Nat.le_of_ble_eq_true rfl) ?_
    subst hw
    refine lv_istore (lv' := [(6, .int r16), (5, .int 1), (4, .int 0), (3, .ref out), (2, .ref mo), (1, .ref h0), (0, .ref b)]) hx hb dL_law_2005 hl (by decide) rfl (fun ls hl => ?_)
    refine lv_aload_n hx hb dL_law_2007 rfl (lv_at hl 4 rfl) ?_
    have hPc := hP.sub (ws' := [(mo, .inr (13, fs218))]) [8] rfl
    have hDc := hD.sub (ws' := [(mo, .inr (13, fs218))]) [8] (by decide) rfl
    have hKc := hK.sub (tys' := []) [] rfl
    have hFc := freeNil hS hA
    refine va_calli (va_runV (As := []) (rest := []) ⟨hx, hb, hml, hown, ht⟩ (k2_thrown l d0 cO dC dI H.size mo 1 fs218 hx_19) (my_V ht M_X12_thrown q1976 q1977 q1975 (Nat.le_of_ble_eq_true rfl) (Nat.le_of_ble_eq_true rfl)) ⟨PREp.fb, va_recv hK hP (ci := 13) (q0 := 8) rfl rfl, fun U hU hW => ⟨rfl, PREp.mk' hE hS hFc hPc hKc U hU hW⟩⟩ rfl rfl hl.1 rfl (lv_room (Nat.le_of_ble_eq_true rfl)) dL_law_2008 ⟨(Nat.le_of_ble_eq_true rfl), (Nat.le_of_ble_eq_true rfl)⟩) hS (fun q _ h => hFc q h) hFc (fun r21 u20 t H1 locs htt hvm hw hB hz1 hk1 hS => ?_)
    try dsimp only at hw hB
    have hP1 := hB
    have hP := keepAll hP hk1
    generalize H1 = H at hP hS ⊢
    have hP : va_P (dC, dI) vwCl [(h0, .inr (12, [.ref fi, tca, .ref ea, .ref sl, tmx, tsv])), (fi, .inr (5, [fna, fla, fv2, fv3, fv4, fv5, .int 0])), (ea, .inl (tE, 2, .inr (.inr (.inr (.inr fE))))), (e0, .inr (4, [.int ei0, ev0_1, ev0_2, ev0_3, ev0_4, ev0_5, ev0_6, .ref ak0])), (e1, .inr (4, [.int ei1, ev1_1, ev1_2, ev1_3, ev1_4, ev1_5, ev1_6, .ref ak1])), (ak0, .inr (0, [.int am0, ae0, .int 0])), (ak1, .inr (0, [.int am1, ae1, .int 0])), (sl, .inr (0, [.int sm, se, .int 0])), (mo, .inr (13, fs218))] H := hP
    have hD : va_D A [(h0, .inr (12, [.ref fi, tca, .ref ea, .ref sl, tmx, tsv])), (fi, .inr (5, [fna, fla, fv2, fv3, fv4, fv5, .int 0])), (ea, .inl (tE, 2, .inr (.inr (.inr (.inr fE))))), (e0, .inr (4, [.int ei0, ev0_1, ev0_2, ev0_3, ev0_4, ev0_5, ev0_6, .ref ak0])), (e1, .inr (4, [.int ei1, ev1_1, ev1_2, ev1_3, ev1_4, ev1_5, ev1_6, .ref ak1])), (ak0, .inr (0, [.int am0, ae0, .int 0])), (ak1, .inr (0, [.int am1, ae1, .int 0])), (sl, .inr (0, [.int sm, se, .int 0])), (mo, .inr (13, fs218))] := hD
    have hK : va_K (dC, dI) vwCl [(tE, .object RX3)] s := hK
    refine W.widen (k := 269) (n := 364945) (Nat.le_of_ble_eq_true rfl) (Nat.le_of_ble_eq_true rfl) ?_
    subst hw
    refine lv_iload hx hb dL_law_2011 (lv_at hl 1 rfl) ?_
    refine lv_icmp_eq (tgt := 2018) hx hb dL_law_2013 (by decide) (fun c22 => ?_) (fun c22 => False.elim (by revert c22; decide))
    refine lv_iload hx hb dL_law_2018 (lv_at hl 1 rfl) ?_
    refine lv_if_ne (tgt := 2035) hx hb dL_law_2020 (by decide) (fun c23 => ?_) (fun c23 => False.elim (by revert c23; decide))
    refine lv_goto (tgt := 2038) hx hb dL_law_2035 (by decide) ?_
    refine lv_iinc (v := 8) (lv' := [(4, .int 8), (6, .int r16), (5, .int 1), (3, .ref out), (2, .ref mo), (1, .ref h0), (0, .ref b)]) hx hb dL_law_2038 hl (k := 2) rfl (by decide) (by decide) rfl (fun ls hl => ?_)
    refine lv_goto (tgt := 23) hx hb dL_law_2041 (by decide) ?_
    refine lv_iload hx hb dL_law_23 (lv_at hl 0 rfl) ?_
    refine lv_aload_n hx hb dL_law_25 rfl (lv_at hl 6 rfl) ?_
    refine va_slen hx hb hX hbl hbA hS dL_law_26 ?_
    refine W.eq (g2 := F0 m 27 ls [.int 8, .int 8]) rfl ?_
    refine lv_bipush (v := 8) hx hb dL_law_27 (by decide) ?_
    refine lv_isub hx hb dL_law_29 ?_
    refine lv_topi (fun x24 ex24 => ?_)
    obtain rfl : x24 = 0 := ex24.trans (by decide)
    refine lv_icmp_gt (tgt := 2044) hx hb dL_law_30 (by decide) (fun c25 => ?_) (fun c25 => False.elim (by revert c25; decide))
    refine lv_iconst (v := 1) hx hb dL_law_2044 (by decide) ?_
    refine W.widen (k := 600002) (n := 7302232) (Nat.le_of_ble_eq_true rfl) (Nat.le_of_ble_eq_true rfl) ?_
    refine va_forget (by have h := hS.2.2; rw [hAd] at h; exact h) ?_
    exact lw_ret hx hb hr hlocks dL_law_2045
set_option maxHeartbeats 4000000 in
set_option maxRecDepth 100000 in
theorem law_answer (l : Launch) (hL : l.stackTraces = false) {p : Program} {e : Env} {s : State} {m : MethodId} {below : List Frame} {meth : Method} {c : Code} {b : Nat} {xs : Nat → Int32} {d0 : Nat} {cO : ClassId} {dC : Nat → ClassId} {dI : Nat → Nat → Nat} {H : Heap} {locs : List Loc} {ls : Array Slot} {h0 mo out : Nat} {ea sl : Nat} {tca tmx tsv : Value} {tE : ClassId} {fE : Nat → Option Nat} {sm : Int32} {se : Value} {fi : Nat} {fna fla fv2 fv3 fv4 fv5 : Value} {e0 ak0 : Nat} {ei0 am0 : Int32} {ev0_1 ev0_2 ev0_3 ev0_4 ev0_5 ev0_6 ae0 : Value} {e1 ak1 : Nat} {ei1 am1 : Int32} {ev1_1 ev1_2 ev1_3 ev1_4 ev1_5 ev1_6 ae1 : Value} {fs : List Value} (hf0 : fE 0 = some e0) (hf1 : fE 1 = some e1) (hlen : fs.length = 75) (hf_servers : fs[15]? = some (.int 0)) (C0 : lw_At p s m meth c b 8 xs) (hE : EN d0 cO (fun q : Nat => s.heap.size ≤ q) s s.heap) (hS : va_S (fun q : Nat => s.heap.size ≤ q) s.heap H locs) (hP : va_P (dC, dI) vwCl [(h0, .inr (12, [.ref fi, tca, .ref ea, .ref sl, tmx, tsv])), (fi, .inr (5, [fna, fla, fv2, fv3, fv4, fv5, .int 0])), (ea, .inl (tE, 2, .inr (.inr (.inr (.inr fE))))), (e0, .inr (4, [.int ei0, ev0_1, ev0_2, ev0_3, ev0_4, ev0_5, ev0_6, .ref ak0])), (e1, .inr (4, [.int ei1, ev1_1, ev1_2, ev1_3, ev1_4, ev1_5, ev1_6, .ref ak1])), (ak0, .inr (0, [.int am0, ae0, .int 0])), (ak1, .inr (0, [.int am1, ae1, .int 0])), (sl, .inr (0, [.int sm, se, .int 0])), (mo, .inr (13, fs))] H) (hD : va_D (fun q : Nat => s.heap.size ≤ q) [(h0, .inr (12, [.ref fi, tca, .ref ea, .ref sl, tmx, tsv])), (fi, .inr (5, [fna, fla, fv2, fv3, fv4, fv5, .int 0])), (ea, .inl (tE, 2, .inr (.inr (.inr (.inr fE))))), (e0, .inr (4, [.int ei0, ev0_1, ev0_2, ev0_3, ev0_4, ev0_5, ev0_6, .ref ak0])), (e1, .inr (4, [.int ei1, ev1_1, ev1_2, ev1_3, ev1_4, ev1_5, ev1_6, .ref ak1])), (ak0, .inr (0, [.int am0, ae0, .int 0])), (ak1, .inr (0, [.int am1, ae1, .int 0])), (sl, .inr (0, [.int sm, se, .int 0])), (mo, .inr (13, fs))]) (hK : va_K (dC, dI) vwCl [(tE, .object RX3)] s) (hl : lv_has ls 7 [(4, .int 0), (3, .ref out), (2, .ref mo), (1, .ref h0), (0, .ref b)]) : W p l e room_1 s m #[Value.ref b] below meth c H locs 267 364933 (lw_Z below #[Value.ref b] s) (F0 m 918 ls []) := by
  obtain ⟨hx, hb, hr, hml, hown0, hts, hX, hbl, hlocks, hgv⟩ := id C0
  have hown : s.vm.findClass RL = some m.cls := hown0
  have ht : ∀ w ∈ GT, w.before #[Value.ref b] s = true := fun w h => hts w (gt_tbl h)
  obtain ⟨A, hAd⟩ : ∃ A : Nat → Prop, A = (fun q : Nat => s.heap.size ≤ q) := ⟨_, rfl⟩
  rw [← hAd] at hE hS hD
  have hA : ∀ q : Nat, s.heap.size ≤ q → A q := fun q h => by rw [hAd]; exact h
  have hbA : ¬ A b := by rw [hAd]; exact Nat.not_le.mpr hbl
  refine lv_aload_n hx hb dL_law_918 rfl (lv_at hl 3 rfl) ?_
  refine lv_aload_n hx hb dL_law_919 rfl (lv_at hl 4 rfl) ?_
  refine lv_iload hx hb dL_law_920 (lv_at hl 0 rfl) ?_
  refine lv_iconst (v := 1) hx hb dL_law_922 (by decide) ?_
  refine lv_iadd hx hb dL_law_923 ?_
  refine lv_topi (fun x1 ex1 => ?_)
  obtain rfl : x1 = 1 := ex1.trans (by decide)
  refine va_sld hx hb hX hbl hbA hS (vp_in_nI (n := 1) (by decide) (by decide)) dL_law_924 ?_
  refine lv_topi (fun sy2 esy2 => ?_)
  refine lv_aload_n hx hb dL_law_925 rfl (lv_at hl 4 rfl) ?_
  refine lv_iload hx hb dL_law_926 (lv_at hl 0 rfl) ?_
  refine lv_iconst (v := 2) hx hb dL_law_928 (by decide) ?_
  refine lv_iadd hx hb dL_law_929 ?_
  refine lv_topi (fun x3 ex3 => ?_)
  obtain rfl : x3 = 2 := ex3.trans (by decide)
  refine va_sld hx hb hX hbl hbA hS (vp_in_nI (n := 2) (by decide) (by decide)) dL_law_930 ?_
  refine lv_topi (fun sy4 esy4 => ?_)
  refine lv_aload_n hx hb dL_law_931 rfl (lv_at hl 1 rfl) ?_
  have hPc := hP.sub (ws' := [(h0, .inr (12, [.ref fi, tca, .ref ea, .ref sl, tmx, tsv])), (fi, .inr (5, [fna, fla, fv2, fv3, fv4, fv5, .int 0])), (ea, .inl (tE, 2, .inr (.inr (.inr (.inr fE))))), (e0, .inr (4, [.int ei0, ev0_1, ev0_2, ev0_3, ev0_4, ev0_5, ev0_6, .ref ak0])), (e1, .inr (4, [.int ei1, ev1_1, ev1_2, ev1_3, ev1_4, ev1_5, ev1_6, .ref ak1])), (ak0, .inr (0, [.int am0, ae0, .int 0])), (ak1, .inr (0, [.int am1, ae1, .int 0])), (sl, .inr (0, [.int sm, se, .int 0]))]) [0, 1, 2, 3, 4, 5, 6, 7] rfl
  have hDc := hD.sub (ws' := [(h0, .inr (12, [.ref fi, tca, .ref ea, .ref sl, tmx, tsv])), (fi, .inr (5, [fna, fla, fv2, fv3, fv4, fv5, .int 0])), (ea, .inl (tE, 2, .inr (.inr (.inr (.inr fE))))), (e0, .inr (4, [.int ei0, ev0_1, ev0_2, ev0_3, ev0_4, ev0_5, ev0_6, .ref ak0])), (e1, .inr (4, [.int ei1, ev1_1, ev1_2, ev1_3, ev1_4, ev1_5, ev1_6, .ref ak1])), (ak0, .inr (0, [.int am0, ae0, .int 0])), (ak1, .inr (0, [.int am1, ae1, .int 0])), (sl, .inr (0, [.int sm, se, .int 0]))]) [0, 1, 2, 3, 4, 5, 6, 7] (by decide) rfl
  have hKc := hK.sub (tys' := [(tE, .object RX3)]) [0] rfl
  have hFc := freeNil hS hA
  refine vx_calli (vx_runSX (As := [.ref h0, .int sy2, .int sy4, .ref out]) (rest := []) ⟨hx, hb, hml, hown, ht⟩ (k_L_answer l hL d0 cO dC dI H.size h0 ea sl tca tmx tsv tE fE sm se fi fna fla fv2 fv3 fv4 fv5 e0 ak0 ei0 am0 ev0_1 ev0_2 ev0_3 ev0_4 ev0_5 ev0_6 ae0 e1 ak1 ei1 am1 ev1_1 ev1_2 ev1_3 ev1_4 ev1_5 ev1_6 ae1 hf0 hf1 sy2 sy4 out) (my_SW ht M_L_answer q1463 q1462 (Nat.le_of_ble_eq_true rfl) (Nat.le_of_ble_eq_true rfl)) ⟨PREp.fb, fun U hU hW => ⟨rfl, PREp.mk' hE hS hFc hPc hKc U hU hW⟩⟩ rfl rfl hl.1 rfl (lv_room (Nat.le_of_ble_eq_true rfl)) dL_law_932 ⟨(Nat.le_of_ble_eq_true rfl), (Nat.le_of_ble_eq_true rfl)⟩) hS (fun q _ h => hFc q h) hFc (fun q _ h => hFc q h) (fun E ce q9 ux t H1 locs htt hvm hw hB hz1 hk1 hS hcell hv9 hcl9 => ?_) (fun r6 u5 t H1 locs htt hvm hw hB hz1 hk1 hS => ?_)
  · skip
    exact hB.elim
  · skip
    try dsimp only at hw hB
    have hP1 := hB
    have hP := keepAll hP hk1
    generalize H1 = H at hP hS ⊢
    have hP : va_P (dC, dI) vwCl [(h0, .inr (12, [.ref fi, tca, .ref ea, .ref sl, tmx, tsv])), (fi, .inr (5, [fna, fla, fv2, fv3, fv4, fv5, .int 0])), (ea, .inl (tE, 2, .inr (.inr (.inr (.inr fE))))), (e0, .inr (4, [.int ei0, ev0_1, ev0_2, ev0_3, ev0_4, ev0_5, ev0_6, .ref ak0])), (e1, .inr (4, [.int ei1, ev1_1, ev1_2, ev1_3, ev1_4, ev1_5, ev1_6, .ref ak1])), (ak0, .inr (0, [.int am0, ae0, .int 0])), (ak1, .inr (0, [.int am1, ae1, .int 0])), (sl, .inr (0, [.int sm, se, .int 0])), (mo, .inr (13, fs))] H := hP
    have hD : va_D A [(h0, .inr (12, [.ref fi, tca, .ref ea, .ref sl, tmx, tsv])), (fi, .inr (5, [fna, fla, fv2, fv3, fv4, fv5, .int 0])), (ea, .inl (tE, 2, .inr (.inr (.inr (.inr fE))))), (e0, .inr (4, [.int ei0, ev0_1, ev0_2, ev0_3, ev0_4, ev0_5, ev0_6, .ref ak0])), (e1, .inr (4, [.int ei1, ev1_1, ev1_2, ev1_3, ev1_4, ev1_5, ev1_6, .ref ak1])), (ak0, .inr (0, [.int am0, ae0, .int 0])), (ak1, .inr (0, [.int am1, ae1, .int 0])), (sl, .inr (0, [.int sm, se, .int 0])), (mo, .inr (13, fs))] := hD
    have hK : va_K (dC, dI) vwCl [(tE, .object RX3)] s := hK
    refine W.widen (k := 268) (n := 364939) (Nat.le_of_ble_eq_true rfl) (Nat.le_of_ble_eq_true rfl) ?_
    subst hw
    refine lv_istore (lv' := [(5, .int 1), (4, .int 0), (3, .ref out), (2, .ref mo), (1, .ref h0), (0, .ref b)]) hx hb dL_law_935 hl (by decide) rfl (fun ls hl => ?_)
    refine lv_aload_n hx hb dL_law_937 rfl (lv_at hl 3 rfl) ?_
    refine lv_aload_n hx hb dL_law_938 rfl (lv_at hl 5 rfl) ?_
    refine lv_iload hx hb dL_law_939 (lv_at hl 1 rfl) ?_
    refine lv_iconst (v := 1) hx hb dL_law_941 (by decide) ?_
    refine lv_iadd hx hb dL_law_942 ?_
    refine lv_topi (fun x7 ex7 => ?_)
    obtain rfl : x7 = 1 := ex7.trans (by decide)
    refine va_sld hx hb hX hbl hbA hS (vp_in_nI (n := 1) (by decide) (by decide)) dL_law_943 ?_
    refine lv_topi (fun sy8 esy8 => ?_)
    have hyy : sy2 = sy8 := esy2.trans esy8.symm
    subst hyy
    refine lv_aload_n hx hb dL_law_944 rfl (lv_at hl 5 rfl) ?_
    refine lv_iload hx hb dL_law_945 (lv_at hl 1 rfl) ?_
    refine lv_iconst (v := 2) hx hb dL_law_947 (by decide) ?_
    refine lv_iadd hx hb dL_law_948 ?_
    refine lv_topi (fun x9 ex9 => ?_)
    obtain rfl : x9 = 2 := ex9.trans (by decide)
    refine va_sld hx hb hX hbl hbA hS (vp_in_nI (n := 2) (by decide) (by decide)) dL_law_949 ?_
    refine lv_topi (fun sy10 esy10 => ?_)
    have hyy : sy4 = sy10 := esy4.trans esy10.symm
    subst hyy
    have hPc := hP.sub (ws' := [(mo, .inr (13, fs))]) [8] rfl
    have hDc := hD.sub (ws' := [(mo, .inr (13, fs))]) [8] (by decide) rfl
    have hKc := hK.sub (tys' := []) [] rfl
    have hFc := va_free (wc := [(mo, .inr (13, fs))]) hD hS hA [8] rfl
    refine va_calli (va_runV (As := [.int sy2, .int sy4]) (rest := []) ⟨hx, hb, hml, hown, ht⟩ (k_X12_answer l d0 cO dC dI H.size mo sy2 sy4 fs hlen hf_servers) (my_V ht M_X12_answer q2152 q2153 q2151 (Nat.le_of_ble_eq_true rfl) (Nat.le_of_ble_eq_true rfl)) ⟨PRE.fb, va_recv hK hP (ci := 13) (q0 := 8) rfl rfl, fun U hU hW => ⟨rfl, PRE.mk' hE hS hFc hPc hKc hDc U hU hW⟩⟩ rfl rfl hl.1 rfl (lv_room (Nat.le_of_ble_eq_true rfl)) dL_law_950 ⟨(Nat.le_of_ble_eq_true rfl), (Nat.le_of_ble_eq_true rfl)⟩) hS (fun q _ h => hFc q h) hFc (fun r12 u11 t H1 locs htt hvm hw hB hz1 hk1 hS => ?_)
    obtain ⟨th213, rfl⟩ : ∃ z, z = u11 := ⟨_, rfl⟩
    try dsimp only at hw hB
    obtain ⟨fs214, hx_15, hP1, hK1, hD1⟩ := hB
    rw [htt] at hP1
    have hK1 := va_K.moved hvm.symm hK1
    obtain ⟨hP, hD⟩ := va_join (wr := [(h0, .inr (12, [.ref fi, tca, .ref ea, .ref sl, tmx, tsv])), (fi, .inr (5, [fna, fla, fv2, fv3, fv4, fv5, .int 0])), (ea, .inl (tE, 2, .inr (.inr (.inr (.inr fE))))), (e0, .inr (4, [.int ei0, ev0_1, ev0_2, ev0_3, ev0_4, ev0_5, ev0_6, .ref ak0])), (e1, .inr (4, [.int ei1, ev1_1, ev1_2, ev1_3, ev1_4, ev1_5, ev1_6, .ref ak1])), (ak0, .inr (0, [.int am0, ae0, .int 0])), (ak1, .inr (0, [.int am1, ae1, .int 0])), (sl, .inr (0, [.int sm, se, .int 0]))]) (w1 := [(mo, .inr (13, fs214))]) hP hD [8] [0, 1, 2, 3, 4, 5, 6, 7] rfl rfl (by decide) (by decide) hk1 hFc hP1 hD1
    have hK := (hK.sub (tys' := [(tE, .object RX3)]) [0] rfl).app hK1
    generalize H1 = H at hP hS ⊢
    have hP : va_P (dC, dI) vwCl [(h0, .inr (12, [.ref fi, tca, .ref ea, .ref sl, tmx, tsv])), (fi, .inr (5, [fna, fla, fv2, fv3, fv4, fv5, .int 0])), (ea, .inl (tE, 2, .inr (.inr (.inr (.inr fE))))), (e0, .inr (4, [.int ei0, ev0_1, ev0_2, ev0_3, ev0_4, ev0_5, ev0_6, .ref ak0])), (e1, .inr (4, [.int ei1, ev1_1, ev1_2, ev1_3, ev1_4, ev1_5, ev1_6, .ref ak1])), (ak0, .inr (0, [.int am0, ae0, .int 0])), (ak1, .inr (0, [.int am1, ae1, .int 0])), (sl, .inr (0, [.int sm, se, .int 0])), (mo, .inr (13, fs214))] H := hP
    have hD : va_D A [(h0, .inr (12, [.ref fi, tca, .ref ea, .ref sl, tmx, tsv])), (fi, .inr (5, [fna, fla, fv2, fv3, fv4, fv5, .int 0])), (ea, .inl (tE, 2, .inr (.inr (.inr (.inr fE))))), (e0, .inr (4, [.int ei0, ev0_1, ev0_2, ev0_3, ev0_4, ev0_5, ev0_6, .ref ak0])), (e1, .inr (4, [.int ei1, ev1_1, ev1_2, ev1_3, ev1_4, ev1_5, ev1_6, .ref ak1])), (ak0, .inr (0, [.int am0, ae0, .int 0])), (ak1, .inr (0, [.int am1, ae1, .int 0])), (sl, .inr (0, [.int sm, se, .int 0])), (mo, .inr (13, fs214))] := hD
    have hK : va_K (dC, dI) vwCl [(tE, .object RX3)] s := hK
    refine W.widen (k := 268) (n := 364939) (Nat.le_of_ble_eq_true rfl) (Nat.le_of_ble_eq_true rfl) ?_
    subst hw
    refine lv_istore (lv' := [(6, .int r12), (5, .int 1), (4, .int 0), (3, .ref out), (2, .ref mo), (1, .ref h0), (0, .ref b)]) hx hb dL_law_953 hl (by decide) rfl (fun ls hl => ?_)
    refine lv_aload_n hx hb dL_law_955 rfl (lv_at hl 4 rfl) ?_
    have hPc := hP.sub (ws' := [(mo, .inr (13, fs214))]) [8] rfl
    have hDc := hD.sub (ws' := [(mo, .inr (13, fs214))]) [8] (by decide) rfl
    have hKc := hK.sub (tys' := []) [] rfl
    have hFc := freeNil hS hA
    refine va_calli (va_runV (As := []) (rest := []) ⟨hx, hb, hml, hown, ht⟩ (k2_thrown l d0 cO dC dI H.size mo 1 fs214 hx_15) (my_V ht M_X12_thrown q1976 q1977 q1975 (Nat.le_of_ble_eq_true rfl) (Nat.le_of_ble_eq_true rfl)) ⟨PREp.fb, va_recv hK hP (ci := 13) (q0 := 8) rfl rfl, fun U hU hW => ⟨rfl, PREp.mk' hE hS hFc hPc hKc U hU hW⟩⟩ rfl rfl hl.1 rfl (lv_room (Nat.le_of_ble_eq_true rfl)) dL_law_956 ⟨(Nat.le_of_ble_eq_true rfl), (Nat.le_of_ble_eq_true rfl)⟩) hS (fun q _ h => hFc q h) hFc (fun r17 u16 t H1 locs htt hvm hw hB hz1 hk1 hS => ?_)
    try dsimp only at hw hB
    have hP1 := hB
    have hP := keepAll hP hk1
    generalize H1 = H at hP hS ⊢
    have hP : va_P (dC, dI) vwCl [(h0, .inr (12, [.ref fi, tca, .ref ea, .ref sl, tmx, tsv])), (fi, .inr (5, [fna, fla, fv2, fv3, fv4, fv5, .int 0])), (ea, .inl (tE, 2, .inr (.inr (.inr (.inr fE))))), (e0, .inr (4, [.int ei0, ev0_1, ev0_2, ev0_3, ev0_4, ev0_5, ev0_6, .ref ak0])), (e1, .inr (4, [.int ei1, ev1_1, ev1_2, ev1_3, ev1_4, ev1_5, ev1_6, .ref ak1])), (ak0, .inr (0, [.int am0, ae0, .int 0])), (ak1, .inr (0, [.int am1, ae1, .int 0])), (sl, .inr (0, [.int sm, se, .int 0])), (mo, .inr (13, fs214))] H := hP
    have hD : va_D A [(h0, .inr (12, [.ref fi, tca, .ref ea, .ref sl, tmx, tsv])), (fi, .inr (5, [fna, fla, fv2, fv3, fv4, fv5, .int 0])), (ea, .inl (tE, 2, .inr (.inr (.inr (.inr fE))))), (e0, .inr (4, [.int ei0, ev0_1, ev0_2, ev0_3, ev0_4, ev0_5, ev0_6, .ref ak0])), (e1, .inr (4, [.int ei1, ev1_1, ev1_2, ev1_3, ev1_4, ev1_5, ev1_6, .ref ak1])), (ak0, .inr (0, [.int am0, ae0, .int 0])), (ak1, .inr (0, [.int am1, ae1, .int 0])), (sl, .inr (0, [.int sm, se, .int 0])), (mo, .inr (13, fs214))] := hD
    have hK : va_K (dC, dI) vwCl [(tE, .object RX3)] s := hK
    refine W.widen (k := 268) (n := 364939) (Nat.le_of_ble_eq_true rfl) (Nat.le_of_ble_eq_true rfl) ?_
    subst hw
    refine lv_iload hx hb dL_law_959 (lv_at hl 1 rfl) ?_
    refine lv_icmp_eq (tgt := 966) hx hb dL_law_961 (by decide) (fun c18 => ?_) (fun c18 => False.elim (by revert c18; decide))
    refine lv_iload hx hb dL_law_966 (lv_at hl 1 rfl) ?_
    refine lv_if_ne (tgt := 983) hx hb dL_law_968 (by decide) (fun c19 => ?_) (fun c19 => False.elim (by revert c19; decide))
    refine lv_goto (tgt := 2038) hx hb dL_law_983 (by decide) ?_
    refine lv_iinc (v := 8) (lv' := [(4, .int 8), (6, .int r12), (5, .int 1), (3, .ref out), (2, .ref mo), (1, .ref h0), (0, .ref b)]) hx hb dL_law_2038 hl (k := 2) rfl (by decide) (by decide) rfl (fun ls hl => ?_)
    refine lv_goto (tgt := 23) hx hb dL_law_2041 (by decide) ?_
    refine lv_iload hx hb dL_law_23 (lv_at hl 0 rfl) ?_
    refine lv_aload_n hx hb dL_law_25 rfl (lv_at hl 6 rfl) ?_
    refine va_slen hx hb hX hbl hbA hS dL_law_26 ?_
    refine W.eq (g2 := F0 m 27 ls [.int 8, .int 8]) rfl ?_
    refine lv_bipush (v := 8) hx hb dL_law_27 (by decide) ?_
    refine lv_isub hx hb dL_law_29 ?_
    refine lv_topi (fun x20 ex20 => ?_)
    obtain rfl : x20 = 0 := ex20.trans (by decide)
    refine lv_icmp_gt (tgt := 2044) hx hb dL_law_30 (by decide) (fun c21 => ?_) (fun c21 => False.elim (by revert c21; decide))
    refine lv_iconst (v := 1) hx hb dL_law_2044 (by decide) ?_
    refine W.widen (k := 600002) (n := 7302232) (Nat.le_of_ble_eq_true rfl) (Nat.le_of_ble_eq_true rfl) ?_
    refine va_forget (by have h := hS.2.2; rw [hAd] at h; exact h) ?_
    exact lw_ret hx hb hr hlocks dL_law_2045
set_option maxHeartbeats 4000000 in
set_option maxRecDepth 100000 in
theorem law_crash (l : Launch) (hL : l.stackTraces = false) {p : Program} {e : Env} {s : State} {m : MethodId} {below : List Frame} {meth : Method} {c : Code} {b : Nat} {xs : Nat → Int32} {d0 : Nat} {cO : ClassId} {dC : Nat → ClassId} {dI : Nat → Nat → Nat} {H : Heap} {locs : List Loc} {ls : Array Slot} {h0 mo out : Nat} {ea sl : Nat} {tca tmx tsv : Value} {tE : ClassId} {fE : Nat → Option Nat} {sm : Int32} {se : Value} {fi : Nat} {fna fla fv2 fv3 fv4 fv5 : Value} {e0 ak0 : Nat} {ei0 am0 : Int32} {ev0_1 ev0_2 ev0_3 ev0_4 ev0_5 ev0_6 ae0 : Value} {e1 ak1 : Nat} {ei1 am1 : Int32} {ev1_1 ev1_2 ev1_3 ev1_4 ev1_5 ev1_6 ae1 : Value} {fs : List Value} (hf0 : fE 0 = some e0) (hf1 : fE 1 = some e1) (hlen : fs.length = 75) (hf_servers : fs[15]? = some (.int 0)) (C0 : lw_At p s m meth c b 8 xs) (hE : EN d0 cO (fun q : Nat => s.heap.size ≤ q) s s.heap) (hS : va_S (fun q : Nat => s.heap.size ≤ q) s.heap H locs) (hP : va_P (dC, dI) vwCl [(h0, .inr (12, [.ref fi, tca, .ref ea, .ref sl, tmx, tsv])), (fi, .inr (5, [fna, fla, fv2, fv3, fv4, fv5, .int 0])), (ea, .inl (tE, 2, .inr (.inr (.inr (.inr fE))))), (e0, .inr (4, [.int ei0, ev0_1, ev0_2, ev0_3, ev0_4, ev0_5, ev0_6, .ref ak0])), (e1, .inr (4, [.int ei1, ev1_1, ev1_2, ev1_3, ev1_4, ev1_5, ev1_6, .ref ak1])), (ak0, .inr (0, [.int am0, ae0, .int 0])), (ak1, .inr (0, [.int am1, ae1, .int 0])), (sl, .inr (0, [.int sm, se, .int 0])), (mo, .inr (13, fs))] H) (hD : va_D (fun q : Nat => s.heap.size ≤ q) [(h0, .inr (12, [.ref fi, tca, .ref ea, .ref sl, tmx, tsv])), (fi, .inr (5, [fna, fla, fv2, fv3, fv4, fv5, .int 0])), (ea, .inl (tE, 2, .inr (.inr (.inr (.inr fE))))), (e0, .inr (4, [.int ei0, ev0_1, ev0_2, ev0_3, ev0_4, ev0_5, ev0_6, .ref ak0])), (e1, .inr (4, [.int ei1, ev1_1, ev1_2, ev1_3, ev1_4, ev1_5, ev1_6, .ref ak1])), (ak0, .inr (0, [.int am0, ae0, .int 0])), (ak1, .inr (0, [.int am1, ae1, .int 0])), (sl, .inr (0, [.int sm, se, .int 0])), (mo, .inr (13, fs))]) (hK : va_K (dC, dI) vwCl [(tE, .object RX3)] s) (hl : lv_has ls 7 [(4, .int 0), (3, .ref out), (2, .ref mo), (1, .ref h0), (0, .ref b)]) : W p l e room_1 s m #[Value.ref b] below meth c H locs 267 364933 (lw_Z below #[Value.ref b] s) (F0 m 1054 ls []) := by
  obtain ⟨hx, hb, hr, hml, hown0, hts, hX, hbl, hlocks, hgv⟩ := id C0
  have hown : s.vm.findClass RL = some m.cls := hown0
  have ht : ∀ w ∈ GT, w.before #[Value.ref b] s = true := fun w h => hts w (gt_tbl h)
  obtain ⟨A, hAd⟩ : ∃ A : Nat → Prop, A = (fun q : Nat => s.heap.size ≤ q) := ⟨_, rfl⟩
  rw [← hAd] at hE hS hD
  have hA : ∀ q : Nat, s.heap.size ≤ q → A q := fun q h => by rw [hAd]; exact h
  have hbA : ¬ A b := by rw [hAd]; exact Nat.not_le.mpr hbl
  refine lv_aload_n hx hb dL_law_1054 rfl (lv_at hl 3 rfl) ?_
  refine lv_aload_n hx hb dL_law_1055 rfl (lv_at hl 4 rfl) ?_
  refine lv_iload hx hb dL_law_1056 (lv_at hl 0 rfl) ?_
  refine lv_iconst (v := 1) hx hb dL_law_1058 (by decide) ?_
  refine lv_iadd hx hb dL_law_1059 ?_
  refine lv_topi (fun x1 ex1 => ?_)
  obtain rfl : x1 = 1 := ex1.trans (by decide)
  refine va_sld hx hb hX hbl hbA hS (vp_in_nI (n := 1) (by decide) (by decide)) dL_law_1060 ?_
  refine lv_topi (fun sy2 esy2 => ?_)
  refine lv_aload_n hx hb dL_law_1061 rfl (lv_at hl 1 rfl) ?_
  have hPc := hP.sub (ws' := [(h0, .inr (12, [.ref fi, tca, .ref ea, .ref sl, tmx, tsv])), (fi, .inr (5, [fna, fla, fv2, fv3, fv4, fv5, .int 0])), (ea, .inl (tE, 2, .inr (.inr (.inr (.inr fE))))), (e0, .inr (4, [.int ei0, ev0_1, ev0_2, ev0_3, ev0_4, ev0_5, ev0_6, .ref ak0])), (e1, .inr (4, [.int ei1, ev1_1, ev1_2, ev1_3, ev1_4, ev1_5, ev1_6, .ref ak1])), (ak0, .inr (0, [.int am0, ae0, .int 0])), (ak1, .inr (0, [.int am1, ae1, .int 0])), (sl, .inr (0, [.int sm, se, .int 0]))]) [0, 1, 2, 3, 4, 5, 6, 7] rfl
  have hDc := hD.sub (ws' := [(h0, .inr (12, [.ref fi, tca, .ref ea, .ref sl, tmx, tsv])), (fi, .inr (5, [fna, fla, fv2, fv3, fv4, fv5, .int 0])), (ea, .inl (tE, 2, .inr (.inr (.inr (.inr fE))))), (e0, .inr (4, [.int ei0, ev0_1, ev0_2, ev0_3, ev0_4, ev0_5, ev0_6, .ref ak0])), (e1, .inr (4, [.int ei1, ev1_1, ev1_2, ev1_3, ev1_4, ev1_5, ev1_6, .ref ak1])), (ak0, .inr (0, [.int am0, ae0, .int 0])), (ak1, .inr (0, [.int am1, ae1, .int 0])), (sl, .inr (0, [.int sm, se, .int 0]))]) [0, 1, 2, 3, 4, 5, 6, 7] (by decide) rfl
  have hKc := hK.sub (tys' := [(tE, .object RX3)]) [0] rfl
  have hFc := freeNil hS hA
  refine vx_calli (vx_runSX (As := [.ref h0, .int sy2, .ref out]) (rest := []) ⟨hx, hb, hml, hown, ht⟩ (k_L_crash l hL d0 cO dC dI H.size h0 ea sl tca tmx tsv tE fE sm se fi fna fla fv2 fv3 fv4 fv5 e0 ak0 ei0 am0 ev0_1 ev0_2 ev0_3 ev0_4 ev0_5 ev0_6 ae0 e1 ak1 ei1 am1 ev1_1 ev1_2 ev1_3 ev1_4 ev1_5 ev1_6 ae1 hf0 hf1 sy2 out) (my_SW ht M_L_crash q1568 q1567 (Nat.le_of_ble_eq_true rfl) (Nat.le_of_ble_eq_true rfl)) ⟨PREp.fb, fun U hU hW => ⟨rfl, PREp.mk' hE hS hFc hPc hKc U hU hW⟩⟩ rfl rfl hl.1 rfl (lv_room (Nat.le_of_ble_eq_true rfl)) dL_law_1062 ⟨(Nat.le_of_ble_eq_true rfl), (Nat.le_of_ble_eq_true rfl)⟩) hS (fun q _ h => hFc q h) hFc (fun q _ h => hFc q h) (fun E ce q9 ux t H1 locs htt hvm hw hB hz1 hk1 hS hcell hv9 hcl9 => ?_) (fun r4 u3 t H1 locs htt hvm hw hB hz1 hk1 hS => ?_)
  · skip
    exact hB.elim
  · skip
    try dsimp only at hw hB
    have hP1 := hB
    have hP := keepAll hP hk1
    generalize H1 = H at hP hS ⊢
    have hP : va_P (dC, dI) vwCl [(h0, .inr (12, [.ref fi, tca, .ref ea, .ref sl, tmx, tsv])), (fi, .inr (5, [fna, fla, fv2, fv3, fv4, fv5, .int 0])), (ea, .inl (tE, 2, .inr (.inr (.inr (.inr fE))))), (e0, .inr (4, [.int ei0, ev0_1, ev0_2, ev0_3, ev0_4, ev0_5, ev0_6, .ref ak0])), (e1, .inr (4, [.int ei1, ev1_1, ev1_2, ev1_3, ev1_4, ev1_5, ev1_6, .ref ak1])), (ak0, .inr (0, [.int am0, ae0, .int 0])), (ak1, .inr (0, [.int am1, ae1, .int 0])), (sl, .inr (0, [.int sm, se, .int 0])), (mo, .inr (13, fs))] H := hP
    have hD : va_D A [(h0, .inr (12, [.ref fi, tca, .ref ea, .ref sl, tmx, tsv])), (fi, .inr (5, [fna, fla, fv2, fv3, fv4, fv5, .int 0])), (ea, .inl (tE, 2, .inr (.inr (.inr (.inr fE))))), (e0, .inr (4, [.int ei0, ev0_1, ev0_2, ev0_3, ev0_4, ev0_5, ev0_6, .ref ak0])), (e1, .inr (4, [.int ei1, ev1_1, ev1_2, ev1_3, ev1_4, ev1_5, ev1_6, .ref ak1])), (ak0, .inr (0, [.int am0, ae0, .int 0])), (ak1, .inr (0, [.int am1, ae1, .int 0])), (sl, .inr (0, [.int sm, se, .int 0])), (mo, .inr (13, fs))] := hD
    have hK : va_K (dC, dI) vwCl [(tE, .object RX3)] s := hK
    refine W.widen (k := 268) (n := 364939) (Nat.le_of_ble_eq_true rfl) (Nat.le_of_ble_eq_true rfl) ?_
    subst hw
    refine lv_istore (lv' := [(5, .int 1), (4, .int 0), (3, .ref out), (2, .ref mo), (1, .ref h0), (0, .ref b)]) hx hb dL_law_1065 hl (by decide) rfl (fun ls hl => ?_)
    refine lv_aload_n hx hb dL_law_1067 rfl (lv_at hl 3 rfl) ?_
    refine lv_aload_n hx hb dL_law_1068 rfl (lv_at hl 5 rfl) ?_
    refine lv_iload hx hb dL_law_1069 (lv_at hl 1 rfl) ?_
    refine lv_iconst (v := 1) hx hb dL_law_1071 (by decide) ?_
    refine lv_iadd hx hb dL_law_1072 ?_
    refine lv_topi (fun x5 ex5 => ?_)
    obtain rfl : x5 = 1 := ex5.trans (by decide)
    refine va_sld hx hb hX hbl hbA hS (vp_in_nI (n := 1) (by decide) (by decide)) dL_law_1073 ?_
    refine lv_topi (fun sy6 esy6 => ?_)
    have hyy : sy2 = sy6 := esy2.trans esy6.symm
    subst hyy
    have hPc := hP.sub (ws' := [(mo, .inr (13, fs))]) [8] rfl
    have hDc := hD.sub (ws' := [(mo, .inr (13, fs))]) [8] (by decide) rfl
    have hKc := hK.sub (tys' := []) [] rfl
    have hFc := va_free (wc := [(mo, .inr (13, fs))]) hD hS hA [8] rfl
    refine va_calli (va_runV (As := [.int sy2]) (rest := []) ⟨hx, hb, hml, hown, ht⟩ (k_X12_crash l d0 cO dC dI H.size mo sy2 fs hlen hf_servers) (my_V ht M_X12_crash q2215 q2216 q2214 (Nat.le_of_ble_eq_true rfl) (Nat.le_of_ble_eq_true rfl)) ⟨PRE.fb, va_recv hK hP (ci := 13) (q0 := 8) rfl rfl, fun U hU hW => ⟨rfl, PRE.mk' hE hS hFc hPc hKc hDc U hU hW⟩⟩ rfl rfl hl.1 rfl (lv_room (Nat.le_of_ble_eq_true rfl)) dL_law_1074 ⟨(Nat.le_of_ble_eq_true rfl), (Nat.le_of_ble_eq_true rfl)⟩) hS (fun q _ h => hFc q h) hFc (fun r8 u7 t H1 locs htt hvm hw hB hz1 hk1 hS => ?_)
    obtain ⟨th29, rfl⟩ : ∃ z, z = u7 := ⟨_, rfl⟩
    try dsimp only at hw hB
    obtain ⟨fs210, hx_11, hP1, hK1, hD1⟩ := hB
    rw [htt] at hP1
    have hK1 := va_K.moved hvm.symm hK1
    obtain ⟨hP, hD⟩ := va_join (wr := [(h0, .inr (12, [.ref fi, tca, .ref ea, .ref sl, tmx, tsv])), (fi, .inr (5, [fna, fla, fv2, fv3, fv4, fv5, .int 0])), (ea, .inl (tE, 2, .inr (.inr (.inr (.inr fE))))), (e0, .inr (4, [.int ei0, ev0_1, ev0_2, ev0_3, ev0_4, ev0_5, ev0_6, .ref ak0])), (e1, .inr (4, [.int ei1, ev1_1, ev1_2, ev1_3, ev1_4, ev1_5, ev1_6, .ref ak1])), (ak0, .inr (0, [.int am0, ae0, .int 0])), (ak1, .inr (0, [.int am1, ae1, .int 0])), (sl, .inr (0, [.int sm, se, .int 0]))]) (w1 := [(mo, .inr (13, fs210))]) hP hD [8] [0, 1, 2, 3, 4, 5, 6, 7] rfl rfl (by decide) (by decide) hk1 hFc hP1 hD1
    have hK := (hK.sub (tys' := [(tE, .object RX3)]) [0] rfl).app hK1
    generalize H1 = H at hP hS ⊢
    have hP : va_P (dC, dI) vwCl [(h0, .inr (12, [.ref fi, tca, .ref ea, .ref sl, tmx, tsv])), (fi, .inr (5, [fna, fla, fv2, fv3, fv4, fv5, .int 0])), (ea, .inl (tE, 2, .inr (.inr (.inr (.inr fE))))), (e0, .inr (4, [.int ei0, ev0_1, ev0_2, ev0_3, ev0_4, ev0_5, ev0_6, .ref ak0])), (e1, .inr (4, [.int ei1, ev1_1, ev1_2, ev1_3, ev1_4, ev1_5, ev1_6, .ref ak1])), (ak0, .inr (0, [.int am0, ae0, .int 0])), (ak1, .inr (0, [.int am1, ae1, .int 0])), (sl, .inr (0, [.int sm, se, .int 0])), (mo, .inr (13, fs210))] H := hP
    have hD : va_D A [(h0, .inr (12, [.ref fi, tca, .ref ea, .ref sl, tmx, tsv])), (fi, .inr (5, [fna, fla, fv2, fv3, fv4, fv5, .int 0])), (ea, .inl (tE, 2, .inr (.inr (.inr (.inr fE))))), (e0, .inr (4, [.int ei0, ev0_1, ev0_2, ev0_3, ev0_4, ev0_5, ev0_6, .ref ak0])), (e1, .inr (4, [.int ei1, ev1_1, ev1_2, ev1_3, ev1_4, ev1_5, ev1_6, .ref ak1])), (ak0, .inr (0, [.int am0, ae0, .int 0])), (ak1, .inr (0, [.int am1, ae1, .int 0])), (sl, .inr (0, [.int sm, se, .int 0])), (mo, .inr (13, fs210))] := hD
    have hK : va_K (dC, dI) vwCl [(tE, .object RX3)] s := hK
    refine W.widen (k := 268) (n := 364939) (Nat.le_of_ble_eq_true rfl) (Nat.le_of_ble_eq_true rfl) ?_
    subst hw
    refine lv_istore (lv' := [(6, .int r8), (5, .int 1), (4, .int 0), (3, .ref out), (2, .ref mo), (1, .ref h0), (0, .ref b)]) hx hb dL_law_1077 hl (by decide) rfl (fun ls hl => ?_)
    refine lv_aload_n hx hb dL_law_1079 rfl (lv_at hl 4 rfl) ?_
    have hPc := hP.sub (ws' := [(mo, .inr (13, fs210))]) [8] rfl
    have hDc := hD.sub (ws' := [(mo, .inr (13, fs210))]) [8] (by decide) rfl
    have hKc := hK.sub (tys' := []) [] rfl
    have hFc := freeNil hS hA
    refine va_calli (va_runV (As := []) (rest := []) ⟨hx, hb, hml, hown, ht⟩ (k2_thrown l d0 cO dC dI H.size mo 1 fs210 hx_11) (my_V ht M_X12_thrown q1976 q1977 q1975 (Nat.le_of_ble_eq_true rfl) (Nat.le_of_ble_eq_true rfl)) ⟨PREp.fb, va_recv hK hP (ci := 13) (q0 := 8) rfl rfl, fun U hU hW => ⟨rfl, PREp.mk' hE hS hFc hPc hKc U hU hW⟩⟩ rfl rfl hl.1 rfl (lv_room (Nat.le_of_ble_eq_true rfl)) dL_law_1080 ⟨(Nat.le_of_ble_eq_true rfl), (Nat.le_of_ble_eq_true rfl)⟩) hS (fun q _ h => hFc q h) hFc (fun r13 u12 t H1 locs htt hvm hw hB hz1 hk1 hS => ?_)
    try dsimp only at hw hB
    have hP1 := hB
    have hP := keepAll hP hk1
    generalize H1 = H at hP hS ⊢
    have hP : va_P (dC, dI) vwCl [(h0, .inr (12, [.ref fi, tca, .ref ea, .ref sl, tmx, tsv])), (fi, .inr (5, [fna, fla, fv2, fv3, fv4, fv5, .int 0])), (ea, .inl (tE, 2, .inr (.inr (.inr (.inr fE))))), (e0, .inr (4, [.int ei0, ev0_1, ev0_2, ev0_3, ev0_4, ev0_5, ev0_6, .ref ak0])), (e1, .inr (4, [.int ei1, ev1_1, ev1_2, ev1_3, ev1_4, ev1_5, ev1_6, .ref ak1])), (ak0, .inr (0, [.int am0, ae0, .int 0])), (ak1, .inr (0, [.int am1, ae1, .int 0])), (sl, .inr (0, [.int sm, se, .int 0])), (mo, .inr (13, fs210))] H := hP
    have hD : va_D A [(h0, .inr (12, [.ref fi, tca, .ref ea, .ref sl, tmx, tsv])), (fi, .inr (5, [fna, fla, fv2, fv3, fv4, fv5, .int 0])), (ea, .inl (tE, 2, .inr (.inr (.inr (.inr fE))))), (e0, .inr (4, [.int ei0, ev0_1, ev0_2, ev0_3, ev0_4, ev0_5, ev0_6, .ref ak0])), (e1, .inr (4, [.int ei1, ev1_1, ev1_2, ev1_3, ev1_4, ev1_5, ev1_6, .ref ak1])), (ak0, .inr (0, [.int am0, ae0, .int 0])), (ak1, .inr (0, [.int am1, ae1, .int 0])), (sl, .inr (0, [.int sm, se, .int 0])), (mo, .inr (13, fs210))] := hD
    have hK : va_K (dC, dI) vwCl [(tE, .object RX3)] s := hK
    refine W.widen (k := 268) (n := 364939) (Nat.le_of_ble_eq_true rfl) (Nat.le_of_ble_eq_true rfl) ?_
    subst hw
    refine lv_iload hx hb dL_law_1083 (lv_at hl 1 rfl) ?_
    refine lv_icmp_eq (tgt := 1090) hx hb dL_law_1085 (by decide) (fun c14 => ?_) (fun c14 => False.elim (by revert c14; decide))
    refine lv_iload hx hb dL_law_1090 (lv_at hl 1 rfl) ?_
    refine lv_if_ne (tgt := 1107) hx hb dL_law_1092 (by decide) (fun c15 => ?_) (fun c15 => False.elim (by revert c15; decide))
    refine lv_goto (tgt := 2038) hx hb dL_law_1107 (by decide) ?_
    refine lv_iinc (v := 8) (lv' := [(4, .int 8), (6, .int r8), (5, .int 1), (3, .ref out), (2, .ref mo), (1, .ref h0), (0, .ref b)]) hx hb dL_law_2038 hl (k := 2) rfl (by decide) (by decide) rfl (fun ls hl => ?_)
    refine lv_goto (tgt := 23) hx hb dL_law_2041 (by decide) ?_
    refine lv_iload hx hb dL_law_23 (lv_at hl 0 rfl) ?_
    refine lv_aload_n hx hb dL_law_25 rfl (lv_at hl 6 rfl) ?_
    refine va_slen hx hb hX hbl hbA hS dL_law_26 ?_
    refine W.eq (g2 := F0 m 27 ls [.int 8, .int 8]) rfl ?_
    refine lv_bipush (v := 8) hx hb dL_law_27 (by decide) ?_
    refine lv_isub hx hb dL_law_29 ?_
    refine lv_topi (fun x16 ex16 => ?_)
    obtain rfl : x16 = 0 := ex16.trans (by decide)
    refine lv_icmp_gt (tgt := 2044) hx hb dL_law_30 (by decide) (fun c17 => ?_) (fun c17 => False.elim (by revert c17; decide))
    refine lv_iconst (v := 1) hx hb dL_law_2044 (by decide) ?_
    refine W.widen (k := 600002) (n := 7302232) (Nat.le_of_ble_eq_true rfl) (Nat.le_of_ble_eq_true rfl) ?_
    refine va_forget (by have h := hS.2.2; rw [hAd] at h; exact h) ?_
    exact lw_ret hx hb hr hlocks dL_law_2045
set_option maxHeartbeats 4000000 in
set_option maxRecDepth 100000 in
theorem law_start (l : Launch) (hL : l.stackTraces = false) {p : Program} {e : Env} {s : State} {m : MethodId} {below : List Frame} {meth : Method} {c : Code} {b : Nat} {xs : Nat → Int32} {d0 : Nat} {cO : ClassId} {dC : Nat → ClassId} {dI : Nat → Nat → Nat} {H : Heap} {locs : List Loc} {ls : Array Slot} {h0 mo out : Nat} {ea sl : Nat} {tca tmx tsv : Value} {tE : ClassId} {fE : Nat → Option Nat} {sm : Int32} {se : Value} {fi : Nat} {fna fla fv2 fv3 fv4 fv5 : Value} {e0 ak0 : Nat} {ei0 am0 : Int32} {ev0_1 ev0_2 ev0_3 ev0_4 ev0_5 ev0_6 ae0 : Value} {e1 ak1 : Nat} {ei1 am1 : Int32} {ev1_1 ev1_2 ev1_3 ev1_4 ev1_5 ev1_6 ae1 : Value} {fs : List Value} (hf0 : fE 0 = some e0) (hf1 : fE 1 = some e1) (hlen : fs.length = 75) (hf_servers : fs[15]? = some (.int 0)) (C0 : lw_At p s m meth c b 8 xs) (hE : EN d0 cO (fun q : Nat => s.heap.size ≤ q) s s.heap) (hS : va_S (fun q : Nat => s.heap.size ≤ q) s.heap H locs) (hP : va_P (dC, dI) vwCl [(h0, .inr (12, [.ref fi, tca, .ref ea, .ref sl, tmx, tsv])), (fi, .inr (5, [fna, fla, fv2, fv3, fv4, fv5, .int 0])), (ea, .inl (tE, 2, .inr (.inr (.inr (.inr fE))))), (e0, .inr (4, [.int ei0, ev0_1, ev0_2, ev0_3, ev0_4, ev0_5, ev0_6, .ref ak0])), (e1, .inr (4, [.int ei1, ev1_1, ev1_2, ev1_3, ev1_4, ev1_5, ev1_6, .ref ak1])), (ak0, .inr (0, [.int am0, ae0, .int 0])), (ak1, .inr (0, [.int am1, ae1, .int 0])), (sl, .inr (0, [.int sm, se, .int 0])), (mo, .inr (13, fs))] H) (hD : va_D (fun q : Nat => s.heap.size ≤ q) [(h0, .inr (12, [.ref fi, tca, .ref ea, .ref sl, tmx, tsv])), (fi, .inr (5, [fna, fla, fv2, fv3, fv4, fv5, .int 0])), (ea, .inl (tE, 2, .inr (.inr (.inr (.inr fE))))), (e0, .inr (4, [.int ei0, ev0_1, ev0_2, ev0_3, ev0_4, ev0_5, ev0_6, .ref ak0])), (e1, .inr (4, [.int ei1, ev1_1, ev1_2, ev1_3, ev1_4, ev1_5, ev1_6, .ref ak1])), (ak0, .inr (0, [.int am0, ae0, .int 0])), (ak1, .inr (0, [.int am1, ae1, .int 0])), (sl, .inr (0, [.int sm, se, .int 0])), (mo, .inr (13, fs))]) (hK : va_K (dC, dI) vwCl [(tE, .object RX3)] s) (hl : lv_has ls 7 [(4, .int 0), (3, .ref out), (2, .ref mo), (1, .ref h0), (0, .ref b)]) : W p l e room_1 s m #[Value.ref b] below meth c H locs 267 364933 (lw_Z below #[Value.ref b] s) (F0 m 1110 ls []) := by
  obtain ⟨hx, hb, hr, hml, hown0, hts, hX, hbl, hlocks, hgv⟩ := id C0
  have hown : s.vm.findClass RL = some m.cls := hown0
  have ht : ∀ w ∈ GT, w.before #[Value.ref b] s = true := fun w h => hts w (gt_tbl h)
  obtain ⟨A, hAd⟩ : ∃ A : Nat → Prop, A = (fun q : Nat => s.heap.size ≤ q) := ⟨_, rfl⟩
  rw [← hAd] at hE hS hD
  have hA : ∀ q : Nat, s.heap.size ≤ q → A q := fun q h => by rw [hAd]; exact h
  have hbA : ¬ A b := by rw [hAd]; exact Nat.not_le.mpr hbl
  refine lv_aload_n hx hb dL_law_1110 rfl (lv_at hl 3 rfl) ?_
  refine lv_aload_n hx hb dL_law_1111 rfl (lv_at hl 4 rfl) ?_
  refine lv_iload hx hb dL_law_1112 (lv_at hl 0 rfl) ?_
  refine lv_iconst (v := 1) hx hb dL_law_1114 (by decide) ?_
  refine lv_iadd hx hb dL_law_1115 ?_
  refine lv_topi (fun x1 ex1 => ?_)
  obtain rfl : x1 = 1 := ex1.trans (by decide)
  refine va_sld hx hb hX hbl hbA hS (vp_in_nI (n := 1) (by decide) (by decide)) dL_law_1116 ?_
  refine lv_topi (fun sy2 esy2 => ?_)
  refine lv_aload_n hx hb dL_law_1117 rfl (lv_at hl 1 rfl) ?_
  have hPc := hP.sub (ws' := [(h0, .inr (12, [.ref fi, tca, .ref ea, .ref sl, tmx, tsv])), (fi, .inr (5, [fna, fla, fv2, fv3, fv4, fv5, .int 0])), (ea, .inl (tE, 2, .inr (.inr (.inr (.inr fE))))), (e0, .inr (4, [.int ei0, ev0_1, ev0_2, ev0_3, ev0_4, ev0_5, ev0_6, .ref ak0])), (e1, .inr (4, [.int ei1, ev1_1, ev1_2, ev1_3, ev1_4, ev1_5, ev1_6, .ref ak1])), (ak0, .inr (0, [.int am0, ae0, .int 0])), (ak1, .inr (0, [.int am1, ae1, .int 0])), (sl, .inr (0, [.int sm, se, .int 0]))]) [0, 1, 2, 3, 4, 5, 6, 7] rfl
  have hDc := hD.sub (ws' := [(h0, .inr (12, [.ref fi, tca, .ref ea, .ref sl, tmx, tsv])), (fi, .inr (5, [fna, fla, fv2, fv3, fv4, fv5, .int 0])), (ea, .inl (tE, 2, .inr (.inr (.inr (.inr fE))))), (e0, .inr (4, [.int ei0, ev0_1, ev0_2, ev0_3, ev0_4, ev0_5, ev0_6, .ref ak0])), (e1, .inr (4, [.int ei1, ev1_1, ev1_2, ev1_3, ev1_4, ev1_5, ev1_6, .ref ak1])), (ak0, .inr (0, [.int am0, ae0, .int 0])), (ak1, .inr (0, [.int am1, ae1, .int 0])), (sl, .inr (0, [.int sm, se, .int 0]))]) [0, 1, 2, 3, 4, 5, 6, 7] (by decide) rfl
  have hKc := hK.sub (tys' := [(tE, .object RX3)]) [0] rfl
  have hFc := freeNil hS hA
  refine vx_calli (vx_runSX (As := [.ref h0, .int sy2, .ref out]) (rest := []) ⟨hx, hb, hml, hown, ht⟩ (k_L_start l hL d0 cO dC dI H.size h0 ea sl tca tmx tsv tE fE sm se fi fna fla fv2 fv3 fv4 fv5 e0 ak0 ei0 am0 ev0_1 ev0_2 ev0_3 ev0_4 ev0_5 ev0_6 ae0 e1 ak1 ei1 am1 ev1_1 ev1_2 ev1_3 ev1_4 ev1_5 ev1_6 ae1 hf0 hf1 sy2 out) (my_SW ht M_L_start q1598 q1597 (Nat.le_of_ble_eq_true rfl) (Nat.le_of_ble_eq_true rfl)) ⟨PREp.fb, fun U hU hW => ⟨rfl, PREp.mk' hE hS hFc hPc hKc U hU hW⟩⟩ rfl rfl hl.1 rfl (lv_room (Nat.le_of_ble_eq_true rfl)) dL_law_1118 ⟨(Nat.le_of_ble_eq_true rfl), (Nat.le_of_ble_eq_true rfl)⟩) hS (fun q _ h => hFc q h) hFc (fun q _ h => hFc q h) (fun E ce q9 ux t H1 locs htt hvm hw hB hz1 hk1 hS hcell hv9 hcl9 => ?_) (fun r4 u3 t H1 locs htt hvm hw hB hz1 hk1 hS => ?_)
  · skip
    exact hB.elim
  · skip
    try dsimp only at hw hB
    have hP1 := hB
    have hP := keepAll hP hk1
    generalize H1 = H at hP hS ⊢
    have hP : va_P (dC, dI) vwCl [(h0, .inr (12, [.ref fi, tca, .ref ea, .ref sl, tmx, tsv])), (fi, .inr (5, [fna, fla, fv2, fv3, fv4, fv5, .int 0])), (ea, .inl (tE, 2, .inr (.inr (.inr (.inr fE))))), (e0, .inr (4, [.int ei0, ev0_1, ev0_2, ev0_3, ev0_4, ev0_5, ev0_6, .ref ak0])), (e1, .inr (4, [.int ei1, ev1_1, ev1_2, ev1_3, ev1_4, ev1_5, ev1_6, .ref ak1])), (ak0, .inr (0, [.int am0, ae0, .int 0])), (ak1, .inr (0, [.int am1, ae1, .int 0])), (sl, .inr (0, [.int sm, se, .int 0])), (mo, .inr (13, fs))] H := hP
    have hD : va_D A [(h0, .inr (12, [.ref fi, tca, .ref ea, .ref sl, tmx, tsv])), (fi, .inr (5, [fna, fla, fv2, fv3, fv4, fv5, .int 0])), (ea, .inl (tE, 2, .inr (.inr (.inr (.inr fE))))), (e0, .inr (4, [.int ei0, ev0_1, ev0_2, ev0_3, ev0_4, ev0_5, ev0_6, .ref ak0])), (e1, .inr (4, [.int ei1, ev1_1, ev1_2, ev1_3, ev1_4, ev1_5, ev1_6, .ref ak1])), (ak0, .inr (0, [.int am0, ae0, .int 0])), (ak1, .inr (0, [.int am1, ae1, .int 0])), (sl, .inr (0, [.int sm, se, .int 0])), (mo, .inr (13, fs))] := hD
    have hK : va_K (dC, dI) vwCl [(tE, .object RX3)] s := hK
    refine W.widen (k := 268) (n := 364939) (Nat.le_of_ble_eq_true rfl) (Nat.le_of_ble_eq_true rfl) ?_
    subst hw
    refine lv_istore (lv' := [(5, .int 1), (4, .int 0), (3, .ref out), (2, .ref mo), (1, .ref h0), (0, .ref b)]) hx hb dL_law_1121 hl (by decide) rfl (fun ls hl => ?_)
    refine lv_aload_n hx hb dL_law_1123 rfl (lv_at hl 3 rfl) ?_
    refine lv_aload_n hx hb dL_law_1124 rfl (lv_at hl 5 rfl) ?_
    refine lv_iload hx hb dL_law_1125 (lv_at hl 1 rfl) ?_
    refine lv_iconst (v := 1) hx hb dL_law_1127 (by decide) ?_
    refine lv_iadd hx hb dL_law_1128 ?_
    refine lv_topi (fun x5 ex5 => ?_)
    obtain rfl : x5 = 1 := ex5.trans (by decide)
    refine va_sld hx hb hX hbl hbA hS (vp_in_nI (n := 1) (by decide) (by decide)) dL_law_1129 ?_
    refine lv_topi (fun sy6 esy6 => ?_)
    have hyy : sy2 = sy6 := esy2.trans esy6.symm
    subst hyy
    have hPc := hP.sub (ws' := [(mo, .inr (13, fs))]) [8] rfl
    have hDc := hD.sub (ws' := [(mo, .inr (13, fs))]) [8] (by decide) rfl
    have hKc := hK.sub (tys' := []) [] rfl
    have hFc := va_free (wc := [(mo, .inr (13, fs))]) hD hS hA [8] rfl
    refine va_calli (va_runV (As := [.int sy2]) (rest := []) ⟨hx, hb, hml, hown, ht⟩ (k_X12_start l d0 cO dC dI H.size mo sy2 fs hlen hf_servers) (my_V ht M_X12_start q2279 q2280 q2278 (Nat.le_of_ble_eq_true rfl) (Nat.le_of_ble_eq_true rfl)) ⟨PRE.fb, va_recv hK hP (ci := 13) (q0 := 8) rfl rfl, fun U hU hW => ⟨rfl, PRE.mk' hE hS hFc hPc hKc hDc U hU hW⟩⟩ rfl rfl hl.1 rfl (lv_room (Nat.le_of_ble_eq_true rfl)) dL_law_1130 ⟨(Nat.le_of_ble_eq_true rfl), (Nat.le_of_ble_eq_true rfl)⟩) hS (fun q _ h => hFc q h) hFc (fun r8 u7 t H1 locs htt hvm hw hB hz1 hk1 hS => ?_)
    obtain ⟨th29, rfl⟩ : ∃ z, z = u7 := ⟨_, rfl⟩
    try dsimp only at hw hB
    obtain ⟨fs210, hx_11, hP1, hK1, hD1⟩ := hB
    rw [htt] at hP1
    have hK1 := va_K.moved hvm.symm hK1
    obtain ⟨hP, hD⟩ := va_join (wr := [(h0, .inr (12, [.ref fi, tca, .ref ea, .ref sl, tmx, tsv])), (fi, .inr (5, [fna, fla, fv2, fv3, fv4, fv5, .int 0])), (ea, .inl (tE, 2, .inr (.inr (.inr (.inr fE))))), (e0, .inr (4, [.int ei0, ev0_1, ev0_2, ev0_3, ev0_4, ev0_5, ev0_6, .ref ak0])), (e1, .inr (4, [.int ei1, ev1_1, ev1_2, ev1_3, ev1_4, ev1_5, ev1_6, .ref ak1])), (ak0, .inr (0, [.int am0, ae0, .int 0])), (ak1, .inr (0, [.int am1, ae1, .int 0])), (sl, .inr (0, [.int sm, se, .int 0]))]) (w1 := [(mo, .inr (13, fs210))]) hP hD [8] [0, 1, 2, 3, 4, 5, 6, 7] rfl rfl (by decide) (by decide) hk1 hFc hP1 hD1
    have hK := (hK.sub (tys' := [(tE, .object RX3)]) [0] rfl).app hK1
    generalize H1 = H at hP hS ⊢
    have hP : va_P (dC, dI) vwCl [(h0, .inr (12, [.ref fi, tca, .ref ea, .ref sl, tmx, tsv])), (fi, .inr (5, [fna, fla, fv2, fv3, fv4, fv5, .int 0])), (ea, .inl (tE, 2, .inr (.inr (.inr (.inr fE))))), (e0, .inr (4, [.int ei0, ev0_1, ev0_2, ev0_3, ev0_4, ev0_5, ev0_6, .ref ak0])), (e1, .inr (4, [.int ei1, ev1_1, ev1_2, ev1_3, ev1_4, ev1_5, ev1_6, .ref ak1])), (ak0, .inr (0, [.int am0, ae0, .int 0])), (ak1, .inr (0, [.int am1, ae1, .int 0])), (sl, .inr (0, [.int sm, se, .int 0])), (mo, .inr (13, fs210))] H := hP
    have hD : va_D A [(h0, .inr (12, [.ref fi, tca, .ref ea, .ref sl, tmx, tsv])), (fi, .inr (5, [fna, fla, fv2, fv3, fv4, fv5, .int 0])), (ea, .inl (tE, 2, .inr (.inr (.inr (.inr fE))))), (e0, .inr (4, [.int ei0, ev0_1, ev0_2, ev0_3, ev0_4, ev0_5, ev0_6, .ref ak0])), (e1, .inr (4, [.int ei1, ev1_1, ev1_2, ev1_3, ev1_4, ev1_5, ev1_6, .ref ak1])), (ak0, .inr (0, [.int am0, ae0, .int 0])), (ak1, .inr (0, [.int am1, ae1, .int 0])), (sl, .inr (0, [.int sm, se, .int 0])), (mo, .inr (13, fs210))] := hD
    have hK : va_K (dC, dI) vwCl [(tE, .object RX3)] s := hK
    refine W.widen (k := 268) (n := 364939) (Nat.le_of_ble_eq_true rfl) (Nat.le_of_ble_eq_true rfl) ?_
    subst hw
    refine lv_istore (lv' := [(6, .int r8), (5, .int 1), (4, .int 0), (3, .ref out), (2, .ref mo), (1, .ref h0), (0, .ref b)]) hx hb dL_law_1133 hl (by decide) rfl (fun ls hl => ?_)
    refine lv_aload_n hx hb dL_law_1135 rfl (lv_at hl 4 rfl) ?_
    have hPc := hP.sub (ws' := [(mo, .inr (13, fs210))]) [8] rfl
    have hDc := hD.sub (ws' := [(mo, .inr (13, fs210))]) [8] (by decide) rfl
    have hKc := hK.sub (tys' := []) [] rfl
    have hFc := freeNil hS hA
    refine va_calli (va_runV (As := []) (rest := []) ⟨hx, hb, hml, hown, ht⟩ (k2_thrown l d0 cO dC dI H.size mo 1 fs210 hx_11) (my_V ht M_X12_thrown q1976 q1977 q1975 (Nat.le_of_ble_eq_true rfl) (Nat.le_of_ble_eq_true rfl)) ⟨PREp.fb, va_recv hK hP (ci := 13) (q0 := 8) rfl rfl, fun U hU hW => ⟨rfl, PREp.mk' hE hS hFc hPc hKc U hU hW⟩⟩ rfl rfl hl.1 rfl (lv_room (Nat.le_of_ble_eq_true rfl)) dL_law_1136 ⟨(Nat.le_of_ble_eq_true rfl), (Nat.le_of_ble_eq_true rfl)⟩) hS (fun q _ h => hFc q h) hFc (fun r13 u12 t H1 locs htt hvm hw hB hz1 hk1 hS => ?_)
    try dsimp only at hw hB
    have hP1 := hB
    have hP := keepAll hP hk1
    generalize H1 = H at hP hS ⊢
    have hP : va_P (dC, dI) vwCl [(h0, .inr (12, [.ref fi, tca, .ref ea, .ref sl, tmx, tsv])), (fi, .inr (5, [fna, fla, fv2, fv3, fv4, fv5, .int 0])), (ea, .inl (tE, 2, .inr (.inr (.inr (.inr fE))))), (e0, .inr (4, [.int ei0, ev0_1, ev0_2, ev0_3, ev0_4, ev0_5, ev0_6, .ref ak0])), (e1, .inr (4, [.int ei1, ev1_1, ev1_2, ev1_3, ev1_4, ev1_5, ev1_6, .ref ak1])), (ak0, .inr (0, [.int am0, ae0, .int 0])), (ak1, .inr (0, [.int am1, ae1, .int 0])), (sl, .inr (0, [.int sm, se, .int 0])), (mo, .inr (13, fs210))] H := hP
    have hD : va_D A [(h0, .inr (12, [.ref fi, tca, .ref ea, .ref sl, tmx, tsv])), (fi, .inr (5, [fna, fla, fv2, fv3, fv4, fv5, .int 0])), (ea, .inl (tE, 2, .inr (.inr (.inr (.inr fE))))), (e0, .inr (4, [.int ei0, ev0_1, ev0_2, ev0_3, ev0_4, ev0_5, ev0_6, .ref ak0])), (e1, .inr (4, [.int ei1, ev1_1, ev1_2, ev1_3, ev1_4, ev1_5, ev1_6, .ref ak1])), (ak0, .inr (0, [.int am0, ae0, .int 0])), (ak1, .inr (0, [.int am1, ae1, .int 0])), (sl, .inr (0, [.int sm, se, .int 0])), (mo, .inr (13, fs210))] := hD
    have hK : va_K (dC, dI) vwCl [(tE, .object RX3)] s := hK
    refine W.widen (k := 268) (n := 364939) (Nat.le_of_ble_eq_true rfl) (Nat.le_of_ble_eq_true rfl) ?_
    subst hw
    refine lv_iload hx hb dL_law_1139 (lv_at hl 1 rfl) ?_
    refine lv_icmp_eq (tgt := 1146) hx hb dL_law_1141 (by decide) (fun c14 => ?_) (fun c14 => False.elim (by revert c14; decide))
    refine lv_iload hx hb dL_law_1146 (lv_at hl 1 rfl) ?_
    refine lv_if_ne (tgt := 1163) hx hb dL_law_1148 (by decide) (fun c15 => ?_) (fun c15 => False.elim (by revert c15; decide))
    refine lv_goto (tgt := 2038) hx hb dL_law_1163 (by decide) ?_
    refine lv_iinc (v := 8) (lv' := [(4, .int 8), (6, .int r8), (5, .int 1), (3, .ref out), (2, .ref mo), (1, .ref h0), (0, .ref b)]) hx hb dL_law_2038 hl (k := 2) rfl (by decide) (by decide) rfl (fun ls hl => ?_)
    refine lv_goto (tgt := 23) hx hb dL_law_2041 (by decide) ?_
    refine lv_iload hx hb dL_law_23 (lv_at hl 0 rfl) ?_
    refine lv_aload_n hx hb dL_law_25 rfl (lv_at hl 6 rfl) ?_
    refine va_slen hx hb hX hbl hbA hS dL_law_26 ?_
    refine W.eq (g2 := F0 m 27 ls [.int 8, .int 8]) rfl ?_
    refine lv_bipush (v := 8) hx hb dL_law_27 (by decide) ?_
    refine lv_isub hx hb dL_law_29 ?_
    refine lv_topi (fun x16 ex16 => ?_)
    obtain rfl : x16 = 0 := ex16.trans (by decide)
    refine lv_icmp_gt (tgt := 2044) hx hb dL_law_30 (by decide) (fun c17 => ?_) (fun c17 => False.elim (by revert c17; decide))
    refine lv_iconst (v := 1) hx hb dL_law_2044 (by decide) ?_
    refine W.widen (k := 600002) (n := 7302232) (Nat.le_of_ble_eq_true rfl) (Nat.le_of_ble_eq_true rfl) ?_
    refine va_forget (by have h := hS.2.2; rw [hAd] at h; exact h) ?_
    exact lw_ret hx hb hr hlocks dL_law_2045
set_option maxHeartbeats 4000000 in
set_option maxRecDepth 100000 in
theorem law_tellFaults (l : Launch) (hL : l.stackTraces = false) {p : Program} {e : Env} {s : State} {m : MethodId} {below : List Frame} {meth : Method} {c : Code} {b : Nat} {xs : Nat → Int32} {d0 : Nat} {cO : ClassId} {dC : Nat → ClassId} {dI : Nat → Nat → Nat} {H : Heap} {locs : List Loc} {ls : Array Slot} {h0 mo out : Nat} {ea sl : Nat} {tca tmx tsv : Value} {tE : ClassId} {fE : Nat → Option Nat} {sm : Int32} {se : Value} {fi : Nat} {fna fla fv2 fv3 fv4 fv5 : Value} {e0 ak0 : Nat} {ei0 am0 : Int32} {ev0_1 ev0_2 ev0_3 ev0_4 ev0_5 ev0_6 ae0 : Value} {e1 ak1 : Nat} {ei1 am1 : Int32} {ev1_1 ev1_2 ev1_3 ev1_4 ev1_5 ev1_6 ae1 : Value} {fs : List Value} (hf0 : fE 0 = some e0) (hf1 : fE 1 = some e1) (hlen : fs.length = 75) (hf_files : fs[2]? = some (.int 0)) (hf_servers : fs[15]? = some (.int 0)) (C0 : lw_At p s m meth c b 8 xs) (hE : EN d0 cO (fun q : Nat => s.heap.size ≤ q) s s.heap) (hS : va_S (fun q : Nat => s.heap.size ≤ q) s.heap H locs) (hP : va_P (dC, dI) vwCl [(h0, .inr (12, [.ref fi, tca, .ref ea, .ref sl, tmx, tsv])), (fi, .inr (5, [fna, fla, fv2, fv3, fv4, fv5, .int 0])), (ea, .inl (tE, 2, .inr (.inr (.inr (.inr fE))))), (e0, .inr (4, [.int ei0, ev0_1, ev0_2, ev0_3, ev0_4, ev0_5, ev0_6, .ref ak0])), (e1, .inr (4, [.int ei1, ev1_1, ev1_2, ev1_3, ev1_4, ev1_5, ev1_6, .ref ak1])), (ak0, .inr (0, [.int am0, ae0, .int 0])), (ak1, .inr (0, [.int am1, ae1, .int 0])), (sl, .inr (0, [.int sm, se, .int 0])), (mo, .inr (13, fs))] H) (hD : va_D (fun q : Nat => s.heap.size ≤ q) [(h0, .inr (12, [.ref fi, tca, .ref ea, .ref sl, tmx, tsv])), (fi, .inr (5, [fna, fla, fv2, fv3, fv4, fv5, .int 0])), (ea, .inl (tE, 2, .inr (.inr (.inr (.inr fE))))), (e0, .inr (4, [.int ei0, ev0_1, ev0_2, ev0_3, ev0_4, ev0_5, ev0_6, .ref ak0])), (e1, .inr (4, [.int ei1, ev1_1, ev1_2, ev1_3, ev1_4, ev1_5, ev1_6, .ref ak1])), (ak0, .inr (0, [.int am0, ae0, .int 0])), (ak1, .inr (0, [.int am1, ae1, .int 0])), (sl, .inr (0, [.int sm, se, .int 0])), (mo, .inr (13, fs))]) (hK : va_K (dC, dI) vwCl [(tE, .object RX3)] s) (hl : lv_has ls 7 [(4, .int 0), (3, .ref out), (2, .ref mo), (1, .ref h0), (0, .ref b)]) : W p l e room_1 s m #[Value.ref b] below meth c H locs 267 364933 (lw_Z below #[Value.ref b] s) (F0 m 986 ls []) := by
  obtain ⟨hx, hb, hr, hml, hown0, hts, hX, hbl, hlocks, hgv⟩ := id C0
  have hown : s.vm.findClass RL = some m.cls := hown0
  have ht : ∀ w ∈ GT, w.before #[Value.ref b] s = true := fun w h => hts w (gt_tbl h)
  obtain ⟨A, hAd⟩ : ∃ A : Nat → Prop, A = (fun q : Nat => s.heap.size ≤ q) := ⟨_, rfl⟩
  rw [← hAd] at hE hS hD
  have hA : ∀ q : Nat, s.heap.size ≤ q → A q := fun q h => by rw [hAd]; exact h
  have hbA : ¬ A b := by rw [hAd]; exact Nat.not_le.mpr hbl
  refine lv_aload_n hx hb dL_law_986 rfl (lv_at hl 3 rfl) ?_
  refine lv_aload_n hx hb dL_law_987 rfl (lv_at hl 4 rfl) ?_
  refine lv_iload hx hb dL_law_988 (lv_at hl 0 rfl) ?_
  refine lv_iconst (v := 1) hx hb dL_law_990 (by decide) ?_
  refine lv_iadd hx hb dL_law_991 ?_
  refine lv_topi (fun x1 ex1 => ?_)
  obtain rfl : x1 = 1 := ex1.trans (by decide)
  refine va_sld hx hb hX hbl hbA hS (vp_in_nI (n := 1) (by decide) (by decide)) dL_law_992 ?_
  refine lv_topi (fun sy2 esy2 => ?_)
  refine lv_aload_n hx hb dL_law_993 rfl (lv_at hl 4 rfl) ?_
  refine lv_iload hx hb dL_law_994 (lv_at hl 0 rfl) ?_
  refine lv_iconst (v := 2) hx hb dL_law_996 (by decide) ?_
  refine lv_iadd hx hb dL_law_997 ?_
  refine lv_topi (fun x3 ex3 => ?_)
  obtain rfl : x3 = 2 := ex3.trans (by decide)
  refine va_sld hx hb hX hbl hbA hS (vp_in_nI (n := 2) (by decide) (by decide)) dL_law_998 ?_
  refine lv_topi (fun sy4 esy4 => ?_)
  refine lv_aload_n hx hb dL_law_999 rfl (lv_at hl 1 rfl) ?_
  have hPc := hP.sub (ws' := [(h0, .inr (12, [.ref fi, tca, .ref ea, .ref sl, tmx, tsv])), (fi, .inr (5, [fna, fla, fv2, fv3, fv4, fv5, .int 0])), (ea, .inl (tE, 2, .inr (.inr (.inr (.inr fE))))), (e0, .inr (4, [.int ei0, ev0_1, ev0_2, ev0_3, ev0_4, ev0_5, ev0_6, .ref ak0])), (e1, .inr (4, [.int ei1, ev1_1, ev1_2, ev1_3, ev1_4, ev1_5, ev1_6, .ref ak1])), (ak0, .inr (0, [.int am0, ae0, .int 0])), (ak1, .inr (0, [.int am1, ae1, .int 0])), (sl, .inr (0, [.int sm, se, .int 0]))]) [0, 1, 2, 3, 4, 5, 6, 7] rfl
  have hDc := hD.sub (ws' := [(h0, .inr (12, [.ref fi, tca, .ref ea, .ref sl, tmx, tsv])), (fi, .inr (5, [fna, fla, fv2, fv3, fv4, fv5, .int 0])), (ea, .inl (tE, 2, .inr (.inr (.inr (.inr fE))))), (e0, .inr (4, [.int ei0, ev0_1, ev0_2, ev0_3, ev0_4, ev0_5, ev0_6, .ref ak0])), (e1, .inr (4, [.int ei1, ev1_1, ev1_2, ev1_3, ev1_4, ev1_5, ev1_6, .ref ak1])), (ak0, .inr (0, [.int am0, ae0, .int 0])), (ak1, .inr (0, [.int am1, ae1, .int 0])), (sl, .inr (0, [.int sm, se, .int 0]))]) [0, 1, 2, 3, 4, 5, 6, 7] (by decide) rfl
  have hKc := hK.sub (tys' := [(tE, .object RX3)]) [0] rfl
  have hFc := freeNil hS hA
  refine vx_calli (vx_runSX (As := [.ref h0, .int sy2, .int sy4, .ref out]) (rest := []) ⟨hx, hb, hml, hown, ht⟩ (k_L_tellFaults l hL d0 cO dC dI H.size h0 ea sl tca tmx tsv tE fE sm se fi fna fla fv2 fv3 fv4 fv5 e0 ak0 ei0 am0 ev0_1 ev0_2 ev0_3 ev0_4 ev0_5 ev0_6 ae0 e1 ak1 ei1 am1 ev1_1 ev1_2 ev1_3 ev1_4 ev1_5 ev1_6 ae1 hf0 hf1 sy2 sy4 out) (my_SW ht M_L_tellFaults q1555 q1554 (Nat.le_of_ble_eq_true rfl) (Nat.le_of_ble_eq_true rfl)) ⟨PREp.fb, fun U hU hW => ⟨rfl, PREp.mk' hE hS hFc hPc hKc U hU hW⟩⟩ rfl rfl hl.1 rfl (lv_room (Nat.le_of_ble_eq_true rfl)) dL_law_1000 ⟨(Nat.le_of_ble_eq_true rfl), (Nat.le_of_ble_eq_true rfl)⟩) hS (fun q _ h => hFc q h) hFc (fun q _ h => hFc q h) (fun E ce q9 ux t H1 locs htt hvm hw hB hz1 hk1 hS hcell hv9 hcl9 => ?_) (fun r6 u5 t H1 locs htt hvm hw hB hz1 hk1 hS => ?_)
  · skip
    exact hB.elim
  · skip
    try dsimp only at hw hB
    have hP1 := hB
    have hP := keepAll hP hk1
    generalize H1 = H at hP hS ⊢
    have hP : va_P (dC, dI) vwCl [(h0, .inr (12, [.ref fi, tca, .ref ea, .ref sl, tmx, tsv])), (fi, .inr (5, [fna, fla, fv2, fv3, fv4, fv5, .int 0])), (ea, .inl (tE, 2, .inr (.inr (.inr (.inr fE))))), (e0, .inr (4, [.int ei0, ev0_1, ev0_2, ev0_3, ev0_4, ev0_5, ev0_6, .ref ak0])), (e1, .inr (4, [.int ei1, ev1_1, ev1_2, ev1_3, ev1_4, ev1_5, ev1_6, .ref ak1])), (ak0, .inr (0, [.int am0, ae0, .int 0])), (ak1, .inr (0, [.int am1, ae1, .int 0])), (sl, .inr (0, [.int sm, se, .int 0])), (mo, .inr (13, fs))] H := hP
    have hD : va_D A [(h0, .inr (12, [.ref fi, tca, .ref ea, .ref sl, tmx, tsv])), (fi, .inr (5, [fna, fla, fv2, fv3, fv4, fv5, .int 0])), (ea, .inl (tE, 2, .inr (.inr (.inr (.inr fE))))), (e0, .inr (4, [.int ei0, ev0_1, ev0_2, ev0_3, ev0_4, ev0_5, ev0_6, .ref ak0])), (e1, .inr (4, [.int ei1, ev1_1, ev1_2, ev1_3, ev1_4, ev1_5, ev1_6, .ref ak1])), (ak0, .inr (0, [.int am0, ae0, .int 0])), (ak1, .inr (0, [.int am1, ae1, .int 0])), (sl, .inr (0, [.int sm, se, .int 0])), (mo, .inr (13, fs))] := hD
    have hK : va_K (dC, dI) vwCl [(tE, .object RX3)] s := hK
    refine W.widen (k := 268) (n := 364939) (Nat.le_of_ble_eq_true rfl) (Nat.le_of_ble_eq_true rfl) ?_
    subst hw
    refine lv_istore (lv' := [(5, .int 1), (4, .int 0), (3, .ref out), (2, .ref mo), (1, .ref h0), (0, .ref b)]) hx hb dL_law_1003 hl (by decide) rfl (fun ls hl => ?_)
    refine lv_aload_n hx hb dL_law_1005 rfl (lv_at hl 3 rfl) ?_
    refine lv_aload_n hx hb dL_law_1006 rfl (lv_at hl 5 rfl) ?_
    refine lv_iload hx hb dL_law_1007 (lv_at hl 1 rfl) ?_
    refine lv_iconst (v := 1) hx hb dL_law_1009 (by decide) ?_
    refine lv_iadd hx hb dL_law_1010 ?_
    refine lv_topi (fun x7 ex7 => ?_)
    obtain rfl : x7 = 1 := ex7.trans (by decide)
    refine va_sld hx hb hX hbl hbA hS (vp_in_nI (n := 1) (by decide) (by decide)) dL_law_1011 ?_
    refine lv_topi (fun sy8 esy8 => ?_)
    have hyy : sy2 = sy8 := esy2.trans esy8.symm
    subst hyy
    refine lv_aload_n hx hb dL_law_1012 rfl (lv_at hl 5 rfl) ?_
    refine lv_iload hx hb dL_law_1013 (lv_at hl 1 rfl) ?_
    refine lv_iconst (v := 2) hx hb dL_law_1015 (by decide) ?_
    refine lv_iadd hx hb dL_law_1016 ?_
    refine lv_topi (fun x9 ex9 => ?_)
    obtain rfl : x9 = 2 := ex9.trans (by decide)
    refine va_sld hx hb hX hbl hbA hS (vp_in_nI (n := 2) (by decide) (by decide)) dL_law_1017 ?_
    refine lv_topi (fun sy10 esy10 => ?_)
    have hyy : sy4 = sy10 := esy4.trans esy10.symm
    subst hyy
    have hPc := hP.sub (ws' := [(mo, .inr (13, fs))]) [8] rfl
    have hDc := hD.sub (ws' := [(mo, .inr (13, fs))]) [8] (by decide) rfl
    have hKc := hK.sub (tys' := []) [] rfl
    have hFc := va_free (wc := [(mo, .inr (13, fs))]) hD hS hA [8] rfl
    refine va_calli (va_runV (As := [.int sy2, .int sy4]) (rest := []) ⟨hx, hb, hml, hown, ht⟩ (k_X12_tellFaults l d0 cO dC dI H.size mo sy2 sy4 fs hlen hf_files hf_servers) (my_V ht M_X12_tellFaults q2211 q2212 q2210 (Nat.le_of_ble_eq_true rfl) (Nat.le_of_ble_eq_true rfl)) ⟨PRE.fb, va_recv hK hP (ci := 13) (q0 := 8) rfl rfl, fun U hU hW => ⟨rfl, PRE.mk' hE hS hFc hPc hKc hDc U hU hW⟩⟩ rfl rfl hl.1 rfl (lv_room (Nat.le_of_ble_eq_true rfl)) dL_law_1018 ⟨(Nat.le_of_ble_eq_true rfl), (Nat.le_of_ble_eq_true rfl)⟩) hS (fun q _ h => hFc q h) hFc (fun r12 u11 t H1 locs htt hvm hw hB hz1 hk1 hS => ?_)
    obtain ⟨th213, rfl⟩ : ∃ z, z = u11 := ⟨_, rfl⟩
    try dsimp only at hw hB
    obtain ⟨fs214, hx_15, hP1, hK1, hD1⟩ := hB
    rw [htt] at hP1
    have hK1 := va_K.moved hvm.symm hK1
    obtain ⟨hP, hD⟩ := va_join (wr := [(h0, .inr (12, [.ref fi, tca, .ref ea, .ref sl, tmx, tsv])), (fi, .inr (5, [fna, fla, fv2, fv3, fv4, fv5, .int 0])), (ea, .inl (tE, 2, .inr (.inr (.inr (.inr fE))))), (e0, .inr (4, [.int ei0, ev0_1, ev0_2, ev0_3, ev0_4, ev0_5, ev0_6, .ref ak0])), (e1, .inr (4, [.int ei1, ev1_1, ev1_2, ev1_3, ev1_4, ev1_5, ev1_6, .ref ak1])), (ak0, .inr (0, [.int am0, ae0, .int 0])), (ak1, .inr (0, [.int am1, ae1, .int 0])), (sl, .inr (0, [.int sm, se, .int 0]))]) (w1 := [(mo, .inr (13, fs214))]) hP hD [8] [0, 1, 2, 3, 4, 5, 6, 7] rfl rfl (by decide) (by decide) hk1 hFc hP1 hD1
    have hK := (hK.sub (tys' := [(tE, .object RX3)]) [0] rfl).app hK1
    generalize H1 = H at hP hS ⊢
    have hP : va_P (dC, dI) vwCl [(h0, .inr (12, [.ref fi, tca, .ref ea, .ref sl, tmx, tsv])), (fi, .inr (5, [fna, fla, fv2, fv3, fv4, fv5, .int 0])), (ea, .inl (tE, 2, .inr (.inr (.inr (.inr fE))))), (e0, .inr (4, [.int ei0, ev0_1, ev0_2, ev0_3, ev0_4, ev0_5, ev0_6, .ref ak0])), (e1, .inr (4, [.int ei1, ev1_1, ev1_2, ev1_3, ev1_4, ev1_5, ev1_6, .ref ak1])), (ak0, .inr (0, [.int am0, ae0, .int 0])), (ak1, .inr (0, [.int am1, ae1, .int 0])), (sl, .inr (0, [.int sm, se, .int 0])), (mo, .inr (13, fs214))] H := hP
    have hD : va_D A [(h0, .inr (12, [.ref fi, tca, .ref ea, .ref sl, tmx, tsv])), (fi, .inr (5, [fna, fla, fv2, fv3, fv4, fv5, .int 0])), (ea, .inl (tE, 2, .inr (.inr (.inr (.inr fE))))), (e0, .inr (4, [.int ei0, ev0_1, ev0_2, ev0_3, ev0_4, ev0_5, ev0_6, .ref ak0])), (e1, .inr (4, [.int ei1, ev1_1, ev1_2, ev1_3, ev1_4, ev1_5, ev1_6, .ref ak1])), (ak0, .inr (0, [.int am0, ae0, .int 0])), (ak1, .inr (0, [.int am1, ae1, .int 0])), (sl, .inr (0, [.int sm, se, .int 0])), (mo, .inr (13, fs214))] := hD
    have hK : va_K (dC, dI) vwCl [(tE, .object RX3)] s := hK
    refine W.widen (k := 268) (n := 364939) (Nat.le_of_ble_eq_true rfl) (Nat.le_of_ble_eq_true rfl) ?_
    subst hw
    refine lv_istore (lv' := [(6, .int r12), (5, .int 1), (4, .int 0), (3, .ref out), (2, .ref mo), (1, .ref h0), (0, .ref b)]) hx hb dL_law_1021 hl (by decide) rfl (fun ls hl => ?_)
    refine lv_aload_n hx hb dL_law_1023 rfl (lv_at hl 4 rfl) ?_
    have hPc := hP.sub (ws' := [(mo, .inr (13, fs214))]) [8] rfl
    have hDc := hD.sub (ws' := [(mo, .inr (13, fs214))]) [8] (by decide) rfl
    have hKc := hK.sub (tys' := []) [] rfl
    have hFc := freeNil hS hA
    refine va_calli (va_runV (As := []) (rest := []) ⟨hx, hb, hml, hown, ht⟩ (k2_thrown l d0 cO dC dI H.size mo 1 fs214 hx_15) (my_V ht M_X12_thrown q1976 q1977 q1975 (Nat.le_of_ble_eq_true rfl) (Nat.le_of_ble_eq_true rfl)) ⟨PREp.fb, va_recv hK hP (ci := 13) (q0 := 8) rfl rfl, fun U hU hW => ⟨rfl, PREp.mk' hE hS hFc hPc hKc U hU hW⟩⟩ rfl rfl hl.1 rfl (lv_room (Nat.le_of_ble_eq_true rfl)) dL_law_1024 ⟨(Nat.le_of_ble_eq_true rfl), (Nat.le_of_ble_eq_true rfl)⟩) hS (fun q _ h => hFc q h) hFc (fun r17 u16 t H1 locs htt hvm hw hB hz1 hk1 hS => ?_)
    try dsimp only at hw hB
    have hP1 := hB
    have hP := keepAll hP hk1
    generalize H1 = H at hP hS ⊢
    have hP : va_P (dC, dI) vwCl [(h0, .inr (12, [.ref fi, tca, .ref ea, .ref sl, tmx, tsv])), (fi, .inr (5, [fna, fla, fv2, fv3, fv4, fv5, .int 0])), (ea, .inl (tE, 2, .inr (.inr (.inr (.inr fE))))), (e0, .inr (4, [.int ei0, ev0_1, ev0_2, ev0_3, ev0_4, ev0_5, ev0_6, .ref ak0])), (e1, .inr (4, [.int ei1, ev1_1, ev1_2, ev1_3, ev1_4, ev1_5, ev1_6, .ref ak1])), (ak0, .inr (0, [.int am0, ae0, .int 0])), (ak1, .inr (0, [.int am1, ae1, .int 0])), (sl, .inr (0, [.int sm, se, .int 0])), (mo, .inr (13, fs214))] H := hP
    have hD : va_D A [(h0, .inr (12, [.ref fi, tca, .ref ea, .ref sl, tmx, tsv])), (fi, .inr (5, [fna, fla, fv2, fv3, fv4, fv5, .int 0])), (ea, .inl (tE, 2, .inr (.inr (.inr (.inr fE))))), (e0, .inr (4, [.int ei0, ev0_1, ev0_2, ev0_3, ev0_4, ev0_5, ev0_6, .ref ak0])), (e1, .inr (4, [.int ei1, ev1_1, ev1_2, ev1_3, ev1_4, ev1_5, ev1_6, .ref ak1])), (ak0, .inr (0, [.int am0, ae0, .int 0])), (ak1, .inr (0, [.int am1, ae1, .int 0])), (sl, .inr (0, [.int sm, se, .int 0])), (mo, .inr (13, fs214))] := hD
    have hK : va_K (dC, dI) vwCl [(tE, .object RX3)] s := hK
    refine W.widen (k := 268) (n := 364939) (Nat.le_of_ble_eq_true rfl) (Nat.le_of_ble_eq_true rfl) ?_
    subst hw
    refine lv_iload hx hb dL_law_1027 (lv_at hl 1 rfl) ?_
    refine lv_icmp_eq (tgt := 1034) hx hb dL_law_1029 (by decide) (fun c18 => ?_) (fun c18 => False.elim (by revert c18; decide))
    refine lv_iload hx hb dL_law_1034 (lv_at hl 1 rfl) ?_
    refine lv_if_ne (tgt := 1051) hx hb dL_law_1036 (by decide) (fun c19 => ?_) (fun c19 => False.elim (by revert c19; decide))
    refine lv_goto (tgt := 2038) hx hb dL_law_1051 (by decide) ?_
    refine lv_iinc (v := 8) (lv' := [(4, .int 8), (6, .int r12), (5, .int 1), (3, .ref out), (2, .ref mo), (1, .ref h0), (0, .ref b)]) hx hb dL_law_2038 hl (k := 2) rfl (by decide) (by decide) rfl (fun ls hl => ?_)
    refine lv_goto (tgt := 23) hx hb dL_law_2041 (by decide) ?_
    refine lv_iload hx hb dL_law_23 (lv_at hl 0 rfl) ?_
    refine lv_aload_n hx hb dL_law_25 rfl (lv_at hl 6 rfl) ?_
    refine va_slen hx hb hX hbl hbA hS dL_law_26 ?_
    refine W.eq (g2 := F0 m 27 ls [.int 8, .int 8]) rfl ?_
    refine lv_bipush (v := 8) hx hb dL_law_27 (by decide) ?_
    refine lv_isub hx hb dL_law_29 ?_
    refine lv_topi (fun x20 ex20 => ?_)
    obtain rfl : x20 = 0 := ex20.trans (by decide)
    refine lv_icmp_gt (tgt := 2044) hx hb dL_law_30 (by decide) (fun c21 => ?_) (fun c21 => False.elim (by revert c21; decide))
    refine lv_iconst (v := 1) hx hb dL_law_2044 (by decide) ?_
    refine W.widen (k := 600002) (n := 7302232) (Nat.le_of_ble_eq_true rfl) (Nat.le_of_ble_eq_true rfl) ?_
    refine va_forget (by have h := hS.2.2; rw [hAd] at h; exact h) ?_
    exact lw_ret hx hb hr hlocks dL_law_2045
set_option maxHeartbeats 4000000 in
set_option maxRecDepth 100000 in
theorem law_version (l : Launch) (hL : l.stackTraces = false) {p : Program} {e : Env} {s : State} {m : MethodId} {below : List Frame} {meth : Method} {c : Code} {b : Nat} {xs : Nat → Int32} {d0 : Nat} {cO : ClassId} {dC : Nat → ClassId} {dI : Nat → Nat → Nat} {H : Heap} {locs : List Loc} {ls : Array Slot} {h0 mo out : Nat} {ea sl : Nat} {tca tmx tsv : Value} {tE : ClassId} {fE : Nat → Option Nat} {sm : Int32} {se : Value} {fi : Nat} {fna fla fv2 fv3 fv4 fv5 : Value} {e0 ak0 : Nat} {ei0 am0 : Int32} {ev0_1 ev0_2 ev0_3 ev0_4 ev0_5 ev0_6 ae0 : Value} {e1 ak1 : Nat} {ei1 am1 : Int32} {ev1_1 ev1_2 ev1_3 ev1_4 ev1_5 ev1_6 ae1 : Value} {fs : List Value} (hf0 : fE 0 = some e0) (hf1 : fE 1 = some e1) (hlen : fs.length = 75) (hf_files : fs[2]? = some (.int 0)) (hf_servers : fs[15]? = some (.int 0)) (C0 : lw_At p s m meth c b 8 xs) (hE : EN d0 cO (fun q : Nat => s.heap.size ≤ q) s s.heap) (hS : va_S (fun q : Nat => s.heap.size ≤ q) s.heap H locs) (hP : va_P (dC, dI) vwCl [(h0, .inr (12, [.ref fi, tca, .ref ea, .ref sl, tmx, tsv])), (fi, .inr (5, [fna, fla, fv2, fv3, fv4, fv5, .int 0])), (ea, .inl (tE, 2, .inr (.inr (.inr (.inr fE))))), (e0, .inr (4, [.int ei0, ev0_1, ev0_2, ev0_3, ev0_4, ev0_5, ev0_6, .ref ak0])), (e1, .inr (4, [.int ei1, ev1_1, ev1_2, ev1_3, ev1_4, ev1_5, ev1_6, .ref ak1])), (ak0, .inr (0, [.int am0, ae0, .int 0])), (ak1, .inr (0, [.int am1, ae1, .int 0])), (sl, .inr (0, [.int sm, se, .int 0])), (mo, .inr (13, fs))] H) (hD : va_D (fun q : Nat => s.heap.size ≤ q) [(h0, .inr (12, [.ref fi, tca, .ref ea, .ref sl, tmx, tsv])), (fi, .inr (5, [fna, fla, fv2, fv3, fv4, fv5, .int 0])), (ea, .inl (tE, 2, .inr (.inr (.inr (.inr fE))))), (e0, .inr (4, [.int ei0, ev0_1, ev0_2, ev0_3, ev0_4, ev0_5, ev0_6, .ref ak0])), (e1, .inr (4, [.int ei1, ev1_1, ev1_2, ev1_3, ev1_4, ev1_5, ev1_6, .ref ak1])), (ak0, .inr (0, [.int am0, ae0, .int 0])), (ak1, .inr (0, [.int am1, ae1, .int 0])), (sl, .inr (0, [.int sm, se, .int 0])), (mo, .inr (13, fs))]) (hK : va_K (dC, dI) vwCl [(tE, .object RX3)] s) (hl : lv_has ls 7 [(4, .int 0), (3, .ref out), (2, .ref mo), (1, .ref h0), (0, .ref b)]) : W p l e room_1 s m #[Value.ref b] below meth c H locs 267 364933 (lw_Z below #[Value.ref b] s) (F0 m 1291 ls []) := by
  obtain ⟨hx, hb, hr, hml, hown0, hts, hX, hbl, hlocks, hgv⟩ := id C0
  have hown : s.vm.findClass RL = some m.cls := hown0
  have ht : ∀ w ∈ GT, w.before #[Value.ref b] s = true := fun w h => hts w (gt_tbl h)
  obtain ⟨A, hAd⟩ : ∃ A : Nat → Prop, A = (fun q : Nat => s.heap.size ≤ q) := ⟨_, rfl⟩
  rw [← hAd] at hE hS hD
  have hA : ∀ q : Nat, s.heap.size ≤ q → A q := fun q h => by rw [hAd]; exact h
  have hbA : ¬ A b := by rw [hAd]; exact Nat.not_le.mpr hbl
  refine lv_aload_n hx hb dL_law_1291 rfl (lv_at hl 3 rfl) ?_
  refine lv_aload_n hx hb dL_law_1292 rfl (lv_at hl 4 rfl) ?_
  refine lv_iload hx hb dL_law_1293 (lv_at hl 0 rfl) ?_
  refine lv_iconst (v := 1) hx hb dL_law_1295 (by decide) ?_
  refine lv_iadd hx hb dL_law_1296 ?_
  refine lv_topi (fun x1 ex1 => ?_)
  obtain rfl : x1 = 1 := ex1.trans (by decide)
  refine va_sld hx hb hX hbl hbA hS (vp_in_nI (n := 1) (by decide) (by decide)) dL_law_1297 ?_
  refine lv_topi (fun sy2 esy2 => ?_)
  refine lv_aload_n hx hb dL_law_1298 rfl (lv_at hl 4 rfl) ?_
  refine lv_iload hx hb dL_law_1299 (lv_at hl 0 rfl) ?_
  refine lv_iconst (v := 2) hx hb dL_law_1301 (by decide) ?_
  refine lv_iadd hx hb dL_law_1302 ?_
  refine lv_topi (fun x3 ex3 => ?_)
  obtain rfl : x3 = 2 := ex3.trans (by decide)
  refine va_sld hx hb hX hbl hbA hS (vp_in_nI (n := 2) (by decide) (by decide)) dL_law_1303 ?_
  refine lv_topi (fun sy4 esy4 => ?_)
  refine lv_aload_n hx hb dL_law_1304 rfl (lv_at hl 1 rfl) ?_
  have hPc := hP.sub (ws' := [(h0, .inr (12, [.ref fi, tca, .ref ea, .ref sl, tmx, tsv])), (fi, .inr (5, [fna, fla, fv2, fv3, fv4, fv5, .int 0])), (ea, .inl (tE, 2, .inr (.inr (.inr (.inr fE))))), (e0, .inr (4, [.int ei0, ev0_1, ev0_2, ev0_3, ev0_4, ev0_5, ev0_6, .ref ak0])), (e1, .inr (4, [.int ei1, ev1_1, ev1_2, ev1_3, ev1_4, ev1_5, ev1_6, .ref ak1])), (ak0, .inr (0, [.int am0, ae0, .int 0])), (ak1, .inr (0, [.int am1, ae1, .int 0])), (sl, .inr (0, [.int sm, se, .int 0]))]) [0, 1, 2, 3, 4, 5, 6, 7] rfl
  have hDc := hD.sub (ws' := [(h0, .inr (12, [.ref fi, tca, .ref ea, .ref sl, tmx, tsv])), (fi, .inr (5, [fna, fla, fv2, fv3, fv4, fv5, .int 0])), (ea, .inl (tE, 2, .inr (.inr (.inr (.inr fE))))), (e0, .inr (4, [.int ei0, ev0_1, ev0_2, ev0_3, ev0_4, ev0_5, ev0_6, .ref ak0])), (e1, .inr (4, [.int ei1, ev1_1, ev1_2, ev1_3, ev1_4, ev1_5, ev1_6, .ref ak1])), (ak0, .inr (0, [.int am0, ae0, .int 0])), (ak1, .inr (0, [.int am1, ae1, .int 0])), (sl, .inr (0, [.int sm, se, .int 0]))]) [0, 1, 2, 3, 4, 5, 6, 7] (by decide) rfl
  have hKc := hK.sub (tys' := [(tE, .object RX3)]) [0] rfl
  have hFc := freeNil hS hA
  refine vx_calli (vx_runSX (As := [.ref h0, .int sy2, .int sy4, .ref out]) (rest := []) ⟨hx, hb, hml, hown, ht⟩ (k_L_version l hL d0 cO dC dI H.size h0 ea sl tca tmx tsv tE fE sm se fi fna fla fv2 fv3 fv4 fv5 e0 ak0 ei0 am0 ev0_1 ev0_2 ev0_3 ev0_4 ev0_5 ev0_6 ae0 e1 ak1 ei1 am1 ev1_1 ev1_2 ev1_3 ev1_4 ev1_5 ev1_6 ae1 hf0 hf1 sy2 sy4 out) (my_SW ht M_L_version q1637 q1636 (Nat.le_of_ble_eq_true rfl) (Nat.le_of_ble_eq_true rfl)) ⟨PREp.fb, fun U hU hW => ⟨rfl, PREp.mk' hE hS hFc hPc hKc U hU hW⟩⟩ rfl rfl hl.1 rfl (lv_room (Nat.le_of_ble_eq_true rfl)) dL_law_1305 ⟨(Nat.le_of_ble_eq_true rfl), (Nat.le_of_ble_eq_true rfl)⟩) hS (fun q _ h => hFc q h) hFc (fun q _ h => hFc q h) (fun E ce q9 ux t H1 locs htt hvm hw hB hz1 hk1 hS hcell hv9 hcl9 => ?_) (fun r6 u5 t H1 locs htt hvm hw hB hz1 hk1 hS => ?_)
  · skip
    exact hB.elim
  · skip
    try dsimp only at hw hB
    have hP1 := hB
    have hP := keepAll hP hk1
    generalize H1 = H at hP hS ⊢
    have hP : va_P (dC, dI) vwCl [(h0, .inr (12, [.ref fi, tca, .ref ea, .ref sl, tmx, tsv])), (fi, .inr (5, [fna, fla, fv2, fv3, fv4, fv5, .int 0])), (ea, .inl (tE, 2, .inr (.inr (.inr (.inr fE))))), (e0, .inr (4, [.int ei0, ev0_1, ev0_2, ev0_3, ev0_4, ev0_5, ev0_6, .ref ak0])), (e1, .inr (4, [.int ei1, ev1_1, ev1_2, ev1_3, ev1_4, ev1_5, ev1_6, .ref ak1])), (ak0, .inr (0, [.int am0, ae0, .int 0])), (ak1, .inr (0, [.int am1, ae1, .int 0])), (sl, .inr (0, [.int sm, se, .int 0])), (mo, .inr (13, fs))] H := hP
    have hD : va_D A [(h0, .inr (12, [.ref fi, tca, .ref ea, .ref sl, tmx, tsv])), (fi, .inr (5, [fna, fla, fv2, fv3, fv4, fv5, .int 0])), (ea, .inl (tE, 2, .inr (.inr (.inr (.inr fE))))), (e0, .inr (4, [.int ei0, ev0_1, ev0_2, ev0_3, ev0_4, ev0_5, ev0_6, .ref ak0])), (e1, .inr (4, [.int ei1, ev1_1, ev1_2, ev1_3, ev1_4, ev1_5, ev1_6, .ref ak1])), (ak0, .inr (0, [.int am0, ae0, .int 0])), (ak1, .inr (0, [.int am1, ae1, .int 0])), (sl, .inr (0, [.int sm, se, .int 0])), (mo, .inr (13, fs))] := hD
    have hK : va_K (dC, dI) vwCl [(tE, .object RX3)] s := hK
    refine W.widen (k := 268) (n := 364939) (Nat.le_of_ble_eq_true rfl) (Nat.le_of_ble_eq_true rfl) ?_
    subst hw
    refine lv_istore (lv' := [(5, .int 1), (4, .int 0), (3, .ref out), (2, .ref mo), (1, .ref h0), (0, .ref b)]) hx hb dL_law_1308 hl (by decide) rfl (fun ls hl => ?_)
    refine lv_aload_n hx hb dL_law_1310 rfl (lv_at hl 3 rfl) ?_
    refine lv_aload_n hx hb dL_law_1311 rfl (lv_at hl 5 rfl) ?_
    refine lv_iload hx hb dL_law_1312 (lv_at hl 1 rfl) ?_
    refine lv_iconst (v := 1) hx hb dL_law_1314 (by decide) ?_
    refine lv_iadd hx hb dL_law_1315 ?_
    refine lv_topi (fun x7 ex7 => ?_)
    obtain rfl : x7 = 1 := ex7.trans (by decide)
    refine va_sld hx hb hX hbl hbA hS (vp_in_nI (n := 1) (by decide) (by decide)) dL_law_1316 ?_
    refine lv_topi (fun sy8 esy8 => ?_)
    have hyy : sy2 = sy8 := esy2.trans esy8.symm
    subst hyy
    refine lv_aload_n hx hb dL_law_1317 rfl (lv_at hl 5 rfl) ?_
    refine lv_iload hx hb dL_law_1318 (lv_at hl 1 rfl) ?_
    refine lv_iconst (v := 2) hx hb dL_law_1320 (by decide) ?_
    refine lv_iadd hx hb dL_law_1321 ?_
    refine lv_topi (fun x9 ex9 => ?_)
    obtain rfl : x9 = 2 := ex9.trans (by decide)
    refine va_sld hx hb hX hbl hbA hS (vp_in_nI (n := 2) (by decide) (by decide)) dL_law_1322 ?_
    refine lv_topi (fun sy10 esy10 => ?_)
    have hyy : sy4 = sy10 := esy4.trans esy10.symm
    subst hyy
    have hPc := hP.sub (ws' := [(mo, .inr (13, fs))]) [8] rfl
    have hDc := hD.sub (ws' := [(mo, .inr (13, fs))]) [8] (by decide) rfl
    have hKc := hK.sub (tys' := []) [] rfl
    have hFc := va_free (wc := [(mo, .inr (13, fs))]) hD hS hA [8] rfl
    refine va_calli (va_runV (As := [.int sy2, .int sy4]) (rest := []) ⟨hx, hb, hml, hown, ht⟩ (k_X12_version l d0 cO dC dI H.size mo sy2 sy4 fs hlen hf_files hf_servers) (my_V ht M_X12_version q2343 q2344 q2342 (Nat.le_of_ble_eq_true rfl) (Nat.le_of_ble_eq_true rfl)) ⟨PRE.fb, va_recv hK hP (ci := 13) (q0 := 8) rfl rfl, fun U hU hW => ⟨rfl, PRE.mk' hE hS hFc hPc hKc hDc U hU hW⟩⟩ rfl rfl hl.1 rfl (lv_room (Nat.le_of_ble_eq_true rfl)) dL_law_1323 ⟨(Nat.le_of_ble_eq_true rfl), (Nat.le_of_ble_eq_true rfl)⟩) hS (fun q _ h => hFc q h) hFc (fun r12 u11 t H1 locs htt hvm hw hB hz1 hk1 hS => ?_)
    obtain ⟨th213, rfl⟩ : ∃ z, z = u11 := ⟨_, rfl⟩
    try dsimp only at hw hB
    obtain ⟨fs214, hx_15, hP1, hK1, hD1⟩ := hB
    rw [htt] at hP1
    have hK1 := va_K.moved hvm.symm hK1
    obtain ⟨hP, hD⟩ := va_join (wr := [(h0, .inr (12, [.ref fi, tca, .ref ea, .ref sl, tmx, tsv])), (fi, .inr (5, [fna, fla, fv2, fv3, fv4, fv5, .int 0])), (ea, .inl (tE, 2, .inr (.inr (.inr (.inr fE))))), (e0, .inr (4, [.int ei0, ev0_1, ev0_2, ev0_3, ev0_4, ev0_5, ev0_6, .ref ak0])), (e1, .inr (4, [.int ei1, ev1_1, ev1_2, ev1_3, ev1_4, ev1_5, ev1_6, .ref ak1])), (ak0, .inr (0, [.int am0, ae0, .int 0])), (ak1, .inr (0, [.int am1, ae1, .int 0])), (sl, .inr (0, [.int sm, se, .int 0]))]) (w1 := [(mo, .inr (13, fs214))]) hP hD [8] [0, 1, 2, 3, 4, 5, 6, 7] rfl rfl (by decide) (by decide) hk1 hFc hP1 hD1
    have hK := (hK.sub (tys' := [(tE, .object RX3)]) [0] rfl).app hK1
    generalize H1 = H at hP hS ⊢
    have hP : va_P (dC, dI) vwCl [(h0, .inr (12, [.ref fi, tca, .ref ea, .ref sl, tmx, tsv])), (fi, .inr (5, [fna, fla, fv2, fv3, fv4, fv5, .int 0])), (ea, .inl (tE, 2, .inr (.inr (.inr (.inr fE))))), (e0, .inr (4, [.int ei0, ev0_1, ev0_2, ev0_3, ev0_4, ev0_5, ev0_6, .ref ak0])), (e1, .inr (4, [.int ei1, ev1_1, ev1_2, ev1_3, ev1_4, ev1_5, ev1_6, .ref ak1])), (ak0, .inr (0, [.int am0, ae0, .int 0])), (ak1, .inr (0, [.int am1, ae1, .int 0])), (sl, .inr (0, [.int sm, se, .int 0])), (mo, .inr (13, fs214))] H := hP
    have hD : va_D A [(h0, .inr (12, [.ref fi, tca, .ref ea, .ref sl, tmx, tsv])), (fi, .inr (5, [fna, fla, fv2, fv3, fv4, fv5, .int 0])), (ea, .inl (tE, 2, .inr (.inr (.inr (.inr fE))))), (e0, .inr (4, [.int ei0, ev0_1, ev0_2, ev0_3, ev0_4, ev0_5, ev0_6, .ref ak0])), (e1, .inr (4, [.int ei1, ev1_1, ev1_2, ev1_3, ev1_4, ev1_5, ev1_6, .ref ak1])), (ak0, .inr (0, [.int am0, ae0, .int 0])), (ak1, .inr (0, [.int am1, ae1, .int 0])), (sl, .inr (0, [.int sm, se, .int 0])), (mo, .inr (13, fs214))] := hD
    have hK : va_K (dC, dI) vwCl [(tE, .object RX3)] s := hK
    refine W.widen (k := 268) (n := 364939) (Nat.le_of_ble_eq_true rfl) (Nat.le_of_ble_eq_true rfl) ?_
    subst hw
    refine lv_istore (lv' := [(6, .int r12), (5, .int 1), (4, .int 0), (3, .ref out), (2, .ref mo), (1, .ref h0), (0, .ref b)]) hx hb dL_law_1326 hl (by decide) rfl (fun ls hl => ?_)
    refine lv_aload_n hx hb dL_law_1328 rfl (lv_at hl 4 rfl) ?_
    have hPc := hP.sub (ws' := [(mo, .inr (13, fs214))]) [8] rfl
    have hDc := hD.sub (ws' := [(mo, .inr (13, fs214))]) [8] (by decide) rfl
    have hKc := hK.sub (tys' := []) [] rfl
    have hFc := freeNil hS hA
    refine va_calli (va_runV (As := []) (rest := []) ⟨hx, hb, hml, hown, ht⟩ (k2_thrown l d0 cO dC dI H.size mo 1 fs214 hx_15) (my_V ht M_X12_thrown q1976 q1977 q1975 (Nat.le_of_ble_eq_true rfl) (Nat.le_of_ble_eq_true rfl)) ⟨PREp.fb, va_recv hK hP (ci := 13) (q0 := 8) rfl rfl, fun U hU hW => ⟨rfl, PREp.mk' hE hS hFc hPc hKc U hU hW⟩⟩ rfl rfl hl.1 rfl (lv_room (Nat.le_of_ble_eq_true rfl)) dL_law_1329 ⟨(Nat.le_of_ble_eq_true rfl), (Nat.le_of_ble_eq_true rfl)⟩) hS (fun q _ h => hFc q h) hFc (fun r17 u16 t H1 locs htt hvm hw hB hz1 hk1 hS => ?_)
    try dsimp only at hw hB
    have hP1 := hB
    have hP := keepAll hP hk1
    generalize H1 = H at hP hS ⊢
    have hP : va_P (dC, dI) vwCl [(h0, .inr (12, [.ref fi, tca, .ref ea, .ref sl, tmx, tsv])), (fi, .inr (5, [fna, fla, fv2, fv3, fv4, fv5, .int 0])), (ea, .inl (tE, 2, .inr (.inr (.inr (.inr fE))))), (e0, .inr (4, [.int ei0, ev0_1, ev0_2, ev0_3, ev0_4, ev0_5, ev0_6, .ref ak0])), (e1, .inr (4, [.int ei1, ev1_1, ev1_2, ev1_3, ev1_4, ev1_5, ev1_6, .ref ak1])), (ak0, .inr (0, [.int am0, ae0, .int 0])), (ak1, .inr (0, [.int am1, ae1, .int 0])), (sl, .inr (0, [.int sm, se, .int 0])), (mo, .inr (13, fs214))] H := hP
    have hD : va_D A [(h0, .inr (12, [.ref fi, tca, .ref ea, .ref sl, tmx, tsv])), (fi, .inr (5, [fna, fla, fv2, fv3, fv4, fv5, .int 0])), (ea, .inl (tE, 2, .inr (.inr (.inr (.inr fE))))), (e0, .inr (4, [.int ei0, ev0_1, ev0_2, ev0_3, ev0_4, ev0_5, ev0_6, .ref ak0])), (e1, .inr (4, [.int ei1, ev1_1, ev1_2, ev1_3, ev1_4, ev1_5, ev1_6, .ref ak1])), (ak0, .inr (0, [.int am0, ae0, .int 0])), (ak1, .inr (0, [.int am1, ae1, .int 0])), (sl, .inr (0, [.int sm, se, .int 0])), (mo, .inr (13, fs214))] := hD
    have hK : va_K (dC, dI) vwCl [(tE, .object RX3)] s := hK
    refine W.widen (k := 268) (n := 364939) (Nat.le_of_ble_eq_true rfl) (Nat.le_of_ble_eq_true rfl) ?_
    subst hw
    refine lv_iload hx hb dL_law_1332 (lv_at hl 1 rfl) ?_
    refine lv_icmp_eq (tgt := 1339) hx hb dL_law_1334 (by decide) (fun c18 => ?_) (fun c18 => False.elim (by revert c18; decide))
    refine lv_iload hx hb dL_law_1339 (lv_at hl 1 rfl) ?_
    refine lv_if_ne (tgt := 1356) hx hb dL_law_1341 (by decide) (fun c19 => ?_) (fun c19 => False.elim (by revert c19; decide))
    refine lv_goto (tgt := 2038) hx hb dL_law_1356 (by decide) ?_
    refine lv_iinc (v := 8) (lv' := [(4, .int 8), (6, .int r12), (5, .int 1), (3, .ref out), (2, .ref mo), (1, .ref h0), (0, .ref b)]) hx hb dL_law_2038 hl (k := 2) rfl (by decide) (by decide) rfl (fun ls hl => ?_)
    refine lv_goto (tgt := 23) hx hb dL_law_2041 (by decide) ?_
    refine lv_iload hx hb dL_law_23 (lv_at hl 0 rfl) ?_
    refine lv_aload_n hx hb dL_law_25 rfl (lv_at hl 6 rfl) ?_
    refine va_slen hx hb hX hbl hbA hS dL_law_26 ?_
    refine W.eq (g2 := F0 m 27 ls [.int 8, .int 8]) rfl ?_
    refine lv_bipush (v := 8) hx hb dL_law_27 (by decide) ?_
    refine lv_isub hx hb dL_law_29 ?_
    refine lv_topi (fun x20 ex20 => ?_)
    obtain rfl : x20 = 0 := ex20.trans (by decide)
    refine lv_icmp_gt (tgt := 2044) hx hb dL_law_30 (by decide) (fun c21 => ?_) (fun c21 => False.elim (by revert c21; decide))
    refine lv_iconst (v := 1) hx hb dL_law_2044 (by decide) ?_
    refine W.widen (k := 600002) (n := 7302232) (Nat.le_of_ble_eq_true rfl) (Nat.le_of_ble_eq_true rfl) ?_
    refine va_forget (by have h := hS.2.2; rw [hAd] at h; exact h) ?_
    exact lw_ret hx hb hr hlocks dL_law_2045
set_option maxHeartbeats 4000000 in
set_option maxRecDepth 100000 in
theorem law_unit (l : Launch) (hL : l.stackTraces = false) {p : Program} {e : Env} {s : State} {m : MethodId} {below : List Frame} {meth : Method} {c : Code} {b : Nat} {xs : Nat → Int32} {d0 : Nat} {cO : ClassId} {dC : Nat → ClassId} {dI : Nat → Nat → Nat} {H : Heap} {locs : List Loc} {ls : Array Slot} {h0 mo out : Nat} {ea sl : Nat} {tca tmx tsv : Value} {tE : ClassId} {fE : Nat → Option Nat} {sm : Int32} {se : Value} {fi : Nat} {fna fla fv2 fv3 fv4 fv5 : Value} {e0 ak0 : Nat} {ei0 am0 : Int32} {ev0_1 ev0_2 ev0_3 ev0_4 ev0_5 ev0_6 ae0 : Value} {e1 ak1 : Nat} {ei1 am1 : Int32} {ev1_1 ev1_2 ev1_3 ev1_4 ev1_5 ev1_6 ae1 : Value} {fs : List Value} (hf0 : fE 0 = some e0) (hf1 : fE 1 = some e1) (hlen : fs.length = 75) (hf_files : fs[2]? = some (.int 0)) (hf_servers : fs[15]? = some (.int 0)) (C0 : lw_At p s m meth c b 8 xs) (hE : EN d0 cO (fun q : Nat => s.heap.size ≤ q) s s.heap) (hS : va_S (fun q : Nat => s.heap.size ≤ q) s.heap H locs) (hP : va_P (dC, dI) vwCl [(h0, .inr (12, [.ref fi, tca, .ref ea, .ref sl, tmx, tsv])), (fi, .inr (5, [fna, fla, fv2, fv3, fv4, fv5, .int 0])), (ea, .inl (tE, 2, .inr (.inr (.inr (.inr fE))))), (e0, .inr (4, [.int ei0, ev0_1, ev0_2, ev0_3, ev0_4, ev0_5, ev0_6, .ref ak0])), (e1, .inr (4, [.int ei1, ev1_1, ev1_2, ev1_3, ev1_4, ev1_5, ev1_6, .ref ak1])), (ak0, .inr (0, [.int am0, ae0, .int 0])), (ak1, .inr (0, [.int am1, ae1, .int 0])), (sl, .inr (0, [.int sm, se, .int 0])), (mo, .inr (13, fs))] H) (hD : va_D (fun q : Nat => s.heap.size ≤ q) [(h0, .inr (12, [.ref fi, tca, .ref ea, .ref sl, tmx, tsv])), (fi, .inr (5, [fna, fla, fv2, fv3, fv4, fv5, .int 0])), (ea, .inl (tE, 2, .inr (.inr (.inr (.inr fE))))), (e0, .inr (4, [.int ei0, ev0_1, ev0_2, ev0_3, ev0_4, ev0_5, ev0_6, .ref ak0])), (e1, .inr (4, [.int ei1, ev1_1, ev1_2, ev1_3, ev1_4, ev1_5, ev1_6, .ref ak1])), (ak0, .inr (0, [.int am0, ae0, .int 0])), (ak1, .inr (0, [.int am1, ae1, .int 0])), (sl, .inr (0, [.int sm, se, .int 0])), (mo, .inr (13, fs))]) (hK : va_K (dC, dI) vwCl [(tE, .object RX3)] s) (hl : lv_has ls 7 [(4, .int 0), (3, .ref out), (2, .ref mo), (1, .ref h0), (0, .ref b)]) : W p l e room_1 s m #[Value.ref b] below meth c H locs 267 364933 (lw_Z below #[Value.ref b] s) (F0 m 1359 ls []) := by
  obtain ⟨hx, hb, hr, hml, hown0, hts, hX, hbl, hlocks, hgv⟩ := id C0
  have hown : s.vm.findClass RL = some m.cls := hown0
  have ht : ∀ w ∈ GT, w.before #[Value.ref b] s = true := fun w h => hts w (gt_tbl h)
  obtain ⟨A, hAd⟩ : ∃ A : Nat → Prop, A = (fun q : Nat => s.heap.size ≤ q) := ⟨_, rfl⟩
  rw [← hAd] at hE hS hD
  have hA : ∀ q : Nat, s.heap.size ≤ q → A q := fun q h => by rw [hAd]; exact h
  have hbA : ¬ A b := by rw [hAd]; exact Nat.not_le.mpr hbl
  refine lv_aload_n hx hb dL_law_1359 rfl (lv_at hl 3 rfl) ?_
  refine lv_aload_n hx hb dL_law_1360 rfl (lv_at hl 4 rfl) ?_
  refine lv_iload hx hb dL_law_1361 (lv_at hl 0 rfl) ?_
  refine lv_iconst (v := 1) hx hb dL_law_1363 (by decide) ?_
  refine lv_iadd hx hb dL_law_1364 ?_
  refine lv_topi (fun x1 ex1 => ?_)
  obtain rfl : x1 = 1 := ex1.trans (by decide)
  refine va_sld hx hb hX hbl hbA hS (vp_in_nI (n := 1) (by decide) (by decide)) dL_law_1365 ?_
  refine lv_topi (fun sy2 esy2 => ?_)
  refine lv_aload_n hx hb dL_law_1366 rfl (lv_at hl 4 rfl) ?_
  refine lv_iload hx hb dL_law_1367 (lv_at hl 0 rfl) ?_
  refine lv_iconst (v := 2) hx hb dL_law_1369 (by decide) ?_
  refine lv_iadd hx hb dL_law_1370 ?_
  refine lv_topi (fun x3 ex3 => ?_)
  obtain rfl : x3 = 2 := ex3.trans (by decide)
  refine va_sld hx hb hX hbl hbA hS (vp_in_nI (n := 2) (by decide) (by decide)) dL_law_1371 ?_
  refine lv_topi (fun sy4 esy4 => ?_)
  refine lv_aload_n hx hb dL_law_1372 rfl (lv_at hl 4 rfl) ?_
  refine lv_iload hx hb dL_law_1373 (lv_at hl 0 rfl) ?_
  refine lv_iconst (v := 3) hx hb dL_law_1375 (by decide) ?_
  refine lv_iadd hx hb dL_law_1376 ?_
  refine lv_topi (fun x5 ex5 => ?_)
  obtain rfl : x5 = 3 := ex5.trans (by decide)
  refine va_sld hx hb hX hbl hbA hS (vp_in_nI (n := 3) (by decide) (by decide)) dL_law_1377 ?_
  refine lv_topi (fun sy6 esy6 => ?_)
  refine lv_aload_n hx hb dL_law_1378 rfl (lv_at hl 1 rfl) ?_
  have hPc := hP.sub (ws' := [(h0, .inr (12, [.ref fi, tca, .ref ea, .ref sl, tmx, tsv])), (fi, .inr (5, [fna, fla, fv2, fv3, fv4, fv5, .int 0])), (ea, .inl (tE, 2, .inr (.inr (.inr (.inr fE))))), (e0, .inr (4, [.int ei0, ev0_1, ev0_2, ev0_3, ev0_4, ev0_5, ev0_6, .ref ak0])), (e1, .inr (4, [.int ei1, ev1_1, ev1_2, ev1_3, ev1_4, ev1_5, ev1_6, .ref ak1])), (ak0, .inr (0, [.int am0, ae0, .int 0])), (ak1, .inr (0, [.int am1, ae1, .int 0])), (sl, .inr (0, [.int sm, se, .int 0]))]) [0, 1, 2, 3, 4, 5, 6, 7] rfl
  have hDc := hD.sub (ws' := [(h0, .inr (12, [.ref fi, tca, .ref ea, .ref sl, tmx, tsv])), (fi, .inr (5, [fna, fla, fv2, fv3, fv4, fv5, .int 0])), (ea, .inl (tE, 2, .inr (.inr (.inr (.inr fE))))), (e0, .inr (4, [.int ei0, ev0_1, ev0_2, ev0_3, ev0_4, ev0_5, ev0_6, .ref ak0])), (e1, .inr (4, [.int ei1, ev1_1, ev1_2, ev1_3, ev1_4, ev1_5, ev1_6, .ref ak1])), (ak0, .inr (0, [.int am0, ae0, .int 0])), (ak1, .inr (0, [.int am1, ae1, .int 0])), (sl, .inr (0, [.int sm, se, .int 0]))]) [0, 1, 2, 3, 4, 5, 6, 7] (by decide) rfl
  have hKc := hK.sub (tys' := [(tE, .object RX3)]) [0] rfl
  have hFc := freeNil hS hA
  refine vx_calli (vx_runSX (As := [.ref h0, .int sy2, .int sy4, .int sy6, .ref out]) (rest := []) ⟨hx, hb, hml, hown, ht⟩ (k_L_unit l hL d0 cO dC dI H.size h0 ea sl tca tmx tsv tE fE sm se fi fna fla fv2 fv3 fv4 fv5 e0 ak0 ei0 am0 ev0_1 ev0_2 ev0_3 ev0_4 ev0_5 ev0_6 ae0 e1 ak1 ei1 am1 ev1_1 ev1_2 ev1_3 ev1_4 ev1_5 ev1_6 ae1 hf0 hf1 sy2 sy4 sy6 out) (my_SW ht M_L_unit q1649 q1648 (Nat.le_of_ble_eq_true rfl) (Nat.le_of_ble_eq_true rfl)) ⟨PREp.fb, fun U hU hW => ⟨rfl, PREp.mk' hE hS hFc hPc hKc U hU hW⟩⟩ rfl rfl hl.1 rfl (lv_room (Nat.le_of_ble_eq_true rfl)) dL_law_1379 ⟨(Nat.le_of_ble_eq_true rfl), (Nat.le_of_ble_eq_true rfl)⟩) hS (fun q _ h => hFc q h) hFc (fun q _ h => hFc q h) (fun E ce q9 ux t H1 locs htt hvm hw hB hz1 hk1 hS hcell hv9 hcl9 => ?_) (fun r8 u7 t H1 locs htt hvm hw hB hz1 hk1 hS => ?_)
  · skip
    exact hB.elim
  · skip
    try dsimp only at hw hB
    have hP1 := hB
    have hP := keepAll hP hk1
    generalize H1 = H at hP hS ⊢
    have hP : va_P (dC, dI) vwCl [(h0, .inr (12, [.ref fi, tca, .ref ea, .ref sl, tmx, tsv])), (fi, .inr (5, [fna, fla, fv2, fv3, fv4, fv5, .int 0])), (ea, .inl (tE, 2, .inr (.inr (.inr (.inr fE))))), (e0, .inr (4, [.int ei0, ev0_1, ev0_2, ev0_3, ev0_4, ev0_5, ev0_6, .ref ak0])), (e1, .inr (4, [.int ei1, ev1_1, ev1_2, ev1_3, ev1_4, ev1_5, ev1_6, .ref ak1])), (ak0, .inr (0, [.int am0, ae0, .int 0])), (ak1, .inr (0, [.int am1, ae1, .int 0])), (sl, .inr (0, [.int sm, se, .int 0])), (mo, .inr (13, fs))] H := hP
    have hD : va_D A [(h0, .inr (12, [.ref fi, tca, .ref ea, .ref sl, tmx, tsv])), (fi, .inr (5, [fna, fla, fv2, fv3, fv4, fv5, .int 0])), (ea, .inl (tE, 2, .inr (.inr (.inr (.inr fE))))), (e0, .inr (4, [.int ei0, ev0_1, ev0_2, ev0_3, ev0_4, ev0_5, ev0_6, .ref ak0])), (e1, .inr (4, [.int ei1, ev1_1, ev1_2, ev1_3, ev1_4, ev1_5, ev1_6, .ref ak1])), (ak0, .inr (0, [.int am0, ae0, .int 0])), (ak1, .inr (0, [.int am1, ae1, .int 0])), (sl, .inr (0, [.int sm, se, .int 0])), (mo, .inr (13, fs))] := hD
    have hK : va_K (dC, dI) vwCl [(tE, .object RX3)] s := hK
    refine W.widen (k := 268) (n := 364939) (Nat.le_of_ble_eq_true rfl) (Nat.le_of_ble_eq_true rfl) ?_
    subst hw
    refine lv_istore (lv' := [(5, .int 1), (4, .int 0), (3, .ref out), (2, .ref mo), (1, .ref h0), (0, .ref b)]) hx hb dL_law_1382 hl (by decide) rfl (fun ls hl => ?_)
    refine lv_aload_n hx hb dL_law_1384 rfl (lv_at hl 3 rfl) ?_
    refine lv_aload_n hx hb dL_law_1385 rfl (lv_at hl 5 rfl) ?_
    refine lv_iload hx hb dL_law_1386 (lv_at hl 1 rfl) ?_
    refine lv_iconst (v := 1) hx hb dL_law_1388 (by decide) ?_
    refine lv_iadd hx hb dL_law_1389 ?_
    refine lv_topi (fun x9 ex9 => ?_)
    obtain rfl : x9 = 1 := ex9.trans (by decide)
    refine va_sld hx hb hX hbl hbA hS (vp_in_nI (n := 1) (by decide) (by decide)) dL_law_1390 ?_
    refine lv_topi (fun sy10 esy10 => ?_)
    have hyy : sy2 = sy10 := esy2.trans esy10.symm
    subst hyy
    refine lv_aload_n hx hb dL_law_1391 rfl (lv_at hl 5 rfl) ?_
    refine lv_iload hx hb dL_law_1392 (lv_at hl 1 rfl) ?_
    refine lv_iconst (v := 2) hx hb dL_law_1394 (by decide) ?_
    refine lv_iadd hx hb dL_law_1395 ?_
    refine lv_topi (fun x11 ex11 => ?_)
    obtain rfl : x11 = 2 := ex11.trans (by decide)
    refine va_sld hx hb hX hbl hbA hS (vp_in_nI (n := 2) (by decide) (by decide)) dL_law_1396 ?_
    refine lv_topi (fun sy12 esy12 => ?_)
    have hyy : sy4 = sy12 := esy4.trans esy12.symm
    subst hyy
    refine lv_aload_n hx hb dL_law_1397 rfl (lv_at hl 5 rfl) ?_
    refine lv_iload hx hb dL_law_1398 (lv_at hl 1 rfl) ?_
    refine lv_iconst (v := 3) hx hb dL_law_1400 (by decide) ?_
    refine lv_iadd hx hb dL_law_1401 ?_
    refine lv_topi (fun x13 ex13 => ?_)
    obtain rfl : x13 = 3 := ex13.trans (by decide)
    refine va_sld hx hb hX hbl hbA hS (vp_in_nI (n := 3) (by decide) (by decide)) dL_law_1402 ?_
    refine lv_topi (fun sy14 esy14 => ?_)
    have hyy : sy6 = sy14 := esy6.trans esy14.symm
    subst hyy
    have hPc := hP.sub (ws' := [(mo, .inr (13, fs))]) [8] rfl
    have hDc := hD.sub (ws' := [(mo, .inr (13, fs))]) [8] (by decide) rfl
    have hKc := hK.sub (tys' := []) [] rfl
    have hFc := va_free (wc := [(mo, .inr (13, fs))]) hD hS hA [8] rfl
    refine va_calli (va_runV (As := [.int sy2, .int sy4, .int sy6]) (rest := []) ⟨hx, hb, hml, hown, ht⟩ (k_X12_unit l d0 cO dC dI H.size mo sy2 sy4 sy6 fs hlen hf_files hf_servers) (my_V ht M_X12_unit q2355 q2356 q2354 (Nat.le_of_ble_eq_true rfl) (Nat.le_of_ble_eq_true rfl)) ⟨PRE.fb, va_recv hK hP (ci := 13) (q0 := 8) rfl rfl, fun U hU hW => ⟨rfl, PRE.mk' hE hS hFc hPc hKc hDc U hU hW⟩⟩ rfl rfl hl.1 rfl (lv_room (Nat.le_of_ble_eq_true rfl)) dL_law_1403 ⟨(Nat.le_of_ble_eq_true rfl), (Nat.le_of_ble_eq_true rfl)⟩) hS (fun q _ h => hFc q h) hFc (fun r16 u15 t H1 locs htt hvm hw hB hz1 hk1 hS => ?_)
    obtain ⟨th217, rfl⟩ : ∃ z, z = u15 := ⟨_, rfl⟩
    try dsimp only at hw hB
    obtain ⟨fs218, hx_19, hP1, hK1, hD1⟩ := hB
    rw [htt] at hP1
    have hK1 := va_K.moved hvm.symm hK1
    obtain ⟨hP, hD⟩ := va_join (wr := [(h0, .inr (12, [.ref fi, tca, .ref ea, .ref sl, tmx, tsv])), (fi, .inr (5, [fna, fla, fv2, fv3, fv4, fv5, .int 0])), (ea, .inl (tE, 2, .inr (.inr (.inr (.inr fE))))), (e0, .inr (4, [.int ei0, ev0_1, ev0_2, ev0_3, ev0_4, ev0_5, ev0_6, .ref ak0])), (e1, .inr (4, [.int ei1, ev1_1, ev1_2, ev1_3, ev1_4, ev1_5, ev1_6, .ref ak1])), (ak0, .inr (0, [.int am0, ae0, .int 0])), (ak1, .inr (0, [.int am1, ae1, .int 0])), (sl, .inr (0, [.int sm, se, .int 0]))]) (w1 := [(mo, .inr (13, fs218))]) hP hD [8] [0, 1, 2, 3, 4, 5, 6, 7] rfl rfl (by decide) (by decide) hk1 hFc hP1 hD1
    have hK := (hK.sub (tys' := [(tE, .object RX3)]) [0] rfl).app hK1
    generalize H1 = H at hP hS ⊢
    have hP : va_P (dC, dI) vwCl [(h0, .inr (12, [.ref fi, tca, .ref ea, .ref sl, tmx, tsv])), (fi, .inr (5, [fna, fla, fv2, fv3, fv4, fv5, .int 0])), (ea, .inl (tE, 2, .inr (.inr (.inr (.inr fE))))), (e0, .inr (4, [.int ei0, ev0_1, ev0_2, ev0_3, ev0_4, ev0_5, ev0_6, .ref ak0])), (e1, .inr (4, [.int ei1, ev1_1, ev1_2, ev1_3, ev1_4, ev1_5, ev1_6, .ref ak1])), (ak0, .inr (0, [.int am0, ae0, .int 0])), (ak1, .inr (0, [.int am1, ae1, .int 0])), (sl, .inr (0, [.int sm, se, .int 0])), (mo, .inr (13, fs218))] H := hP
    have hD : va_D A [(h0, .inr (12, [.ref fi, tca, .ref ea, .ref sl, tmx, tsv])), (fi, .inr (5, [fna, fla, fv2, fv3, fv4, fv5, .int 0])), (ea, .inl (tE, 2, .inr (.inr (.inr (.inr fE))))), (e0, .inr (4, [.int ei0, ev0_1, ev0_2, ev0_3, ev0_4, ev0_5, ev0_6, .ref ak0])), (e1, .inr (4, [.int ei1, ev1_1, ev1_2, ev1_3, ev1_4, ev1_5, ev1_6, .ref ak1])), (ak0, .inr (0, [.int am0, ae0, .int 0])), (ak1, .inr (0, [.int am1, ae1, .int 0])), (sl, .inr (0, [.int sm, se, .int 0])), (mo, .inr (13, fs218))] := hD
    have hK : va_K (dC, dI) vwCl [(tE, .object RX3)] s := hK
    refine W.widen (k := 268) (n := 364939) (Nat.le_of_ble_eq_true rfl) (Nat.le_of_ble_eq_true rfl) ?_
    subst hw
    refine lv_istore (lv' := [(6, .int r16), (5, .int 1), (4, .int 0), (3, .ref out), (2, .ref mo), (1, .ref h0), (0, .ref b)]) hx hb dL_law_1406 hl (by decide) rfl (fun ls hl => ?_)
    refine lv_aload_n hx hb dL_law_1408 rfl (lv_at hl 4 rfl) ?_
    have hPc := hP.sub (ws' := [(mo, .inr (13, fs218))]) [8] rfl
    have hDc := hD.sub (ws' := [(mo, .inr (13, fs218))]) [8] (by decide) rfl
    have hKc := hK.sub (tys' := []) [] rfl
    have hFc := freeNil hS hA
    refine va_calli (va_runV (As := []) (rest := []) ⟨hx, hb, hml, hown, ht⟩ (k2_thrown l d0 cO dC dI H.size mo 1 fs218 hx_19) (my_V ht M_X12_thrown q1976 q1977 q1975 (Nat.le_of_ble_eq_true rfl) (Nat.le_of_ble_eq_true rfl)) ⟨PREp.fb, va_recv hK hP (ci := 13) (q0 := 8) rfl rfl, fun U hU hW => ⟨rfl, PREp.mk' hE hS hFc hPc hKc U hU hW⟩⟩ rfl rfl hl.1 rfl (lv_room (Nat.le_of_ble_eq_true rfl)) dL_law_1409 ⟨(Nat.le_of_ble_eq_true rfl), (Nat.le_of_ble_eq_true rfl)⟩) hS (fun q _ h => hFc q h) hFc (fun r21 u20 t H1 locs htt hvm hw hB hz1 hk1 hS => ?_)
    try dsimp only at hw hB
    have hP1 := hB
    have hP := keepAll hP hk1
    generalize H1 = H at hP hS ⊢
    have hP : va_P (dC, dI) vwCl [(h0, .inr (12, [.ref fi, tca, .ref ea, .ref sl, tmx, tsv])), (fi, .inr (5, [fna, fla, fv2, fv3, fv4, fv5, .int 0])), (ea, .inl (tE, 2, .inr (.inr (.inr (.inr fE))))), (e0, .inr (4, [.int ei0, ev0_1, ev0_2, ev0_3, ev0_4, ev0_5, ev0_6, .ref ak0])), (e1, .inr (4, [.int ei1, ev1_1, ev1_2, ev1_3, ev1_4, ev1_5, ev1_6, .ref ak1])), (ak0, .inr (0, [.int am0, ae0, .int 0])), (ak1, .inr (0, [.int am1, ae1, .int 0])), (sl, .inr (0, [.int sm, se, .int 0])), (mo, .inr (13, fs218))] H := hP
    have hD : va_D A [(h0, .inr (12, [.ref fi, tca, .ref ea, .ref sl, tmx, tsv])), (fi, .inr (5, [fna, fla, fv2, fv3, fv4, fv5, .int 0])), (ea, .inl (tE, 2, .inr (.inr (.inr (.inr fE))))), (e0, .inr (4, [.int ei0, ev0_1, ev0_2, ev0_3, ev0_4, ev0_5, ev0_6, .ref ak0])), (e1, .inr (4, [.int ei1, ev1_1, ev1_2, ev1_3, ev1_4, ev1_5, ev1_6, .ref ak1])), (ak0, .inr (0, [.int am0, ae0, .int 0])), (ak1, .inr (0, [.int am1, ae1, .int 0])), (sl, .inr (0, [.int sm, se, .int 0])), (mo, .inr (13, fs218))] := hD
    have hK : va_K (dC, dI) vwCl [(tE, .object RX3)] s := hK
    refine W.widen (k := 268) (n := 364939) (Nat.le_of_ble_eq_true rfl) (Nat.le_of_ble_eq_true rfl) ?_
    subst hw
    refine lv_iload hx hb dL_law_1412 (lv_at hl 1 rfl) ?_
    refine lv_icmp_eq (tgt := 1419) hx hb dL_law_1414 (by decide) (fun c22 => ?_) (fun c22 => False.elim (by revert c22; decide))
    refine lv_iload hx hb dL_law_1419 (lv_at hl 1 rfl) ?_
    refine lv_if_ne (tgt := 1436) hx hb dL_law_1421 (by decide) (fun c23 => ?_) (fun c23 => False.elim (by revert c23; decide))
    refine lv_goto (tgt := 2038) hx hb dL_law_1436 (by decide) ?_
    refine lv_iinc (v := 8) (lv' := [(4, .int 8), (6, .int r16), (5, .int 1), (3, .ref out), (2, .ref mo), (1, .ref h0), (0, .ref b)]) hx hb dL_law_2038 hl (k := 2) rfl (by decide) (by decide) rfl (fun ls hl => ?_)
    refine lv_goto (tgt := 23) hx hb dL_law_2041 (by decide) ?_
    refine lv_iload hx hb dL_law_23 (lv_at hl 0 rfl) ?_
    refine lv_aload_n hx hb dL_law_25 rfl (lv_at hl 6 rfl) ?_
    refine va_slen hx hb hX hbl hbA hS dL_law_26 ?_
    refine W.eq (g2 := F0 m 27 ls [.int 8, .int 8]) rfl ?_
    refine lv_bipush (v := 8) hx hb dL_law_27 (by decide) ?_
    refine lv_isub hx hb dL_law_29 ?_
    refine lv_topi (fun x24 ex24 => ?_)
    obtain rfl : x24 = 0 := ex24.trans (by decide)
    refine lv_icmp_gt (tgt := 2044) hx hb dL_law_30 (by decide) (fun c25 => ?_) (fun c25 => False.elim (by revert c25; decide))
    refine lv_iconst (v := 1) hx hb dL_law_2044 (by decide) ?_
    refine W.widen (k := 600002) (n := 7302232) (Nat.le_of_ble_eq_true rfl) (Nat.le_of_ble_eq_true rfl) ?_
    refine va_forget (by have h := hS.2.2; rw [hAd] at h; exact h) ?_
    exact lw_ret hx hb hr hlocks dL_law_2045
set_option maxHeartbeats 4000000 in
set_option maxRecDepth 100000 in
theorem law_cancel (l : Launch) (hL : l.stackTraces = false) {p : Program} {e : Env} {s : State} {m : MethodId} {below : List Frame} {meth : Method} {c : Code} {b : Nat} {xs : Nat → Int32} {d0 : Nat} {cO : ClassId} {dC : Nat → ClassId} {dI : Nat → Nat → Nat} {H : Heap} {locs : List Loc} {ls : Array Slot} {h0 mo out : Nat} {ea sl : Nat} {tca tmx tsv : Value} {tE : ClassId} {fE : Nat → Option Nat} {sm : Int32} {se : Value} {fi : Nat} {fna fla fv2 fv3 fv4 fv5 : Value} {e0 ak0 : Nat} {ei0 am0 : Int32} {ev0_1 ev0_2 ev0_3 ev0_4 ev0_5 ev0_6 ae0 : Value} {e1 ak1 : Nat} {ei1 am1 : Int32} {ev1_1 ev1_2 ev1_3 ev1_4 ev1_5 ev1_6 ae1 : Value} {fs : List Value} {ra : Nat} {tA : ClassId} (hf0 : fE 0 = some e0) (hf1 : fE 1 = some e1) (hlen : fs.length = 75) (hf_asked : fs[27]? = some (.ref ra)) (C0 : lw_At p s m meth c b 8 xs) (hE : EN d0 cO (fun q : Nat => s.heap.size ≤ q) s s.heap) (hS : va_S (fun q : Nat => s.heap.size ≤ q) s.heap H locs) (hP : va_P (dC, dI) vwCl [(h0, .inr (12, [.ref fi, tca, .ref ea, .ref sl, tmx, tsv])), (fi, .inr (5, [fna, fla, fv2, fv3, fv4, fv5, .int 0])), (ea, .inl (tE, 2, .inr (.inr (.inr (.inr fE))))), (e0, .inr (4, [.int ei0, ev0_1, ev0_2, ev0_3, ev0_4, ev0_5, ev0_6, .ref ak0])), (e1, .inr (4, [.int ei1, ev1_1, ev1_2, ev1_3, ev1_4, ev1_5, ev1_6, .ref ak1])), (ak0, .inr (0, [.int am0, ae0, .int 0])), (ak1, .inr (0, [.int am1, ae1, .int 0])), (sl, .inr (0, [.int sm, se, .int 0])), (mo, .inr (13, fs)), (ra, .inl (tA, 2, .inl ((fun _ => 0))))] H) (hD : va_D (fun q : Nat => s.heap.size ≤ q) [(h0, .inr (12, [.ref fi, tca, .ref ea, .ref sl, tmx, tsv])), (fi, .inr (5, [fna, fla, fv2, fv3, fv4, fv5, .int 0])), (ea, .inl (tE, 2, .inr (.inr (.inr (.inr fE))))), (e0, .inr (4, [.int ei0, ev0_1, ev0_2, ev0_3, ev0_4, ev0_5, ev0_6, .ref ak0])), (e1, .inr (4, [.int ei1, ev1_1, ev1_2, ev1_3, ev1_4, ev1_5, ev1_6, .ref ak1])), (ak0, .inr (0, [.int am0, ae0, .int 0])), (ak1, .inr (0, [.int am1, ae1, .int 0])), (sl, .inr (0, [.int sm, se, .int 0])), (mo, .inr (13, fs)), (ra, .inl (tA, 2, .inl ((fun _ => 0))))]) (hK : va_K (dC, dI) vwCl [(tE, .object RX3), (tA, .int)] s) (hl : lv_has ls 7 [(4, .int 0), (3, .ref out), (2, .ref mo), (1, .ref h0), (0, .ref b)]) : W p l e room_1 s m #[Value.ref b] below meth c H locs 267 364933 (lw_Z below #[Value.ref b] s) (F0 m 802 ls []) := by
  obtain ⟨hx, hb, hr, hml, hown0, hts, hX, hbl, hlocks, hgv⟩ := id C0
  have hown : s.vm.findClass RL = some m.cls := hown0
  have ht : ∀ w ∈ GT, w.before #[Value.ref b] s = true := fun w h => hts w (gt_tbl h)
  obtain ⟨A, hAd⟩ : ∃ A : Nat → Prop, A = (fun q : Nat => s.heap.size ≤ q) := ⟨_, rfl⟩
  rw [← hAd] at hE hS hD
  have hA : ∀ q : Nat, s.heap.size ≤ q → A q := fun q h => by rw [hAd]; exact h
  have hbA : ¬ A b := by rw [hAd]; exact Nat.not_le.mpr hbl
  refine lv_aload_n hx hb dL_law_802 rfl (lv_at hl 3 rfl) ?_
  refine lv_aload_n hx hb dL_law_803 rfl (lv_at hl 4 rfl) ?_
  refine lv_iload hx hb dL_law_804 (lv_at hl 0 rfl) ?_
  refine lv_iconst (v := 1) hx hb dL_law_806 (by decide) ?_
  refine lv_iadd hx hb dL_law_807 ?_
  refine lv_topi (fun x1 ex1 => ?_)
  obtain rfl : x1 = 1 := ex1.trans (by decide)
  refine va_sld hx hb hX hbl hbA hS (vp_in_nI (n := 1) (by decide) (by decide)) dL_law_808 ?_
  refine lv_topi (fun sy2 esy2 => ?_)
  refine lv_aload_n hx hb dL_law_809 rfl (lv_at hl 4 rfl) ?_
  refine lv_iload hx hb dL_law_810 (lv_at hl 0 rfl) ?_
  refine lv_iconst (v := 2) hx hb dL_law_812 (by decide) ?_
  refine lv_iadd hx hb dL_law_813 ?_
  refine lv_topi (fun x3 ex3 => ?_)
  obtain rfl : x3 = 2 := ex3.trans (by decide)
  refine va_sld hx hb hX hbl hbA hS (vp_in_nI (n := 2) (by decide) (by decide)) dL_law_814 ?_
  refine lv_topi (fun sy4 esy4 => ?_)
  have hPc := hP.sub (ws' := [(h0, .inr (12, [.ref fi, tca, .ref ea, .ref sl, tmx, tsv])), (fi, .inr (5, [fna, fla, fv2, fv3, fv4, fv5, .int 0])), (ea, .inl (tE, 2, .inr (.inr (.inr (.inr fE))))), (e0, .inr (4, [.int ei0, ev0_1, ev0_2, ev0_3, ev0_4, ev0_5, ev0_6, .ref ak0])), (e1, .inr (4, [.int ei1, ev1_1, ev1_2, ev1_3, ev1_4, ev1_5, ev1_6, .ref ak1])), (ak0, .inr (0, [.int am0, ae0, .int 0])), (ak1, .inr (0, [.int am1, ae1, .int 0])), (sl, .inr (0, [.int sm, se, .int 0]))]) [0, 1, 2, 3, 4, 5, 6, 7] rfl
  have hDc := hD.sub (ws' := [(h0, .inr (12, [.ref fi, tca, .ref ea, .ref sl, tmx, tsv])), (fi, .inr (5, [fna, fla, fv2, fv3, fv4, fv5, .int 0])), (ea, .inl (tE, 2, .inr (.inr (.inr (.inr fE))))), (e0, .inr (4, [.int ei0, ev0_1, ev0_2, ev0_3, ev0_4, ev0_5, ev0_6, .ref ak0])), (e1, .inr (4, [.int ei1, ev1_1, ev1_2, ev1_3, ev1_4, ev1_5, ev1_6, .ref ak1])), (ak0, .inr (0, [.int am0, ae0, .int 0])), (ak1, .inr (0, [.int am1, ae1, .int 0])), (sl, .inr (0, [.int sm, se, .int 0]))]) [0, 1, 2, 3, 4, 5, 6, 7] (by decide) rfl
  have hKc := hK.sub (tys' := [(tE, .object RX3)]) [0] rfl
  have hFc := freeNil hS hA
  refine vx_calli (vx_runSX (As := [.ref h0, .int sy2, .int sy4]) (rest := []) ⟨hx, hb, hml, hown, ht⟩ (k_L_cancel l hL d0 cO dC dI H.size h0 ea sl tca tmx tsv tE fE sm se fi fna fla fv2 fv3 fv4 fv5 e0 ak0 ei0 am0 ev0_1 ev0_2 ev0_3 ev0_4 ev0_5 ev0_6 ae0 e1 ak1 ei1 am1 ev1_1 ev1_2 ev1_3 ev1_4 ev1_5 ev1_6 ae1 hf0 hf1 sy2 sy4) (my_SW ht M_L_cancel q1395 q1394 (Nat.le_of_ble_eq_true rfl) (Nat.le_of_ble_eq_true rfl)) ⟨PREp.fb, fun U hU hW => ⟨rfl, PREp.mk' hE hS hFc hPc hKc U hU hW⟩⟩ rfl rfl hl.1 rfl (lv_room (Nat.le_of_ble_eq_true rfl)) dL_law_815 ⟨(Nat.le_of_ble_eq_true rfl), (Nat.le_of_ble_eq_true rfl)⟩) hS (fun q _ h => hFc q h) hFc (fun q _ h => hFc q h) (fun E ce q9 ux t H1 locs htt hvm hw hB hz1 hk1 hS hcell hv9 hcl9 => ?_) (fun r6 u5 t H1 locs htt hvm hw hB hz1 hk1 hS => ?_)
  · skip
    exact hB.elim
  · skip
    try dsimp only at hw hB
    have hP1 := hB
    have hP := keepAll hP hk1
    generalize H1 = H at hP hS ⊢
    have hP : va_P (dC, dI) vwCl [(h0, .inr (12, [.ref fi, tca, .ref ea, .ref sl, tmx, tsv])), (fi, .inr (5, [fna, fla, fv2, fv3, fv4, fv5, .int 0])), (ea, .inl (tE, 2, .inr (.inr (.inr (.inr fE))))), (e0, .inr (4, [.int ei0, ev0_1, ev0_2, ev0_3, ev0_4, ev0_5, ev0_6, .ref ak0])), (e1, .inr (4, [.int ei1, ev1_1, ev1_2, ev1_3, ev1_4, ev1_5, ev1_6, .ref ak1])), (ak0, .inr (0, [.int am0, ae0, .int 0])), (ak1, .inr (0, [.int am1, ae1, .int 0])), (sl, .inr (0, [.int sm, se, .int 0])), (mo, .inr (13, fs)), (ra, .inl (tA, 2, .inl ((fun _ => 0))))] H := hP
    have hD : va_D A [(h0, .inr (12, [.ref fi, tca, .ref ea, .ref sl, tmx, tsv])), (fi, .inr (5, [fna, fla, fv2, fv3, fv4, fv5, .int 0])), (ea, .inl (tE, 2, .inr (.inr (.inr (.inr fE))))), (e0, .inr (4, [.int ei0, ev0_1, ev0_2, ev0_3, ev0_4, ev0_5, ev0_6, .ref ak0])), (e1, .inr (4, [.int ei1, ev1_1, ev1_2, ev1_3, ev1_4, ev1_5, ev1_6, .ref ak1])), (ak0, .inr (0, [.int am0, ae0, .int 0])), (ak1, .inr (0, [.int am1, ae1, .int 0])), (sl, .inr (0, [.int sm, se, .int 0])), (mo, .inr (13, fs)), (ra, .inl (tA, 2, .inl ((fun _ => 0))))] := hD
    have hK : va_K (dC, dI) vwCl [(tE, .object RX3), (tA, .int)] s := hK
    refine W.widen (k := 269) (n := 364945) (Nat.le_of_ble_eq_true rfl) (Nat.le_of_ble_eq_true rfl) ?_
    subst hw
    refine lv_istore (lv' := [(5, .int 1), (4, .int 0), (3, .ref out), (2, .ref mo), (1, .ref h0), (0, .ref b)]) hx hb dL_law_818 hl (by decide) rfl (fun ls hl => ?_)
    refine lv_aload_n hx hb dL_law_820 rfl (lv_at hl 3 rfl) ?_
    refine lv_aload_n hx hb dL_law_821 rfl (lv_at hl 5 rfl) ?_
    refine lv_iload hx hb dL_law_822 (lv_at hl 1 rfl) ?_
    refine lv_iconst (v := 1) hx hb dL_law_824 (by decide) ?_
    refine lv_iadd hx hb dL_law_825 ?_
    refine lv_topi (fun x7 ex7 => ?_)
    obtain rfl : x7 = 1 := ex7.trans (by decide)
    refine va_sld hx hb hX hbl hbA hS (vp_in_nI (n := 1) (by decide) (by decide)) dL_law_826 ?_
    refine lv_topi (fun sy8 esy8 => ?_)
    have hyy : sy2 = sy8 := esy2.trans esy8.symm
    subst hyy
    refine lv_aload_n hx hb dL_law_827 rfl (lv_at hl 5 rfl) ?_
    refine lv_iload hx hb dL_law_828 (lv_at hl 1 rfl) ?_
    refine lv_iconst (v := 2) hx hb dL_law_830 (by decide) ?_
    refine lv_iadd hx hb dL_law_831 ?_
    refine lv_topi (fun x9 ex9 => ?_)
    obtain rfl : x9 = 2 := ex9.trans (by decide)
    refine va_sld hx hb hX hbl hbA hS (vp_in_nI (n := 2) (by decide) (by decide)) dL_law_832 ?_
    refine lv_topi (fun sy10 esy10 => ?_)
    have hyy : sy4 = sy10 := esy4.trans esy10.symm
    subst hyy
    have hPc := hP.sub (ws' := [(mo, .inr (13, fs)), (ra, .inl (tA, 2, .inl ((fun _ => 0))))]) [8, 9] rfl
    have hDc := hD.sub (ws' := [(mo, .inr (13, fs)), (ra, .inl (tA, 2, .inl ((fun _ => 0))))]) [8, 9] (by decide) rfl
    have hKc := hK.sub (tys' := [(tA, .int)]) [1] rfl
    have hFc := va_free (wc := [(mo, .inr (13, fs)), (ra, .inl (tA, 2, .inl ((fun _ => 0))))]) hD hS hA [8, 9] rfl
    refine va_callv (va_runV (As := [.int sy2, .int sy4]) (rest := []) ⟨hx, hb, hml, hown, ht⟩ (k_X12_cancel l d0 cO dC dI H.size mo ra tA sy2 sy4 fs hlen hf_asked) (my_V ht M_X12_cancel q2112 q2113 q2111 (Nat.le_of_ble_eq_true rfl) (Nat.le_of_ble_eq_true rfl)) ⟨PRE.fb, va_recv hK hP (ci := 13) (q0 := 8) rfl rfl, fun U hU hW => ⟨rfl, PRE.mk' hE hS hFc hPc hKc hDc U hU hW⟩⟩ rfl rfl hl.1 rfl (lv_room (Nat.le_of_ble_eq_true rfl)) dL_law_833 ⟨(Nat.le_of_ble_eq_true rfl), (Nat.le_of_ble_eq_true rfl)⟩) hS (fun q _ h => hFc q h) hFc (fun u11 t H1 locs htt hvm hw hB hz1 hk1 hS => ?_)
    obtain ⟨th213, rfl⟩ : ∃ z, z = u11 := ⟨_, rfl⟩
    try dsimp only at hw hB
    obtain ⟨fs214, hx_15, hP1, hK1, hD1⟩ := hB
    rw [htt] at hP1
    have hK1 := va_K.moved hvm.symm hK1
    obtain ⟨hP, hD⟩ := va_join (wr := [(h0, .inr (12, [.ref fi, tca, .ref ea, .ref sl, tmx, tsv])), (fi, .inr (5, [fna, fla, fv2, fv3, fv4, fv5, .int 0])), (ea, .inl (tE, 2, .inr (.inr (.inr (.inr fE))))), (e0, .inr (4, [.int ei0, ev0_1, ev0_2, ev0_3, ev0_4, ev0_5, ev0_6, .ref ak0])), (e1, .inr (4, [.int ei1, ev1_1, ev1_2, ev1_3, ev1_4, ev1_5, ev1_6, .ref ak1])), (ak0, .inr (0, [.int am0, ae0, .int 0])), (ak1, .inr (0, [.int am1, ae1, .int 0])), (sl, .inr (0, [.int sm, se, .int 0]))]) (w1 := [(mo, .inr (13, fs214))]) hP hD [8, 9] [0, 1, 2, 3, 4, 5, 6, 7] rfl rfl (by decide) (by decide) hk1 hFc hP1 hD1
    have hK := (hK.sub (tys' := [(tE, .object RX3), (tA, .int)]) [0, 1] rfl).app hK1
    generalize H1 = H at hP hS ⊢
    have hP : va_P (dC, dI) vwCl [(h0, .inr (12, [.ref fi, tca, .ref ea, .ref sl, tmx, tsv])), (fi, .inr (5, [fna, fla, fv2, fv3, fv4, fv5, .int 0])), (ea, .inl (tE, 2, .inr (.inr (.inr (.inr fE))))), (e0, .inr (4, [.int ei0, ev0_1, ev0_2, ev0_3, ev0_4, ev0_5, ev0_6, .ref ak0])), (e1, .inr (4, [.int ei1, ev1_1, ev1_2, ev1_3, ev1_4, ev1_5, ev1_6, .ref ak1])), (ak0, .inr (0, [.int am0, ae0, .int 0])), (ak1, .inr (0, [.int am1, ae1, .int 0])), (sl, .inr (0, [.int sm, se, .int 0])), (mo, .inr (13, fs214))] H := hP
    have hD : va_D A [(h0, .inr (12, [.ref fi, tca, .ref ea, .ref sl, tmx, tsv])), (fi, .inr (5, [fna, fla, fv2, fv3, fv4, fv5, .int 0])), (ea, .inl (tE, 2, .inr (.inr (.inr (.inr fE))))), (e0, .inr (4, [.int ei0, ev0_1, ev0_2, ev0_3, ev0_4, ev0_5, ev0_6, .ref ak0])), (e1, .inr (4, [.int ei1, ev1_1, ev1_2, ev1_3, ev1_4, ev1_5, ev1_6, .ref ak1])), (ak0, .inr (0, [.int am0, ae0, .int 0])), (ak1, .inr (0, [.int am1, ae1, .int 0])), (sl, .inr (0, [.int sm, se, .int 0])), (mo, .inr (13, fs214))] := hD
    have hK : va_K (dC, dI) vwCl [(tE, .object RX3), (tA, .int)] s := hK
    refine W.widen (k := 269) (n := 364945) (Nat.le_of_ble_eq_true rfl) (Nat.le_of_ble_eq_true rfl) ?_
    subst hw
    refine lv_aload_n hx hb dL_law_836 rfl (lv_at hl 3 rfl) ?_
    have hPc := hP.sub (ws' := [(mo, .inr (13, fs214))]) [8] rfl
    have hDc := hD.sub (ws' := [(mo, .inr (13, fs214))]) [8] (by decide) rfl
    have hKc := hK.sub (tys' := []) [] rfl
    have hFc := freeNil hS hA
    refine va_calli (va_runV (As := []) (rest := []) ⟨hx, hb, hml, hown, ht⟩ (k2_thrown l d0 cO dC dI H.size mo 1 fs214 hx_15) (my_V ht M_X12_thrown q1976 q1977 q1975 (Nat.le_of_ble_eq_true rfl) (Nat.le_of_ble_eq_true rfl)) ⟨PREp.fb, va_recv hK hP (ci := 13) (q0 := 8) rfl rfl, fun U hU hW => ⟨rfl, PREp.mk' hE hS hFc hPc hKc U hU hW⟩⟩ rfl rfl hl.1 rfl (lv_room (Nat.le_of_ble_eq_true rfl)) dL_law_837 ⟨(Nat.le_of_ble_eq_true rfl), (Nat.le_of_ble_eq_true rfl)⟩) hS (fun q _ h => hFc q h) hFc (fun r17 u16 t H1 locs htt hvm hw hB hz1 hk1 hS => ?_)
    try dsimp only at hw hB
    have hP1 := hB
    have hP := keepAll hP hk1
    generalize H1 = H at hP hS ⊢
    have hP : va_P (dC, dI) vwCl [(h0, .inr (12, [.ref fi, tca, .ref ea, .ref sl, tmx, tsv])), (fi, .inr (5, [fna, fla, fv2, fv3, fv4, fv5, .int 0])), (ea, .inl (tE, 2, .inr (.inr (.inr (.inr fE))))), (e0, .inr (4, [.int ei0, ev0_1, ev0_2, ev0_3, ev0_4, ev0_5, ev0_6, .ref ak0])), (e1, .inr (4, [.int ei1, ev1_1, ev1_2, ev1_3, ev1_4, ev1_5, ev1_6, .ref ak1])), (ak0, .inr (0, [.int am0, ae0, .int 0])), (ak1, .inr (0, [.int am1, ae1, .int 0])), (sl, .inr (0, [.int sm, se, .int 0])), (mo, .inr (13, fs214))] H := hP
    have hD : va_D A [(h0, .inr (12, [.ref fi, tca, .ref ea, .ref sl, tmx, tsv])), (fi, .inr (5, [fna, fla, fv2, fv3, fv4, fv5, .int 0])), (ea, .inl (tE, 2, .inr (.inr (.inr (.inr fE))))), (e0, .inr (4, [.int ei0, ev0_1, ev0_2, ev0_3, ev0_4, ev0_5, ev0_6, .ref ak0])), (e1, .inr (4, [.int ei1, ev1_1, ev1_2, ev1_3, ev1_4, ev1_5, ev1_6, .ref ak1])), (ak0, .inr (0, [.int am0, ae0, .int 0])), (ak1, .inr (0, [.int am1, ae1, .int 0])), (sl, .inr (0, [.int sm, se, .int 0])), (mo, .inr (13, fs214))] := hD
    have hK : va_K (dC, dI) vwCl [(tE, .object RX3), (tA, .int)] s := hK
    refine W.widen (k := 269) (n := 364945) (Nat.le_of_ble_eq_true rfl) (Nat.le_of_ble_eq_true rfl) ?_
    subst hw
    refine lv_iload hx hb dL_law_840 (lv_at hl 0 rfl) ?_
    refine lv_icmp_eq (tgt := 847) hx hb dL_law_842 (by decide) (fun c18 => ?_) (fun c18 => False.elim (by revert c18; decide))
    refine lv_goto (tgt := 2038) hx hb dL_law_847 (by decide) ?_
    refine lv_iinc (v := 8) (lv' := [(4, .int 8), (5, .int 1), (3, .ref out), (2, .ref mo), (1, .ref h0), (0, .ref b)]) hx hb dL_law_2038 hl (k := 1) rfl (by decide) (by decide) rfl (fun ls hl => ?_)
    refine lv_goto (tgt := 23) hx hb dL_law_2041 (by decide) ?_
    refine lv_iload hx hb dL_law_23 (lv_at hl 0 rfl) ?_
    refine lv_aload_n hx hb dL_law_25 rfl (lv_at hl 5 rfl) ?_
    refine va_slen hx hb hX hbl hbA hS dL_law_26 ?_
    refine W.eq (g2 := F0 m 27 ls [.int 8, .int 8]) rfl ?_
    refine lv_bipush (v := 8) hx hb dL_law_27 (by decide) ?_
    refine lv_isub hx hb dL_law_29 ?_
    refine lv_topi (fun x19 ex19 => ?_)
    obtain rfl : x19 = 0 := ex19.trans (by decide)
    refine lv_icmp_gt (tgt := 2044) hx hb dL_law_30 (by decide) (fun c20 => ?_) (fun c20 => False.elim (by revert c20; decide))
    refine lv_iconst (v := 1) hx hb dL_law_2044 (by decide) ?_
    refine W.widen (k := 600002) (n := 7302232) (Nat.le_of_ble_eq_true rfl) (Nat.le_of_ble_eq_true rfl) ?_
    refine va_forget (by have h := hS.2.2; rw [hAd] at h; exact h) ?_
    exact lw_ret hx hb hr hlocks dL_law_2045
set_option maxHeartbeats 4000000 in
set_option maxRecDepth 100000 in
theorem law_apply (l : Launch) (hL : l.stackTraces = false) {p : Program} {e : Env} {s : State} {m : MethodId} {below : List Frame} {meth : Method} {c : Code} {b : Nat} {xs : Nat → Int32} {d0 : Nat} {cO : ClassId} {dC : Nat → ClassId} {dI : Nat → Nat → Nat} {H : Heap} {locs : List Loc} {ls : Array Slot} {h0 mo out : Nat} {ea sl : Nat} {tca tmx tsv : Value} {tE : ClassId} {fE : Nat → Option Nat} {sm : Int32} {se : Value} {fi : Nat} {fna fla fv2 fv3 fv4 fv5 : Value} {e0 ak0 : Nat} {ei0 am0 : Int32} {ev0_1 ev0_2 ev0_3 ev0_4 ev0_5 ev0_6 ae0 : Value} {e1 ak1 : Nat} {ei1 am1 : Int32} {ev1_1 ev1_2 ev1_3 ev1_4 ev1_5 ev1_6 ae1 : Value} {fs : List Value} {ra : Nat} {tA : ClassId} (hf0 : fE 0 = some e0) (hf1 : fE 1 = some e1) (hlen : fs.length = 75) (hf_asked : fs[27]? = some (.ref ra)) (C0 : lw_At p s m meth c b 8 xs) (hE : EN d0 cO (fun q : Nat => s.heap.size ≤ q) s s.heap) (hS : va_S (fun q : Nat => s.heap.size ≤ q) s.heap H locs) (hP : va_P (dC, dI) vwCl [(h0, .inr (12, [.ref fi, tca, .ref ea, .ref sl, tmx, tsv])), (fi, .inr (5, [fna, fla, fv2, fv3, fv4, fv5, .int 0])), (ea, .inl (tE, 2, .inr (.inr (.inr (.inr fE))))), (e0, .inr (4, [.int ei0, ev0_1, ev0_2, ev0_3, ev0_4, ev0_5, ev0_6, .ref ak0])), (e1, .inr (4, [.int ei1, ev1_1, ev1_2, ev1_3, ev1_4, ev1_5, ev1_6, .ref ak1])), (ak0, .inr (0, [.int am0, ae0, .int 0])), (ak1, .inr (0, [.int am1, ae1, .int 0])), (sl, .inr (0, [.int sm, se, .int 0])), (mo, .inr (13, fs)), (ra, .inl (tA, 2, .inl ((fun _ => 0))))] H) (hD : va_D (fun q : Nat => s.heap.size ≤ q) [(h0, .inr (12, [.ref fi, tca, .ref ea, .ref sl, tmx, tsv])), (fi, .inr (5, [fna, fla, fv2, fv3, fv4, fv5, .int 0])), (ea, .inl (tE, 2, .inr (.inr (.inr (.inr fE))))), (e0, .inr (4, [.int ei0, ev0_1, ev0_2, ev0_3, ev0_4, ev0_5, ev0_6, .ref ak0])), (e1, .inr (4, [.int ei1, ev1_1, ev1_2, ev1_3, ev1_4, ev1_5, ev1_6, .ref ak1])), (ak0, .inr (0, [.int am0, ae0, .int 0])), (ak1, .inr (0, [.int am1, ae1, .int 0])), (sl, .inr (0, [.int sm, se, .int 0])), (mo, .inr (13, fs)), (ra, .inl (tA, 2, .inl ((fun _ => 0))))]) (hK : va_K (dC, dI) vwCl [(tE, .object RX3), (tA, .int)] s) (hl : lv_has ls 7 [(4, .int 0), (3, .ref out), (2, .ref mo), (1, .ref h0), (0, .ref b)]) : W p l e room_1 s m #[Value.ref b] below meth c H locs 267 364933 (lw_Z below #[Value.ref b] s) (F0 m 850 ls []) := by
  obtain ⟨hx, hb, hr, hml, hown0, hts, hX, hbl, hlocks, hgv⟩ := id C0
  have hown : s.vm.findClass RL = some m.cls := hown0
  have ht : ∀ w ∈ GT, w.before #[Value.ref b] s = true := fun w h => hts w (gt_tbl h)
  obtain ⟨A, hAd⟩ : ∃ A : Nat → Prop, A = (fun q : Nat => s.heap.size ≤ q) := ⟨_, rfl⟩
  rw [← hAd] at hE hS hD
  have hA : ∀ q : Nat, s.heap.size ≤ q → A q := fun q h => by rw [hAd]; exact h
  have hbA : ¬ A b := by rw [hAd]; exact Nat.not_le.mpr hbl
  refine lv_aload_n hx hb dL_law_850 rfl (lv_at hl 3 rfl) ?_
  refine lv_aload_n hx hb dL_law_851 rfl (lv_at hl 4 rfl) ?_
  refine lv_iload hx hb dL_law_852 (lv_at hl 0 rfl) ?_
  refine lv_iconst (v := 1) hx hb dL_law_854 (by decide) ?_
  refine lv_iadd hx hb dL_law_855 ?_
  refine lv_topi (fun x1 ex1 => ?_)
  obtain rfl : x1 = 1 := ex1.trans (by decide)
  refine va_sld hx hb hX hbl hbA hS (vp_in_nI (n := 1) (by decide) (by decide)) dL_law_856 ?_
  refine lv_topi (fun sy2 esy2 => ?_)
  refine lv_aload_n hx hb dL_law_857 rfl (lv_at hl 4 rfl) ?_
  refine lv_iload hx hb dL_law_858 (lv_at hl 0 rfl) ?_
  refine lv_iconst (v := 2) hx hb dL_law_860 (by decide) ?_
  refine lv_iadd hx hb dL_law_861 ?_
  refine lv_topi (fun x3 ex3 => ?_)
  obtain rfl : x3 = 2 := ex3.trans (by decide)
  refine va_sld hx hb hX hbl hbA hS (vp_in_nI (n := 2) (by decide) (by decide)) dL_law_862 ?_
  refine lv_topi (fun sy4 esy4 => ?_)
  refine lv_aload_n hx hb dL_law_863 rfl (lv_at hl 1 rfl) ?_
  have hPc := hP.sub (ws' := [(h0, .inr (12, [.ref fi, tca, .ref ea, .ref sl, tmx, tsv])), (fi, .inr (5, [fna, fla, fv2, fv3, fv4, fv5, .int 0])), (ea, .inl (tE, 2, .inr (.inr (.inr (.inr fE))))), (e0, .inr (4, [.int ei0, ev0_1, ev0_2, ev0_3, ev0_4, ev0_5, ev0_6, .ref ak0])), (e1, .inr (4, [.int ei1, ev1_1, ev1_2, ev1_3, ev1_4, ev1_5, ev1_6, .ref ak1])), (ak0, .inr (0, [.int am0, ae0, .int 0])), (ak1, .inr (0, [.int am1, ae1, .int 0])), (sl, .inr (0, [.int sm, se, .int 0]))]) [0, 1, 2, 3, 4, 5, 6, 7] rfl
  have hDc := hD.sub (ws' := [(h0, .inr (12, [.ref fi, tca, .ref ea, .ref sl, tmx, tsv])), (fi, .inr (5, [fna, fla, fv2, fv3, fv4, fv5, .int 0])), (ea, .inl (tE, 2, .inr (.inr (.inr (.inr fE))))), (e0, .inr (4, [.int ei0, ev0_1, ev0_2, ev0_3, ev0_4, ev0_5, ev0_6, .ref ak0])), (e1, .inr (4, [.int ei1, ev1_1, ev1_2, ev1_3, ev1_4, ev1_5, ev1_6, .ref ak1])), (ak0, .inr (0, [.int am0, ae0, .int 0])), (ak1, .inr (0, [.int am1, ae1, .int 0])), (sl, .inr (0, [.int sm, se, .int 0]))]) [0, 1, 2, 3, 4, 5, 6, 7] (by decide) rfl
  have hKc := hK.sub (tys' := [(tE, .object RX3)]) [0] rfl
  have hFc := freeNil hS hA
  refine vx_calli (vx_runSX (As := [.ref h0, .int sy2, .int sy4, .ref out]) (rest := []) ⟨hx, hb, hml, hown, ht⟩ (k_L_apply l hL d0 cO dC dI H.size h0 ea sl tca tmx tsv tE fE sm se fi fna fla fv2 fv3 fv4 fv5 e0 ak0 ei0 am0 ev0_1 ev0_2 ev0_3 ev0_4 ev0_5 ev0_6 ae0 e1 ak1 ei1 am1 ev1_1 ev1_2 ev1_3 ev1_4 ev1_5 ev1_6 ae1 hf0 hf1 sy2 sy4 out) (my_SW ht M_L_apply q1413 q1412 (Nat.le_of_ble_eq_true rfl) (Nat.le_of_ble_eq_true rfl)) ⟨PREp.fb, fun U hU hW => ⟨rfl, PREp.mk' hE hS hFc hPc hKc U hU hW⟩⟩ rfl rfl hl.1 rfl (lv_room (Nat.le_of_ble_eq_true rfl)) dL_law_864 ⟨(Nat.le_of_ble_eq_true rfl), (Nat.le_of_ble_eq_true rfl)⟩) hS (fun q _ h => hFc q h) hFc (fun q _ h => hFc q h) (fun E ce q9 ux t H1 locs htt hvm hw hB hz1 hk1 hS hcell hv9 hcl9 => ?_) (fun r6 u5 t H1 locs htt hvm hw hB hz1 hk1 hS => ?_)
  · skip
    exact hB.elim
  · skip
    try dsimp only at hw hB
    have hP1 := hB
    have hP := keepAll hP hk1
    generalize H1 = H at hP hS ⊢
    have hP : va_P (dC, dI) vwCl [(h0, .inr (12, [.ref fi, tca, .ref ea, .ref sl, tmx, tsv])), (fi, .inr (5, [fna, fla, fv2, fv3, fv4, fv5, .int 0])), (ea, .inl (tE, 2, .inr (.inr (.inr (.inr fE))))), (e0, .inr (4, [.int ei0, ev0_1, ev0_2, ev0_3, ev0_4, ev0_5, ev0_6, .ref ak0])), (e1, .inr (4, [.int ei1, ev1_1, ev1_2, ev1_3, ev1_4, ev1_5, ev1_6, .ref ak1])), (ak0, .inr (0, [.int am0, ae0, .int 0])), (ak1, .inr (0, [.int am1, ae1, .int 0])), (sl, .inr (0, [.int sm, se, .int 0])), (mo, .inr (13, fs)), (ra, .inl (tA, 2, .inl ((fun _ => 0))))] H := hP
    have hD : va_D A [(h0, .inr (12, [.ref fi, tca, .ref ea, .ref sl, tmx, tsv])), (fi, .inr (5, [fna, fla, fv2, fv3, fv4, fv5, .int 0])), (ea, .inl (tE, 2, .inr (.inr (.inr (.inr fE))))), (e0, .inr (4, [.int ei0, ev0_1, ev0_2, ev0_3, ev0_4, ev0_5, ev0_6, .ref ak0])), (e1, .inr (4, [.int ei1, ev1_1, ev1_2, ev1_3, ev1_4, ev1_5, ev1_6, .ref ak1])), (ak0, .inr (0, [.int am0, ae0, .int 0])), (ak1, .inr (0, [.int am1, ae1, .int 0])), (sl, .inr (0, [.int sm, se, .int 0])), (mo, .inr (13, fs)), (ra, .inl (tA, 2, .inl ((fun _ => 0))))] := hD
    have hK : va_K (dC, dI) vwCl [(tE, .object RX3), (tA, .int)] s := hK
    refine W.widen (k := 269) (n := 364945) (Nat.le_of_ble_eq_true rfl) (Nat.le_of_ble_eq_true rfl) ?_
    subst hw
    refine lv_istore (lv' := [(5, .int 1), (4, .int 0), (3, .ref out), (2, .ref mo), (1, .ref h0), (0, .ref b)]) hx hb dL_law_867 hl (by decide) rfl (fun ls hl => ?_)
    refine lv_aload_n hx hb dL_law_869 rfl (lv_at hl 3 rfl) ?_
    refine lv_aload_n hx hb dL_law_870 rfl (lv_at hl 5 rfl) ?_
    refine lv_iload hx hb dL_law_871 (lv_at hl 1 rfl) ?_
    refine lv_iconst (v := 1) hx hb dL_law_873 (by decide) ?_
    refine lv_iadd hx hb dL_law_874 ?_
    refine lv_topi (fun x7 ex7 => ?_)
    obtain rfl : x7 = 1 := ex7.trans (by decide)
    refine va_sld hx hb hX hbl hbA hS (vp_in_nI (n := 1) (by decide) (by decide)) dL_law_875 ?_
    refine lv_topi (fun sy8 esy8 => ?_)
    have hyy : sy2 = sy8 := esy2.trans esy8.symm
    subst hyy
    refine lv_aload_n hx hb dL_law_876 rfl (lv_at hl 5 rfl) ?_
    refine lv_iload hx hb dL_law_877 (lv_at hl 1 rfl) ?_
    refine lv_iconst (v := 2) hx hb dL_law_879 (by decide) ?_
    refine lv_iadd hx hb dL_law_880 ?_
    refine lv_topi (fun x9 ex9 => ?_)
    obtain rfl : x9 = 2 := ex9.trans (by decide)
    refine va_sld hx hb hX hbl hbA hS (vp_in_nI (n := 2) (by decide) (by decide)) dL_law_881 ?_
    refine lv_topi (fun sy10 esy10 => ?_)
    have hyy : sy4 = sy10 := esy4.trans esy10.symm
    subst hyy
    have hPc := hP.sub (ws' := [(mo, .inr (13, fs)), (ra, .inl (tA, 2, .inl ((fun _ => 0))))]) [8, 9] rfl
    have hDc := hD.sub (ws' := [(mo, .inr (13, fs)), (ra, .inl (tA, 2, .inl ((fun _ => 0))))]) [8, 9] (by decide) rfl
    have hKc := hK.sub (tys' := [(tA, .int)]) [1] rfl
    have hFc := va_free (wc := [(mo, .inr (13, fs)), (ra, .inl (tA, 2, .inl ((fun _ => 0))))]) hD hS hA [8, 9] rfl
    refine va_calli (va_runV (As := [.int sy2, .int sy4]) (rest := []) ⟨hx, hb, hml, hown, ht⟩ (k_X12_apply l d0 cO dC dI H.size mo ra tA sy2 sy4 fs hlen hf_asked) (my_V ht M_X12_apply q2120 q2121 q2119 (Nat.le_of_ble_eq_true rfl) (Nat.le_of_ble_eq_true rfl)) ⟨PRE.fb, va_recv hK hP (ci := 13) (q0 := 8) rfl rfl, fun U hU hW => ⟨rfl, PRE.mk' hE hS hFc hPc hKc hDc U hU hW⟩⟩ rfl rfl hl.1 rfl (lv_room (Nat.le_of_ble_eq_true rfl)) dL_law_882 ⟨(Nat.le_of_ble_eq_true rfl), (Nat.le_of_ble_eq_true rfl)⟩) hS (fun q _ h => hFc q h) hFc (fun r12 u11 t H1 locs htt hvm hw hB hz1 hk1 hS => ?_)
    obtain ⟨th213, rfl⟩ : ∃ z, z = u11 := ⟨_, rfl⟩
    try dsimp only at hw hB
    obtain ⟨fs214, hx_15, hP1, hK1, hD1⟩ := hB
    rw [htt] at hP1
    have hK1 := va_K.moved hvm.symm hK1
    obtain ⟨hP, hD⟩ := va_join (wr := [(h0, .inr (12, [.ref fi, tca, .ref ea, .ref sl, tmx, tsv])), (fi, .inr (5, [fna, fla, fv2, fv3, fv4, fv5, .int 0])), (ea, .inl (tE, 2, .inr (.inr (.inr (.inr fE))))), (e0, .inr (4, [.int ei0, ev0_1, ev0_2, ev0_3, ev0_4, ev0_5, ev0_6, .ref ak0])), (e1, .inr (4, [.int ei1, ev1_1, ev1_2, ev1_3, ev1_4, ev1_5, ev1_6, .ref ak1])), (ak0, .inr (0, [.int am0, ae0, .int 0])), (ak1, .inr (0, [.int am1, ae1, .int 0])), (sl, .inr (0, [.int sm, se, .int 0]))]) (w1 := [(mo, .inr (13, fs214))]) hP hD [8, 9] [0, 1, 2, 3, 4, 5, 6, 7] rfl rfl (by decide) (by decide) hk1 hFc hP1 hD1
    have hK := (hK.sub (tys' := [(tE, .object RX3), (tA, .int)]) [0, 1] rfl).app hK1
    generalize H1 = H at hP hS ⊢
    have hP : va_P (dC, dI) vwCl [(h0, .inr (12, [.ref fi, tca, .ref ea, .ref sl, tmx, tsv])), (fi, .inr (5, [fna, fla, fv2, fv3, fv4, fv5, .int 0])), (ea, .inl (tE, 2, .inr (.inr (.inr (.inr fE))))), (e0, .inr (4, [.int ei0, ev0_1, ev0_2, ev0_3, ev0_4, ev0_5, ev0_6, .ref ak0])), (e1, .inr (4, [.int ei1, ev1_1, ev1_2, ev1_3, ev1_4, ev1_5, ev1_6, .ref ak1])), (ak0, .inr (0, [.int am0, ae0, .int 0])), (ak1, .inr (0, [.int am1, ae1, .int 0])), (sl, .inr (0, [.int sm, se, .int 0])), (mo, .inr (13, fs214))] H := hP
    have hD : va_D A [(h0, .inr (12, [.ref fi, tca, .ref ea, .ref sl, tmx, tsv])), (fi, .inr (5, [fna, fla, fv2, fv3, fv4, fv5, .int 0])), (ea, .inl (tE, 2, .inr (.inr (.inr (.inr fE))))), (e0, .inr (4, [.int ei0, ev0_1, ev0_2, ev0_3, ev0_4, ev0_5, ev0_6, .ref ak0])), (e1, .inr (4, [.int ei1, ev1_1, ev1_2, ev1_3, ev1_4, ev1_5, ev1_6, .ref ak1])), (ak0, .inr (0, [.int am0, ae0, .int 0])), (ak1, .inr (0, [.int am1, ae1, .int 0])), (sl, .inr (0, [.int sm, se, .int 0])), (mo, .inr (13, fs214))] := hD
    have hK : va_K (dC, dI) vwCl [(tE, .object RX3), (tA, .int)] s := hK
    refine W.widen (k := 269) (n := 364945) (Nat.le_of_ble_eq_true rfl) (Nat.le_of_ble_eq_true rfl) ?_
    subst hw
    refine lv_istore (lv' := [(6, .int r12), (5, .int 1), (4, .int 0), (3, .ref out), (2, .ref mo), (1, .ref h0), (0, .ref b)]) hx hb dL_law_885 hl (by decide) rfl (fun ls hl => ?_)
    refine lv_aload_n hx hb dL_law_887 rfl (lv_at hl 4 rfl) ?_
    have hPc := hP.sub (ws' := [(mo, .inr (13, fs214))]) [8] rfl
    have hDc := hD.sub (ws' := [(mo, .inr (13, fs214))]) [8] (by decide) rfl
    have hKc := hK.sub (tys' := []) [] rfl
    have hFc := freeNil hS hA
    refine va_calli (va_runV (As := []) (rest := []) ⟨hx, hb, hml, hown, ht⟩ (k2_thrown l d0 cO dC dI H.size mo 1 fs214 hx_15) (my_V ht M_X12_thrown q1976 q1977 q1975 (Nat.le_of_ble_eq_true rfl) (Nat.le_of_ble_eq_true rfl)) ⟨PREp.fb, va_recv hK hP (ci := 13) (q0 := 8) rfl rfl, fun U hU hW => ⟨rfl, PREp.mk' hE hS hFc hPc hKc U hU hW⟩⟩ rfl rfl hl.1 rfl (lv_room (Nat.le_of_ble_eq_true rfl)) dL_law_888 ⟨(Nat.le_of_ble_eq_true rfl), (Nat.le_of_ble_eq_true rfl)⟩) hS (fun q _ h => hFc q h) hFc (fun r17 u16 t H1 locs htt hvm hw hB hz1 hk1 hS => ?_)
    try dsimp only at hw hB
    have hP1 := hB
    have hP := keepAll hP hk1
    generalize H1 = H at hP hS ⊢
    have hP : va_P (dC, dI) vwCl [(h0, .inr (12, [.ref fi, tca, .ref ea, .ref sl, tmx, tsv])), (fi, .inr (5, [fna, fla, fv2, fv3, fv4, fv5, .int 0])), (ea, .inl (tE, 2, .inr (.inr (.inr (.inr fE))))), (e0, .inr (4, [.int ei0, ev0_1, ev0_2, ev0_3, ev0_4, ev0_5, ev0_6, .ref ak0])), (e1, .inr (4, [.int ei1, ev1_1, ev1_2, ev1_3, ev1_4, ev1_5, ev1_6, .ref ak1])), (ak0, .inr (0, [.int am0, ae0, .int 0])), (ak1, .inr (0, [.int am1, ae1, .int 0])), (sl, .inr (0, [.int sm, se, .int 0])), (mo, .inr (13, fs214))] H := hP
    have hD : va_D A [(h0, .inr (12, [.ref fi, tca, .ref ea, .ref sl, tmx, tsv])), (fi, .inr (5, [fna, fla, fv2, fv3, fv4, fv5, .int 0])), (ea, .inl (tE, 2, .inr (.inr (.inr (.inr fE))))), (e0, .inr (4, [.int ei0, ev0_1, ev0_2, ev0_3, ev0_4, ev0_5, ev0_6, .ref ak0])), (e1, .inr (4, [.int ei1, ev1_1, ev1_2, ev1_3, ev1_4, ev1_5, ev1_6, .ref ak1])), (ak0, .inr (0, [.int am0, ae0, .int 0])), (ak1, .inr (0, [.int am1, ae1, .int 0])), (sl, .inr (0, [.int sm, se, .int 0])), (mo, .inr (13, fs214))] := hD
    have hK : va_K (dC, dI) vwCl [(tE, .object RX3), (tA, .int)] s := hK
    refine W.widen (k := 269) (n := 364945) (Nat.le_of_ble_eq_true rfl) (Nat.le_of_ble_eq_true rfl) ?_
    subst hw
    refine lv_iload hx hb dL_law_891 (lv_at hl 1 rfl) ?_
    refine lv_icmp_eq (tgt := 898) hx hb dL_law_893 (by decide) (fun c18 => ?_) (fun c18 => False.elim (by revert c18; decide))
    refine lv_iload hx hb dL_law_898 (lv_at hl 1 rfl) ?_
    refine lv_if_ne (tgt := 915) hx hb dL_law_900 (by decide) (fun c19 => ?_) (fun c19 => False.elim (by revert c19; decide))
    refine lv_goto (tgt := 2038) hx hb dL_law_915 (by decide) ?_
    refine lv_iinc (v := 8) (lv' := [(4, .int 8), (6, .int r12), (5, .int 1), (3, .ref out), (2, .ref mo), (1, .ref h0), (0, .ref b)]) hx hb dL_law_2038 hl (k := 2) rfl (by decide) (by decide) rfl (fun ls hl => ?_)
    refine lv_goto (tgt := 23) hx hb dL_law_2041 (by decide) ?_
    refine lv_iload hx hb dL_law_23 (lv_at hl 0 rfl) ?_
    refine lv_aload_n hx hb dL_law_25 rfl (lv_at hl 6 rfl) ?_
    refine va_slen hx hb hX hbl hbA hS dL_law_26 ?_
    refine W.eq (g2 := F0 m 27 ls [.int 8, .int 8]) rfl ?_
    refine lv_bipush (v := 8) hx hb dL_law_27 (by decide) ?_
    refine lv_isub hx hb dL_law_29 ?_
    refine lv_topi (fun x20 ex20 => ?_)
    obtain rfl : x20 = 0 := ex20.trans (by decide)
    refine lv_icmp_gt (tgt := 2044) hx hb dL_law_30 (by decide) (fun c21 => ?_) (fun c21 => False.elim (by revert c21; decide))
    refine lv_iconst (v := 1) hx hb dL_law_2044 (by decide) ?_
    refine W.widen (k := 600002) (n := 7302232) (Nat.le_of_ble_eq_true rfl) (Nat.le_of_ble_eq_true rfl) ?_
    refine va_forget (by have h := hS.2.2; rw [hAd] at h; exact h) ?_
    exact lw_ret hx hb hr hlocks dL_law_2045
set_option maxHeartbeats 4000000 in
set_option maxRecDepth 100000 in
theorem law_standing (l : Launch) (hL : l.stackTraces = false) {p : Program} {e : Env} {s : State} {m : MethodId} {below : List Frame} {meth : Method} {c : Code} {b : Nat} {xs : Nat → Int32} {d0 : Nat} {cO : ClassId} {dC : Nat → ClassId} {dI : Nat → Nat → Nat} {H : Heap} {locs : List Loc} {ls : Array Slot} {h0 mo out : Nat} {ea sl : Nat} {tca tmx tsv : Value} {tE : ClassId} {fE : Nat → Option Nat} {sm : Int32} {se : Value} {fi : Nat} {fna fla fv2 fv3 fv4 fv5 : Value} {e0 ak0 : Nat} {ei0 am0 : Int32} {ev0_1 ev0_2 ev0_3 ev0_4 ev0_5 ev0_6 ae0 : Value} {e1 ak1 : Nat} {ei1 am1 : Int32} {ev1_1 ev1_2 ev1_3 ev1_4 ev1_5 ev1_6 ae1 : Value} {fs : List Value} {ra : Nat} {tA : ClassId} (hf0 : fE 0 = some e0) (hf1 : fE 1 = some e1) (hlen : fs.length = 75) (hf_asked : fs[27]? = some (.ref ra)) (C0 : lw_At p s m meth c b 8 xs) (hE : EN d0 cO (fun q : Nat => s.heap.size ≤ q) s s.heap) (hS : va_S (fun q : Nat => s.heap.size ≤ q) s.heap H locs) (hP : va_P (dC, dI) vwCl [(h0, .inr (12, [.ref fi, tca, .ref ea, .ref sl, tmx, tsv])), (fi, .inr (5, [fna, fla, fv2, fv3, fv4, fv5, .int 0])), (ea, .inl (tE, 2, .inr (.inr (.inr (.inr fE))))), (e0, .inr (4, [.int ei0, ev0_1, ev0_2, ev0_3, ev0_4, ev0_5, ev0_6, .ref ak0])), (e1, .inr (4, [.int ei1, ev1_1, ev1_2, ev1_3, ev1_4, ev1_5, ev1_6, .ref ak1])), (ak0, .inr (0, [.int am0, ae0, .int 0])), (ak1, .inr (0, [.int am1, ae1, .int 0])), (sl, .inr (0, [.int sm, se, .int 0])), (mo, .inr (13, fs)), (ra, .inl (tA, 2, .inl ((fun _ => 0))))] H) (hD : va_D (fun q : Nat => s.heap.size ≤ q) [(h0, .inr (12, [.ref fi, tca, .ref ea, .ref sl, tmx, tsv])), (fi, .inr (5, [fna, fla, fv2, fv3, fv4, fv5, .int 0])), (ea, .inl (tE, 2, .inr (.inr (.inr (.inr fE))))), (e0, .inr (4, [.int ei0, ev0_1, ev0_2, ev0_3, ev0_4, ev0_5, ev0_6, .ref ak0])), (e1, .inr (4, [.int ei1, ev1_1, ev1_2, ev1_3, ev1_4, ev1_5, ev1_6, .ref ak1])), (ak0, .inr (0, [.int am0, ae0, .int 0])), (ak1, .inr (0, [.int am1, ae1, .int 0])), (sl, .inr (0, [.int sm, se, .int 0])), (mo, .inr (13, fs)), (ra, .inl (tA, 2, .inl ((fun _ => 0))))]) (hK : va_K (dC, dI) vwCl [(tE, .object RX3), (tA, .int)] s) (hl : lv_has ls 7 [(4, .int 0), (3, .ref out), (2, .ref mo), (1, .ref h0), (0, .ref b)]) : W p l e room_1 s m #[Value.ref b] below meth c H locs 267 364933 (lw_Z below #[Value.ref b] s) (F0 m 1502 ls []) := by
  obtain ⟨hx, hb, hr, hml, hown0, hts, hX, hbl, hlocks, hgv⟩ := id C0
  have hown : s.vm.findClass RL = some m.cls := hown0
  have ht : ∀ w ∈ GT, w.before #[Value.ref b] s = true := fun w h => hts w (gt_tbl h)
  obtain ⟨A, hAd⟩ : ∃ A : Nat → Prop, A = (fun q : Nat => s.heap.size ≤ q) := ⟨_, rfl⟩
  rw [← hAd] at hE hS hD
  have hA : ∀ q : Nat, s.heap.size ≤ q → A q := fun q h => by rw [hAd]; exact h
  have hbA : ¬ A b := by rw [hAd]; exact Nat.not_le.mpr hbl
  refine lv_aload_n hx hb dL_law_1502 rfl (lv_at hl 3 rfl) ?_
  refine lv_aload_n hx hb dL_law_1503 rfl (lv_at hl 4 rfl) ?_
  refine lv_iload hx hb dL_law_1504 (lv_at hl 0 rfl) ?_
  refine lv_iconst (v := 1) hx hb dL_law_1506 (by decide) ?_
  refine lv_iadd hx hb dL_law_1507 ?_
  refine lv_topi (fun x1 ex1 => ?_)
  obtain rfl : x1 = 1 := ex1.trans (by decide)
  refine va_sld hx hb hX hbl hbA hS (vp_in_nI (n := 1) (by decide) (by decide)) dL_law_1508 ?_
  refine lv_topi (fun sy2 esy2 => ?_)
  refine lv_aload_n hx hb dL_law_1509 rfl (lv_at hl 4 rfl) ?_
  refine lv_iload hx hb dL_law_1510 (lv_at hl 0 rfl) ?_
  refine lv_iconst (v := 2) hx hb dL_law_1512 (by decide) ?_
  refine lv_iadd hx hb dL_law_1513 ?_
  refine lv_topi (fun x3 ex3 => ?_)
  obtain rfl : x3 = 2 := ex3.trans (by decide)
  refine va_sld hx hb hX hbl hbA hS (vp_in_nI (n := 2) (by decide) (by decide)) dL_law_1514 ?_
  refine lv_topi (fun sy4 esy4 => ?_)
  refine lv_aload_n hx hb dL_law_1515 rfl (lv_at hl 1 rfl) ?_
  have hPc := hP.sub (ws' := [(h0, .inr (12, [.ref fi, tca, .ref ea, .ref sl, tmx, tsv])), (fi, .inr (5, [fna, fla, fv2, fv3, fv4, fv5, .int 0])), (ea, .inl (tE, 2, .inr (.inr (.inr (.inr fE))))), (e0, .inr (4, [.int ei0, ev0_1, ev0_2, ev0_3, ev0_4, ev0_5, ev0_6, .ref ak0])), (e1, .inr (4, [.int ei1, ev1_1, ev1_2, ev1_3, ev1_4, ev1_5, ev1_6, .ref ak1])), (ak0, .inr (0, [.int am0, ae0, .int 0])), (ak1, .inr (0, [.int am1, ae1, .int 0])), (sl, .inr (0, [.int sm, se, .int 0]))]) [0, 1, 2, 3, 4, 5, 6, 7] rfl
  have hDc := hD.sub (ws' := [(h0, .inr (12, [.ref fi, tca, .ref ea, .ref sl, tmx, tsv])), (fi, .inr (5, [fna, fla, fv2, fv3, fv4, fv5, .int 0])), (ea, .inl (tE, 2, .inr (.inr (.inr (.inr fE))))), (e0, .inr (4, [.int ei0, ev0_1, ev0_2, ev0_3, ev0_4, ev0_5, ev0_6, .ref ak0])), (e1, .inr (4, [.int ei1, ev1_1, ev1_2, ev1_3, ev1_4, ev1_5, ev1_6, .ref ak1])), (ak0, .inr (0, [.int am0, ae0, .int 0])), (ak1, .inr (0, [.int am1, ae1, .int 0])), (sl, .inr (0, [.int sm, se, .int 0]))]) [0, 1, 2, 3, 4, 5, 6, 7] (by decide) rfl
  have hKc := hK.sub (tys' := [(tE, .object RX3)]) [0] rfl
  have hFc := freeNil hS hA
  refine vx_calli (vx_runSX (As := [.ref h0, .int sy2, .int sy4, .ref out]) (rest := []) ⟨hx, hb, hml, hown, ht⟩ (k_L_standing l hL d0 cO dC dI H.size h0 ea sl tca tmx tsv tE fE sm se fi fna fla fv2 fv3 fv4 fv5 e0 ak0 ei0 am0 ev0_1 ev0_2 ev0_3 ev0_4 ev0_5 ev0_6 ae0 e1 ak1 ei1 am1 ev1_1 ev1_2 ev1_3 ev1_4 ev1_5 ev1_6 ae1 hf0 hf1 sy2 sy4 out) (my_SW ht M_L_standing q1674 q1673 (Nat.le_of_ble_eq_true rfl) (Nat.le_of_ble_eq_true rfl)) ⟨PREp.fb, fun U hU hW => ⟨rfl, PREp.mk' hE hS hFc hPc hKc U hU hW⟩⟩ rfl rfl hl.1 rfl (lv_room (Nat.le_of_ble_eq_true rfl)) dL_law_1516 ⟨(Nat.le_of_ble_eq_true rfl), (Nat.le_of_ble_eq_true rfl)⟩) hS (fun q _ h => hFc q h) hFc (fun q _ h => hFc q h) (fun E ce q9 ux t H1 locs htt hvm hw hB hz1 hk1 hS hcell hv9 hcl9 => ?_) (fun r6 u5 t H1 locs htt hvm hw hB hz1 hk1 hS => ?_)
  · skip
    exact hB.elim
  · skip
    try dsimp only at hw hB
    have hP1 := hB
    have hP := keepAll hP hk1
    generalize H1 = H at hP hS ⊢
    have hP : va_P (dC, dI) vwCl [(h0, .inr (12, [.ref fi, tca, .ref ea, .ref sl, tmx, tsv])), (fi, .inr (5, [fna, fla, fv2, fv3, fv4, fv5, .int 0])), (ea, .inl (tE, 2, .inr (.inr (.inr (.inr fE))))), (e0, .inr (4, [.int ei0, ev0_1, ev0_2, ev0_3, ev0_4, ev0_5, ev0_6, .ref ak0])), (e1, .inr (4, [.int ei1, ev1_1, ev1_2, ev1_3, ev1_4, ev1_5, ev1_6, .ref ak1])), (ak0, .inr (0, [.int am0, ae0, .int 0])), (ak1, .inr (0, [.int am1, ae1, .int 0])), (sl, .inr (0, [.int sm, se, .int 0])), (mo, .inr (13, fs)), (ra, .inl (tA, 2, .inl ((fun _ => 0))))] H := hP
    have hD : va_D A [(h0, .inr (12, [.ref fi, tca, .ref ea, .ref sl, tmx, tsv])), (fi, .inr (5, [fna, fla, fv2, fv3, fv4, fv5, .int 0])), (ea, .inl (tE, 2, .inr (.inr (.inr (.inr fE))))), (e0, .inr (4, [.int ei0, ev0_1, ev0_2, ev0_3, ev0_4, ev0_5, ev0_6, .ref ak0])), (e1, .inr (4, [.int ei1, ev1_1, ev1_2, ev1_3, ev1_4, ev1_5, ev1_6, .ref ak1])), (ak0, .inr (0, [.int am0, ae0, .int 0])), (ak1, .inr (0, [.int am1, ae1, .int 0])), (sl, .inr (0, [.int sm, se, .int 0])), (mo, .inr (13, fs)), (ra, .inl (tA, 2, .inl ((fun _ => 0))))] := hD
    have hK : va_K (dC, dI) vwCl [(tE, .object RX3), (tA, .int)] s := hK
    refine W.widen (k := 269) (n := 364945) (Nat.le_of_ble_eq_true rfl) (Nat.le_of_ble_eq_true rfl) ?_
    subst hw
    refine lv_istore (lv' := [(5, .int 1), (4, .int 0), (3, .ref out), (2, .ref mo), (1, .ref h0), (0, .ref b)]) hx hb dL_law_1519 hl (by decide) rfl (fun ls hl => ?_)
    refine lv_aload_n hx hb dL_law_1521 rfl (lv_at hl 3 rfl) ?_
    refine lv_aload_n hx hb dL_law_1522 rfl (lv_at hl 5 rfl) ?_
    refine lv_iload hx hb dL_law_1523 (lv_at hl 1 rfl) ?_
    refine lv_iconst (v := 1) hx hb dL_law_1525 (by decide) ?_
    refine lv_iadd hx hb dL_law_1526 ?_
    refine lv_topi (fun x7 ex7 => ?_)
    obtain rfl : x7 = 1 := ex7.trans (by decide)
    refine va_sld hx hb hX hbl hbA hS (vp_in_nI (n := 1) (by decide) (by decide)) dL_law_1527 ?_
    refine lv_topi (fun sy8 esy8 => ?_)
    have hyy : sy2 = sy8 := esy2.trans esy8.symm
    subst hyy
    refine lv_aload_n hx hb dL_law_1528 rfl (lv_at hl 5 rfl) ?_
    refine lv_iload hx hb dL_law_1529 (lv_at hl 1 rfl) ?_
    refine lv_iconst (v := 2) hx hb dL_law_1531 (by decide) ?_
    refine lv_iadd hx hb dL_law_1532 ?_
    refine lv_topi (fun x9 ex9 => ?_)
    obtain rfl : x9 = 2 := ex9.trans (by decide)
    refine va_sld hx hb hX hbl hbA hS (vp_in_nI (n := 2) (by decide) (by decide)) dL_law_1533 ?_
    refine lv_topi (fun sy10 esy10 => ?_)
    have hyy : sy4 = sy10 := esy4.trans esy10.symm
    subst hyy
    have hPc := hP.sub (ws' := [(mo, .inr (13, fs)), (ra, .inl (tA, 2, .inl ((fun _ => 0))))]) [8, 9] rfl
    have hDc := hD.sub (ws' := [(mo, .inr (13, fs)), (ra, .inl (tA, 2, .inl ((fun _ => 0))))]) [8, 9] (by decide) rfl
    have hKc := hK.sub (tys' := [(tA, .int)]) [1] rfl
    have hFc := va_free (wc := [(mo, .inr (13, fs)), (ra, .inl (tA, 2, .inl ((fun _ => 0))))]) hD hS hA [8, 9] rfl
    refine va_calli (va_runV (As := [.int sy2, .int sy4]) (rest := []) ⟨hx, hb, hml, hown, ht⟩ (k_X12_standing l d0 cO dC dI H.size mo ra tA sy2 sy4 fs hlen hf_asked) (my_V ht M_X12_standing q2363 q2364 q2362 (Nat.le_of_ble_eq_true rfl) (Nat.le_of_ble_eq_true rfl)) ⟨PRE.fb, va_recv hK hP (ci := 13) (q0 := 8) rfl rfl, fun U hU hW => ⟨rfl, PRE.mk' hE hS hFc hPc hKc hDc U hU hW⟩⟩ rfl rfl hl.1 rfl (lv_room (Nat.le_of_ble_eq_true rfl)) dL_law_1534 ⟨(Nat.le_of_ble_eq_true rfl), (Nat.le_of_ble_eq_true rfl)⟩) hS (fun q _ h => hFc q h) hFc (fun r12 u11 t H1 locs htt hvm hw hB hz1 hk1 hS => ?_)
    obtain ⟨th213, rfl⟩ : ∃ z, z = u11 := ⟨_, rfl⟩
    try dsimp only at hw hB
    obtain ⟨fs214, hx_15, hP1, hK1, hD1⟩ := hB
    rw [htt] at hP1
    have hK1 := va_K.moved hvm.symm hK1
    obtain ⟨hP, hD⟩ := va_join (wr := [(h0, .inr (12, [.ref fi, tca, .ref ea, .ref sl, tmx, tsv])), (fi, .inr (5, [fna, fla, fv2, fv3, fv4, fv5, .int 0])), (ea, .inl (tE, 2, .inr (.inr (.inr (.inr fE))))), (e0, .inr (4, [.int ei0, ev0_1, ev0_2, ev0_3, ev0_4, ev0_5, ev0_6, .ref ak0])), (e1, .inr (4, [.int ei1, ev1_1, ev1_2, ev1_3, ev1_4, ev1_5, ev1_6, .ref ak1])), (ak0, .inr (0, [.int am0, ae0, .int 0])), (ak1, .inr (0, [.int am1, ae1, .int 0])), (sl, .inr (0, [.int sm, se, .int 0]))]) (w1 := [(mo, .inr (13, fs214))]) hP hD [8, 9] [0, 1, 2, 3, 4, 5, 6, 7] rfl rfl (by decide) (by decide) hk1 hFc hP1 hD1
    have hK := (hK.sub (tys' := [(tE, .object RX3), (tA, .int)]) [0, 1] rfl).app hK1
    generalize H1 = H at hP hS ⊢
    have hP : va_P (dC, dI) vwCl [(h0, .inr (12, [.ref fi, tca, .ref ea, .ref sl, tmx, tsv])), (fi, .inr (5, [fna, fla, fv2, fv3, fv4, fv5, .int 0])), (ea, .inl (tE, 2, .inr (.inr (.inr (.inr fE))))), (e0, .inr (4, [.int ei0, ev0_1, ev0_2, ev0_3, ev0_4, ev0_5, ev0_6, .ref ak0])), (e1, .inr (4, [.int ei1, ev1_1, ev1_2, ev1_3, ev1_4, ev1_5, ev1_6, .ref ak1])), (ak0, .inr (0, [.int am0, ae0, .int 0])), (ak1, .inr (0, [.int am1, ae1, .int 0])), (sl, .inr (0, [.int sm, se, .int 0])), (mo, .inr (13, fs214))] H := hP
    have hD : va_D A [(h0, .inr (12, [.ref fi, tca, .ref ea, .ref sl, tmx, tsv])), (fi, .inr (5, [fna, fla, fv2, fv3, fv4, fv5, .int 0])), (ea, .inl (tE, 2, .inr (.inr (.inr (.inr fE))))), (e0, .inr (4, [.int ei0, ev0_1, ev0_2, ev0_3, ev0_4, ev0_5, ev0_6, .ref ak0])), (e1, .inr (4, [.int ei1, ev1_1, ev1_2, ev1_3, ev1_4, ev1_5, ev1_6, .ref ak1])), (ak0, .inr (0, [.int am0, ae0, .int 0])), (ak1, .inr (0, [.int am1, ae1, .int 0])), (sl, .inr (0, [.int sm, se, .int 0])), (mo, .inr (13, fs214))] := hD
    have hK : va_K (dC, dI) vwCl [(tE, .object RX3), (tA, .int)] s := hK
    refine W.widen (k := 269) (n := 364945) (Nat.le_of_ble_eq_true rfl) (Nat.le_of_ble_eq_true rfl) ?_
    subst hw
    refine lv_istore (lv' := [(6, .int r12), (5, .int 1), (4, .int 0), (3, .ref out), (2, .ref mo), (1, .ref h0), (0, .ref b)]) hx hb dL_law_1537 hl (by decide) rfl (fun ls hl => ?_)
    refine lv_aload_n hx hb dL_law_1539 rfl (lv_at hl 4 rfl) ?_
    have hPc := hP.sub (ws' := [(mo, .inr (13, fs214))]) [8] rfl
    have hDc := hD.sub (ws' := [(mo, .inr (13, fs214))]) [8] (by decide) rfl
    have hKc := hK.sub (tys' := []) [] rfl
    have hFc := freeNil hS hA
    refine va_calli (va_runV (As := []) (rest := []) ⟨hx, hb, hml, hown, ht⟩ (k2_thrown l d0 cO dC dI H.size mo 1 fs214 hx_15) (my_V ht M_X12_thrown q1976 q1977 q1975 (Nat.le_of_ble_eq_true rfl) (Nat.le_of_ble_eq_true rfl)) ⟨PREp.fb, va_recv hK hP (ci := 13) (q0 := 8) rfl rfl, fun U hU hW => ⟨rfl, PREp.mk' hE hS hFc hPc hKc U hU hW⟩⟩ rfl rfl hl.1 rfl (lv_room (Nat.le_of_ble_eq_true rfl)) dL_law_1540 ⟨(Nat.le_of_ble_eq_true rfl), (Nat.le_of_ble_eq_true rfl)⟩) hS (fun q _ h => hFc q h) hFc (fun r17 u16 t H1 locs htt hvm hw hB hz1 hk1 hS => ?_)
    try dsimp only at hw hB
    have hP1 := hB
    have hP := keepAll hP hk1
    generalize H1 = H at hP hS ⊢
    have hP : va_P (dC, dI) vwCl [(h0, .inr (12, [.ref fi, tca, .ref ea, .ref sl, tmx, tsv])), (fi, .inr (5, [fna, fla, fv2, fv3, fv4, fv5, .int 0])), (ea, .inl (tE, 2, .inr (.inr (.inr (.inr fE))))), (e0, .inr (4, [.int ei0, ev0_1, ev0_2, ev0_3, ev0_4, ev0_5, ev0_6, .ref ak0])), (e1, .inr (4, [.int ei1, ev1_1, ev1_2, ev1_3, ev1_4, ev1_5, ev1_6, .ref ak1])), (ak0, .inr (0, [.int am0, ae0, .int 0])), (ak1, .inr (0, [.int am1, ae1, .int 0])), (sl, .inr (0, [.int sm, se, .int 0])), (mo, .inr (13, fs214))] H := hP
    have hD : va_D A [(h0, .inr (12, [.ref fi, tca, .ref ea, .ref sl, tmx, tsv])), (fi, .inr (5, [fna, fla, fv2, fv3, fv4, fv5, .int 0])), (ea, .inl (tE, 2, .inr (.inr (.inr (.inr fE))))), (e0, .inr (4, [.int ei0, ev0_1, ev0_2, ev0_3, ev0_4, ev0_5, ev0_6, .ref ak0])), (e1, .inr (4, [.int ei1, ev1_1, ev1_2, ev1_3, ev1_4, ev1_5, ev1_6, .ref ak1])), (ak0, .inr (0, [.int am0, ae0, .int 0])), (ak1, .inr (0, [.int am1, ae1, .int 0])), (sl, .inr (0, [.int sm, se, .int 0])), (mo, .inr (13, fs214))] := hD
    have hK : va_K (dC, dI) vwCl [(tE, .object RX3), (tA, .int)] s := hK
    refine W.widen (k := 269) (n := 364945) (Nat.le_of_ble_eq_true rfl) (Nat.le_of_ble_eq_true rfl) ?_
    subst hw
    refine lv_iload hx hb dL_law_1543 (lv_at hl 1 rfl) ?_
    refine lv_icmp_eq (tgt := 1550) hx hb dL_law_1545 (by decide) (fun c18 => ?_) (fun c18 => False.elim (by revert c18; decide))
    refine lv_iload hx hb dL_law_1550 (lv_at hl 1 rfl) ?_
    refine lv_if_ne (tgt := 1567) hx hb dL_law_1552 (by decide) (fun c19 => ?_) (fun c19 => False.elim (by revert c19; decide))
    refine lv_goto (tgt := 2038) hx hb dL_law_1567 (by decide) ?_
    refine lv_iinc (v := 8) (lv' := [(4, .int 8), (6, .int r12), (5, .int 1), (3, .ref out), (2, .ref mo), (1, .ref h0), (0, .ref b)]) hx hb dL_law_2038 hl (k := 2) rfl (by decide) (by decide) rfl (fun ls hl => ?_)
    refine lv_goto (tgt := 23) hx hb dL_law_2041 (by decide) ?_
    refine lv_iload hx hb dL_law_23 (lv_at hl 0 rfl) ?_
    refine lv_aload_n hx hb dL_law_25 rfl (lv_at hl 6 rfl) ?_
    refine va_slen hx hb hX hbl hbA hS dL_law_26 ?_
    refine W.eq (g2 := F0 m 27 ls [.int 8, .int 8]) rfl ?_
    refine lv_bipush (v := 8) hx hb dL_law_27 (by decide) ?_
    refine lv_isub hx hb dL_law_29 ?_
    refine lv_topi (fun x20 ex20 => ?_)
    obtain rfl : x20 = 0 := ex20.trans (by decide)
    refine lv_icmp_gt (tgt := 2044) hx hb dL_law_30 (by decide) (fun c21 => ?_) (fun c21 => False.elim (by revert c21; decide))
    refine lv_iconst (v := 1) hx hb dL_law_2044 (by decide) ?_
    refine W.widen (k := 600002) (n := 7302232) (Nat.le_of_ble_eq_true rfl) (Nat.le_of_ble_eq_true rfl) ?_
    refine va_forget (by have h := hS.2.2; rw [hAd] at h; exact h) ?_
    exact lw_ret hx hb hr hlocks dL_law_2045
set_option maxHeartbeats 4000000 in
set_option maxRecDepth 100000 in
theorem law_item (l : Launch) (hL : l.stackTraces = false) {p : Program} {e : Env} {s : State} {m : MethodId} {below : List Frame} {meth : Method} {c : Code} {b : Nat} {xs : Nat → Int32} {d0 : Nat} {cO : ClassId} {dC : Nat → ClassId} {dI : Nat → Nat → Nat} {H : Heap} {locs : List Loc} {ls : Array Slot} {h0 mo out : Nat} {ea sl : Nat} {tca tmx tsv : Value} {tE : ClassId} {fE : Nat → Option Nat} {sm : Int32} {se : Value} {fi : Nat} {fna fla fv2 fv3 fv4 fv5 : Value} {e0 ak0 : Nat} {ei0 am0 : Int32} {ev0_1 ev0_2 ev0_3 ev0_4 ev0_5 ev0_6 ae0 : Value} {e1 ak1 : Nat} {ei1 am1 : Int32} {ev1_1 ev1_2 ev1_3 ev1_4 ev1_5 ev1_6 ae1 : Value} {fs : List Value} {ra : Nat} {tA : ClassId} (hf0 : fE 0 = some e0) (hf1 : fE 1 = some e1) (hlen : fs.length = 75) (hf_asked : fs[27]? = some (.ref ra)) (C0 : lw_At p s m meth c b 8 xs) (hE : EN d0 cO (fun q : Nat => s.heap.size ≤ q) s s.heap) (hS : va_S (fun q : Nat => s.heap.size ≤ q) s.heap H locs) (hP : va_P (dC, dI) vwCl [(h0, .inr (12, [.ref fi, tca, .ref ea, .ref sl, tmx, tsv])), (fi, .inr (5, [fna, fla, fv2, fv3, fv4, fv5, .int 0])), (ea, .inl (tE, 2, .inr (.inr (.inr (.inr fE))))), (e0, .inr (4, [.int ei0, ev0_1, ev0_2, ev0_3, ev0_4, ev0_5, ev0_6, .ref ak0])), (e1, .inr (4, [.int ei1, ev1_1, ev1_2, ev1_3, ev1_4, ev1_5, ev1_6, .ref ak1])), (ak0, .inr (0, [.int am0, ae0, .int 0])), (ak1, .inr (0, [.int am1, ae1, .int 0])), (sl, .inr (0, [.int sm, se, .int 0])), (mo, .inr (13, fs)), (ra, .inl (tA, 2, .inl ((fun _ => 0))))] H) (hD : va_D (fun q : Nat => s.heap.size ≤ q) [(h0, .inr (12, [.ref fi, tca, .ref ea, .ref sl, tmx, tsv])), (fi, .inr (5, [fna, fla, fv2, fv3, fv4, fv5, .int 0])), (ea, .inl (tE, 2, .inr (.inr (.inr (.inr fE))))), (e0, .inr (4, [.int ei0, ev0_1, ev0_2, ev0_3, ev0_4, ev0_5, ev0_6, .ref ak0])), (e1, .inr (4, [.int ei1, ev1_1, ev1_2, ev1_3, ev1_4, ev1_5, ev1_6, .ref ak1])), (ak0, .inr (0, [.int am0, ae0, .int 0])), (ak1, .inr (0, [.int am1, ae1, .int 0])), (sl, .inr (0, [.int sm, se, .int 0])), (mo, .inr (13, fs)), (ra, .inl (tA, 2, .inl ((fun _ => 0))))]) (hK : va_K (dC, dI) vwCl [(tE, .object RX3), (tA, .int)] s) (hl : lv_has ls 7 [(4, .int 0), (3, .ref out), (2, .ref mo), (1, .ref h0), (0, .ref b)]) : W p l e room_1 s m #[Value.ref b] below meth c H locs 267 364933 (lw_Z below #[Value.ref b] s) (F0 m 1570 ls []) := by
  obtain ⟨hx, hb, hr, hml, hown0, hts, hX, hbl, hlocks, hgv⟩ := id C0
  have hown : s.vm.findClass RL = some m.cls := hown0
  have ht : ∀ w ∈ GT, w.before #[Value.ref b] s = true := fun w h => hts w (gt_tbl h)
  obtain ⟨A, hAd⟩ : ∃ A : Nat → Prop, A = (fun q : Nat => s.heap.size ≤ q) := ⟨_, rfl⟩
  rw [← hAd] at hE hS hD
  have hA : ∀ q : Nat, s.heap.size ≤ q → A q := fun q h => by rw [hAd]; exact h
  have hbA : ¬ A b := by rw [hAd]; exact Nat.not_le.mpr hbl
  refine lv_aload_n hx hb dL_law_1570 rfl (lv_at hl 3 rfl) ?_
  refine lv_aload_n hx hb dL_law_1571 rfl (lv_at hl 4 rfl) ?_
  refine lv_iload hx hb dL_law_1572 (lv_at hl 0 rfl) ?_
  refine lv_iconst (v := 1) hx hb dL_law_1574 (by decide) ?_
  refine lv_iadd hx hb dL_law_1575 ?_
  refine lv_topi (fun x1 ex1 => ?_)
  obtain rfl : x1 = 1 := ex1.trans (by decide)
  refine va_sld hx hb hX hbl hbA hS (vp_in_nI (n := 1) (by decide) (by decide)) dL_law_1576 ?_
  refine lv_topi (fun sy2 esy2 => ?_)
  refine lv_aload_n hx hb dL_law_1577 rfl (lv_at hl 4 rfl) ?_
  refine lv_iload hx hb dL_law_1578 (lv_at hl 0 rfl) ?_
  refine lv_iconst (v := 2) hx hb dL_law_1580 (by decide) ?_
  refine lv_iadd hx hb dL_law_1581 ?_
  refine lv_topi (fun x3 ex3 => ?_)
  obtain rfl : x3 = 2 := ex3.trans (by decide)
  refine va_sld hx hb hX hbl hbA hS (vp_in_nI (n := 2) (by decide) (by decide)) dL_law_1582 ?_
  refine lv_topi (fun sy4 esy4 => ?_)
  refine lv_aload_n hx hb dL_law_1583 rfl (lv_at hl 4 rfl) ?_
  refine lv_iload hx hb dL_law_1584 (lv_at hl 0 rfl) ?_
  refine lv_iconst (v := 3) hx hb dL_law_1586 (by decide) ?_
  refine lv_iadd hx hb dL_law_1587 ?_
  refine lv_topi (fun x5 ex5 => ?_)
  obtain rfl : x5 = 3 := ex5.trans (by decide)
  refine va_sld hx hb hX hbl hbA hS (vp_in_nI (n := 3) (by decide) (by decide)) dL_law_1588 ?_
  refine lv_topi (fun sy6 esy6 => ?_)
  refine lv_aload_n hx hb dL_law_1589 rfl (lv_at hl 1 rfl) ?_
  have hPc := hP.sub (ws' := [(h0, .inr (12, [.ref fi, tca, .ref ea, .ref sl, tmx, tsv])), (fi, .inr (5, [fna, fla, fv2, fv3, fv4, fv5, .int 0])), (ea, .inl (tE, 2, .inr (.inr (.inr (.inr fE))))), (e0, .inr (4, [.int ei0, ev0_1, ev0_2, ev0_3, ev0_4, ev0_5, ev0_6, .ref ak0])), (e1, .inr (4, [.int ei1, ev1_1, ev1_2, ev1_3, ev1_4, ev1_5, ev1_6, .ref ak1])), (ak0, .inr (0, [.int am0, ae0, .int 0])), (ak1, .inr (0, [.int am1, ae1, .int 0])), (sl, .inr (0, [.int sm, se, .int 0]))]) [0, 1, 2, 3, 4, 5, 6, 7] rfl
  have hDc := hD.sub (ws' := [(h0, .inr (12, [.ref fi, tca, .ref ea, .ref sl, tmx, tsv])), (fi, .inr (5, [fna, fla, fv2, fv3, fv4, fv5, .int 0])), (ea, .inl (tE, 2, .inr (.inr (.inr (.inr fE))))), (e0, .inr (4, [.int ei0, ev0_1, ev0_2, ev0_3, ev0_4, ev0_5, ev0_6, .ref ak0])), (e1, .inr (4, [.int ei1, ev1_1, ev1_2, ev1_3, ev1_4, ev1_5, ev1_6, .ref ak1])), (ak0, .inr (0, [.int am0, ae0, .int 0])), (ak1, .inr (0, [.int am1, ae1, .int 0])), (sl, .inr (0, [.int sm, se, .int 0]))]) [0, 1, 2, 3, 4, 5, 6, 7] (by decide) rfl
  have hKc := hK.sub (tys' := [(tE, .object RX3)]) [0] rfl
  have hFc := freeNil hS hA
  refine vx_calli (vx_runSX (As := [.ref h0, .int sy2, .int sy4, .int sy6, .ref out]) (rest := []) ⟨hx, hb, hml, hown, ht⟩ (k_L_item l hL d0 cO dC dI H.size h0 ea sl tca tmx tsv tE fE sm se fi fna fla fv2 fv3 fv4 fv5 e0 ak0 ei0 am0 ev0_1 ev0_2 ev0_3 ev0_4 ev0_5 ev0_6 ae0 e1 ak1 ei1 am1 ev1_1 ev1_2 ev1_3 ev1_4 ev1_5 ev1_6 ae1 hf0 hf1 sy2 sy4 sy6 out) (my_SW ht M_L_item q1681 q1680 (Nat.le_of_ble_eq_true rfl) (Nat.le_of_ble_eq_true rfl)) ⟨PREp.fb, fun U hU hW => ⟨rfl, PREp.mk' hE hS hFc hPc hKc U hU hW⟩⟩ rfl rfl hl.1 rfl (lv_room (Nat.le_of_ble_eq_true rfl)) dL_law_1590 ⟨(Nat.le_of_ble_eq_true rfl), (Nat.le_of_ble_eq_true rfl)⟩) hS (fun q _ h => hFc q h) hFc (fun q _ h => hFc q h) (fun E ce q9 ux t H1 locs htt hvm hw hB hz1 hk1 hS hcell hv9 hcl9 => ?_) (fun r8 u7 t H1 locs htt hvm hw hB hz1 hk1 hS => ?_)
  · skip
    exact hB.elim
  · skip
    try dsimp only at hw hB
    have hP1 := hB
    have hP := keepAll hP hk1
    generalize H1 = H at hP hS ⊢
    have hP : va_P (dC, dI) vwCl [(h0, .inr (12, [.ref fi, tca, .ref ea, .ref sl, tmx, tsv])), (fi, .inr (5, [fna, fla, fv2, fv3, fv4, fv5, .int 0])), (ea, .inl (tE, 2, .inr (.inr (.inr (.inr fE))))), (e0, .inr (4, [.int ei0, ev0_1, ev0_2, ev0_3, ev0_4, ev0_5, ev0_6, .ref ak0])), (e1, .inr (4, [.int ei1, ev1_1, ev1_2, ev1_3, ev1_4, ev1_5, ev1_6, .ref ak1])), (ak0, .inr (0, [.int am0, ae0, .int 0])), (ak1, .inr (0, [.int am1, ae1, .int 0])), (sl, .inr (0, [.int sm, se, .int 0])), (mo, .inr (13, fs)), (ra, .inl (tA, 2, .inl ((fun _ => 0))))] H := hP
    have hD : va_D A [(h0, .inr (12, [.ref fi, tca, .ref ea, .ref sl, tmx, tsv])), (fi, .inr (5, [fna, fla, fv2, fv3, fv4, fv5, .int 0])), (ea, .inl (tE, 2, .inr (.inr (.inr (.inr fE))))), (e0, .inr (4, [.int ei0, ev0_1, ev0_2, ev0_3, ev0_4, ev0_5, ev0_6, .ref ak0])), (e1, .inr (4, [.int ei1, ev1_1, ev1_2, ev1_3, ev1_4, ev1_5, ev1_6, .ref ak1])), (ak0, .inr (0, [.int am0, ae0, .int 0])), (ak1, .inr (0, [.int am1, ae1, .int 0])), (sl, .inr (0, [.int sm, se, .int 0])), (mo, .inr (13, fs)), (ra, .inl (tA, 2, .inl ((fun _ => 0))))] := hD
    have hK : va_K (dC, dI) vwCl [(tE, .object RX3), (tA, .int)] s := hK
    refine W.widen (k := 269) (n := 364945) (Nat.le_of_ble_eq_true rfl) (Nat.le_of_ble_eq_true rfl) ?_
    subst hw
    refine lv_istore (lv' := [(5, .int 1), (4, .int 0), (3, .ref out), (2, .ref mo), (1, .ref h0), (0, .ref b)]) hx hb dL_law_1593 hl (by decide) rfl (fun ls hl => ?_)
    refine lv_aload_n hx hb dL_law_1595 rfl (lv_at hl 3 rfl) ?_
    refine lv_aload_n hx hb dL_law_1596 rfl (lv_at hl 5 rfl) ?_
    refine lv_iload hx hb dL_law_1597 (lv_at hl 1 rfl) ?_
    refine lv_iconst (v := 1) hx hb dL_law_1599 (by decide) ?_
    refine lv_iadd hx hb dL_law_1600 ?_
    refine lv_topi (fun x9 ex9 => ?_)
    obtain rfl : x9 = 1 := ex9.trans (by decide)
    refine va_sld hx hb hX hbl hbA hS (vp_in_nI (n := 1) (by decide) (by decide)) dL_law_1601 ?_
    refine lv_topi (fun sy10 esy10 => ?_)
    have hyy : sy2 = sy10 := esy2.trans esy10.symm
    subst hyy
    refine lv_aload_n hx hb dL_law_1602 rfl (lv_at hl 5 rfl) ?_
    refine lv_iload hx hb dL_law_1603 (lv_at hl 1 rfl) ?_
    refine lv_iconst (v := 2) hx hb dL_law_1605 (by decide) ?_
    refine lv_iadd hx hb dL_law_1606 ?_
    refine lv_topi (fun x11 ex11 => ?_)
    obtain rfl : x11 = 2 := ex11.trans (by decide)
    refine va_sld hx hb hX hbl hbA hS (vp_in_nI (n := 2) (by decide) (by decide)) dL_law_1607 ?_
    refine lv_topi (fun sy12 esy12 => ?_)
    have hyy : sy4 = sy12 := esy4.trans esy12.symm
    subst hyy
    refine lv_aload_n hx hb dL_law_1608 rfl (lv_at hl 5 rfl) ?_
    refine lv_iload hx hb dL_law_1609 (lv_at hl 1 rfl) ?_
    refine lv_iconst (v := 3) hx hb dL_law_1611 (by decide) ?_
    refine lv_iadd hx hb dL_law_1612 ?_
    refine lv_topi (fun x13 ex13 => ?_)
    obtain rfl : x13 = 3 := ex13.trans (by decide)
    refine va_sld hx hb hX hbl hbA hS (vp_in_nI (n := 3) (by decide) (by decide)) dL_law_1613 ?_
    refine lv_topi (fun sy14 esy14 => ?_)
    have hyy : sy6 = sy14 := esy6.trans esy14.symm
    subst hyy
    have hPc := hP.sub (ws' := [(mo, .inr (13, fs)), (ra, .inl (tA, 2, .inl ((fun _ => 0))))]) [8, 9] rfl
    have hDc := hD.sub (ws' := [(mo, .inr (13, fs)), (ra, .inl (tA, 2, .inl ((fun _ => 0))))]) [8, 9] (by decide) rfl
    have hKc := hK.sub (tys' := [(tA, .int)]) [1] rfl
    have hFc := va_free (wc := [(mo, .inr (13, fs)), (ra, .inl (tA, 2, .inl ((fun _ => 0))))]) hD hS hA [8, 9] rfl
    refine va_calli (va_runV (As := [.int sy2, .int sy4, .int sy6]) (rest := []) ⟨hx, hb, hml, hown, ht⟩ (k_X12_item l d0 cO dC dI H.size mo ra tA sy2 sy4 sy6 fs hlen hf_asked) (my_V ht M_X12_item q2367 q2368 q2366 (Nat.le_of_ble_eq_true rfl) (Nat.le_of_ble_eq_true rfl)) ⟨PRE.fb, va_recv hK hP (ci := 13) (q0 := 8) rfl rfl, fun U hU hW => ⟨rfl, PRE.mk' hE hS hFc hPc hKc hDc U hU hW⟩⟩ rfl rfl hl.1 rfl (lv_room (Nat.le_of_ble_eq_true rfl)) dL_law_1614 ⟨(Nat.le_of_ble_eq_true rfl), (Nat.le_of_ble_eq_true rfl)⟩) hS (fun q _ h => hFc q h) hFc (fun r16 u15 t H1 locs htt hvm hw hB hz1 hk1 hS => ?_)
    obtain ⟨th217, rfl⟩ : ∃ z, z = u15 := ⟨_, rfl⟩
    try dsimp only at hw hB
    obtain ⟨fs218, hx_19, hP1, hK1, hD1⟩ := hB
    rw [htt] at hP1
    have hK1 := va_K.moved hvm.symm hK1
    obtain ⟨hP, hD⟩ := va_join (wr := [(h0, .inr (12, [.ref fi, tca, .ref ea, .ref sl, tmx, tsv])), (fi, .inr (5, [fna, fla, fv2, fv3, fv4, fv5, .int 0])), (ea, .inl (tE, 2, .inr (.inr (.inr (.inr fE))))), (e0, .inr (4, [.int ei0, ev0_1, ev0_2, ev0_3, ev0_4, ev0_5, ev0_6, .ref ak0])), (e1, .inr (4, [.int ei1, ev1_1, ev1_2, ev1_3, ev1_4, ev1_5, ev1_6, .ref ak1])), (ak0, .inr (0, [.int am0, ae0, .int 0])), (ak1, .inr (0, [.int am1, ae1, .int 0])), (sl, .inr (0, [.int sm, se, .int 0]))]) (w1 := [(mo, .inr (13, fs218))]) hP hD [8, 9] [0, 1, 2, 3, 4, 5, 6, 7] rfl rfl (by decide) (by decide) hk1 hFc hP1 hD1
    have hK := (hK.sub (tys' := [(tE, .object RX3), (tA, .int)]) [0, 1] rfl).app hK1
    generalize H1 = H at hP hS ⊢
    have hP : va_P (dC, dI) vwCl [(h0, .inr (12, [.ref fi, tca, .ref ea, .ref sl, tmx, tsv])), (fi, .inr (5, [fna, fla, fv2, fv3, fv4, fv5, .int 0])), (ea, .inl (tE, 2, .inr (.inr (.inr (.inr fE))))), (e0, .inr (4, [.int ei0, ev0_1, ev0_2, ev0_3, ev0_4, ev0_5, ev0_6, .ref ak0])), (e1, .inr (4, [.int ei1, ev1_1, ev1_2, ev1_3, ev1_4, ev1_5, ev1_6, .ref ak1])), (ak0, .inr (0, [.int am0, ae0, .int 0])), (ak1, .inr (0, [.int am1, ae1, .int 0])), (sl, .inr (0, [.int sm, se, .int 0])), (mo, .inr (13, fs218))] H := hP
    have hD : va_D A [(h0, .inr (12, [.ref fi, tca, .ref ea, .ref sl, tmx, tsv])), (fi, .inr (5, [fna, fla, fv2, fv3, fv4, fv5, .int 0])), (ea, .inl (tE, 2, .inr (.inr (.inr (.inr fE))))), (e0, .inr (4, [.int ei0, ev0_1, ev0_2, ev0_3, ev0_4, ev0_5, ev0_6, .ref ak0])), (e1, .inr (4, [.int ei1, ev1_1, ev1_2, ev1_3, ev1_4, ev1_5, ev1_6, .ref ak1])), (ak0, .inr (0, [.int am0, ae0, .int 0])), (ak1, .inr (0, [.int am1, ae1, .int 0])), (sl, .inr (0, [.int sm, se, .int 0])), (mo, .inr (13, fs218))] := hD
    have hK : va_K (dC, dI) vwCl [(tE, .object RX3), (tA, .int)] s := hK
    refine W.widen (k := 269) (n := 364945) (Nat.le_of_ble_eq_true rfl) (Nat.le_of_ble_eq_true rfl) ?_
    subst hw
    refine lv_istore (lv' := [(6, .int r16), (5, .int 1), (4, .int 0), (3, .ref out), (2, .ref mo), (1, .ref h0), (0, .ref b)]) hx hb dL_law_1617 hl (by decide) rfl (fun ls hl => ?_)
    refine lv_aload_n hx hb dL_law_1619 rfl (lv_at hl 4 rfl) ?_
    have hPc := hP.sub (ws' := [(mo, .inr (13, fs218))]) [8] rfl
    have hDc := hD.sub (ws' := [(mo, .inr (13, fs218))]) [8] (by decide) rfl
    have hKc := hK.sub (tys' := []) [] rfl
    have hFc := freeNil hS hA
    refine va_calli (va_runV (As := []) (rest := []) ⟨hx, hb, hml, hown, ht⟩ (k2_thrown l d0 cO dC dI H.size mo 1 fs218 hx_19) (my_V ht M_X12_thrown q1976 q1977 q1975 (Nat.le_of_ble_eq_true rfl) (Nat.le_of_ble_eq_true rfl)) ⟨PREp.fb, va_recv hK hP (ci := 13) (q0 := 8) rfl rfl, fun U hU hW => ⟨rfl, PREp.mk' hE hS hFc hPc hKc U hU hW⟩⟩ rfl rfl hl.1 rfl (lv_room (Nat.le_of_ble_eq_true rfl)) dL_law_1620 ⟨(Nat.le_of_ble_eq_true rfl), (Nat.le_of_ble_eq_true rfl)⟩) hS (fun q _ h => hFc q h) hFc (fun r21 u20 t H1 locs htt hvm hw hB hz1 hk1 hS => ?_)
    try dsimp only at hw hB
    have hP1 := hB
    have hP := keepAll hP hk1
    generalize H1 = H at hP hS ⊢
    have hP : va_P (dC, dI) vwCl [(h0, .inr (12, [.ref fi, tca, .ref ea, .ref sl, tmx, tsv])), (fi, .inr (5, [fna, fla, fv2, fv3, fv4, fv5, .int 0])), (ea, .inl (tE, 2, .inr (.inr (.inr (.inr fE))))), (e0, .inr (4, [.int ei0, ev0_1, ev0_2, ev0_3, ev0_4, ev0_5, ev0_6, .ref ak0])), (e1, .inr (4, [.int ei1, ev1_1, ev1_2, ev1_3, ev1_4, ev1_5, ev1_6, .ref ak1])), (ak0, .inr (0, [.int am0, ae0, .int 0])), (ak1, .inr (0, [.int am1, ae1, .int 0])), (sl, .inr (0, [.int sm, se, .int 0])), (mo, .inr (13, fs218))] H := hP
    have hD : va_D A [(h0, .inr (12, [.ref fi, tca, .ref ea, .ref sl, tmx, tsv])), (fi, .inr (5, [fna, fla, fv2, fv3, fv4, fv5, .int 0])), (ea, .inl (tE, 2, .inr (.inr (.inr (.inr fE))))), (e0, .inr (4, [.int ei0, ev0_1, ev0_2, ev0_3, ev0_4, ev0_5, ev0_6, .ref ak0])), (e1, .inr (4, [.int ei1, ev1_1, ev1_2, ev1_3, ev1_4, ev1_5, ev1_6, .ref ak1])), (ak0, .inr (0, [.int am0, ae0, .int 0])), (ak1, .inr (0, [.int am1, ae1, .int 0])), (sl, .inr (0, [.int sm, se, .int 0])), (mo, .inr (13, fs218))] := hD
    have hK : va_K (dC, dI) vwCl [(tE, .object RX3), (tA, .int)] s := hK
    refine W.widen (k := 269) (n := 364945) (Nat.le_of_ble_eq_true rfl) (Nat.le_of_ble_eq_true rfl) ?_
    subst hw
    refine lv_iload hx hb dL_law_1623 (lv_at hl 1 rfl) ?_
    refine lv_icmp_eq (tgt := 1630) hx hb dL_law_1625 (by decide) (fun c22 => ?_) (fun c22 => False.elim (by revert c22; decide))
    refine lv_iload hx hb dL_law_1630 (lv_at hl 1 rfl) ?_
    refine lv_if_ne (tgt := 1647) hx hb dL_law_1632 (by decide) (fun c23 => ?_) (fun c23 => False.elim (by revert c23; decide))
    refine lv_goto (tgt := 2038) hx hb dL_law_1647 (by decide) ?_
    refine lv_iinc (v := 8) (lv' := [(4, .int 8), (6, .int r16), (5, .int 1), (3, .ref out), (2, .ref mo), (1, .ref h0), (0, .ref b)]) hx hb dL_law_2038 hl (k := 2) rfl (by decide) (by decide) rfl (fun ls hl => ?_)
    refine lv_goto (tgt := 23) hx hb dL_law_2041 (by decide) ?_
    refine lv_iload hx hb dL_law_23 (lv_at hl 0 rfl) ?_
    refine lv_aload_n hx hb dL_law_25 rfl (lv_at hl 6 rfl) ?_
    refine va_slen hx hb hX hbl hbA hS dL_law_26 ?_
    refine W.eq (g2 := F0 m 27 ls [.int 8, .int 8]) rfl ?_
    refine lv_bipush (v := 8) hx hb dL_law_27 (by decide) ?_
    refine lv_isub hx hb dL_law_29 ?_
    refine lv_topi (fun x24 ex24 => ?_)
    obtain rfl : x24 = 0 := ex24.trans (by decide)
    refine lv_icmp_gt (tgt := 2044) hx hb dL_law_30 (by decide) (fun c25 => ?_) (fun c25 => False.elim (by revert c25; decide))
    refine lv_iconst (v := 1) hx hb dL_law_2044 (by decide) ?_
    refine W.widen (k := 600002) (n := 7302232) (Nat.le_of_ble_eq_true rfl) (Nat.le_of_ble_eq_true rfl) ?_
    refine va_forget (by have h := hS.2.2; rw [hAd] at h; exact h) ?_
    exact lw_ret hx hb hr hlocks dL_law_2045
set_option maxHeartbeats 4000000 in
set_option maxRecDepth 100000 in
theorem law_value (l : Launch) (hL : l.stackTraces = false) {p : Program} {e : Env} {s : State} {m : MethodId} {below : List Frame} {meth : Method} {c : Code} {b : Nat} {xs : Nat → Int32} {d0 : Nat} {cO : ClassId} {dC : Nat → ClassId} {dI : Nat → Nat → Nat} {H : Heap} {locs : List Loc} {ls : Array Slot} {h0 mo out : Nat} {ea sl : Nat} {tca tmx tsv : Value} {tE : ClassId} {fE : Nat → Option Nat} {sm : Int32} {se : Value} {fi : Nat} {fna fla fv2 fv3 fv4 fv5 : Value} {e0 ak0 : Nat} {ei0 am0 : Int32} {ev0_1 ev0_2 ev0_3 ev0_4 ev0_5 ev0_6 ae0 : Value} {e1 ak1 : Nat} {ei1 am1 : Int32} {ev1_1 ev1_2 ev1_3 ev1_4 ev1_5 ev1_6 ae1 : Value} {fs : List Value} {ra : Nat} {tA : ClassId} (hf0 : fE 0 = some e0) (hf1 : fE 1 = some e1) (hlen : fs.length = 75) (hf_asked : fs[27]? = some (.ref ra)) (C0 : lw_At p s m meth c b 8 xs) (hE : EN d0 cO (fun q : Nat => s.heap.size ≤ q) s s.heap) (hS : va_S (fun q : Nat => s.heap.size ≤ q) s.heap H locs) (hP : va_P (dC, dI) vwCl [(h0, .inr (12, [.ref fi, tca, .ref ea, .ref sl, tmx, tsv])), (fi, .inr (5, [fna, fla, fv2, fv3, fv4, fv5, .int 0])), (ea, .inl (tE, 2, .inr (.inr (.inr (.inr fE))))), (e0, .inr (4, [.int ei0, ev0_1, ev0_2, ev0_3, ev0_4, ev0_5, ev0_6, .ref ak0])), (e1, .inr (4, [.int ei1, ev1_1, ev1_2, ev1_3, ev1_4, ev1_5, ev1_6, .ref ak1])), (ak0, .inr (0, [.int am0, ae0, .int 0])), (ak1, .inr (0, [.int am1, ae1, .int 0])), (sl, .inr (0, [.int sm, se, .int 0])), (mo, .inr (13, fs)), (ra, .inl (tA, 2, .inl ((fun _ => 0))))] H) (hD : va_D (fun q : Nat => s.heap.size ≤ q) [(h0, .inr (12, [.ref fi, tca, .ref ea, .ref sl, tmx, tsv])), (fi, .inr (5, [fna, fla, fv2, fv3, fv4, fv5, .int 0])), (ea, .inl (tE, 2, .inr (.inr (.inr (.inr fE))))), (e0, .inr (4, [.int ei0, ev0_1, ev0_2, ev0_3, ev0_4, ev0_5, ev0_6, .ref ak0])), (e1, .inr (4, [.int ei1, ev1_1, ev1_2, ev1_3, ev1_4, ev1_5, ev1_6, .ref ak1])), (ak0, .inr (0, [.int am0, ae0, .int 0])), (ak1, .inr (0, [.int am1, ae1, .int 0])), (sl, .inr (0, [.int sm, se, .int 0])), (mo, .inr (13, fs)), (ra, .inl (tA, 2, .inl ((fun _ => 0))))]) (hK : va_K (dC, dI) vwCl [(tE, .object RX3), (tA, .int)] s) (hl : lv_has ls 7 [(4, .int 0), (3, .ref out), (2, .ref mo), (1, .ref h0), (0, .ref b)]) : W p l e room_1 s m #[Value.ref b] below meth c H locs 267 364933 (lw_Z below #[Value.ref b] s) (F0 m 1650 ls []) := by
  obtain ⟨hx, hb, hr, hml, hown0, hts, hX, hbl, hlocks, hgv⟩ := id C0
  have hown : s.vm.findClass RL = some m.cls := hown0
  have ht : ∀ w ∈ GT, w.before #[Value.ref b] s = true := fun w h => hts w (gt_tbl h)
  obtain ⟨A, hAd⟩ : ∃ A : Nat → Prop, A = (fun q : Nat => s.heap.size ≤ q) := ⟨_, rfl⟩
  rw [← hAd] at hE hS hD
  have hA : ∀ q : Nat, s.heap.size ≤ q → A q := fun q h => by rw [hAd]; exact h
  have hbA : ¬ A b := by rw [hAd]; exact Nat.not_le.mpr hbl
  refine lv_aload_n hx hb dL_law_1650 rfl (lv_at hl 3 rfl) ?_
  refine lv_aload_n hx hb dL_law_1651 rfl (lv_at hl 4 rfl) ?_
  refine lv_iload hx hb dL_law_1652 (lv_at hl 0 rfl) ?_
  refine lv_iconst (v := 1) hx hb dL_law_1654 (by decide) ?_
  refine lv_iadd hx hb dL_law_1655 ?_
  refine lv_topi (fun x1 ex1 => ?_)
  obtain rfl : x1 = 1 := ex1.trans (by decide)
  refine va_sld hx hb hX hbl hbA hS (vp_in_nI (n := 1) (by decide) (by decide)) dL_law_1656 ?_
  refine lv_topi (fun sy2 esy2 => ?_)
  refine lv_aload_n hx hb dL_law_1657 rfl (lv_at hl 4 rfl) ?_
  refine lv_iload hx hb dL_law_1658 (lv_at hl 0 rfl) ?_
  refine lv_iconst (v := 2) hx hb dL_law_1660 (by decide) ?_
  refine lv_iadd hx hb dL_law_1661 ?_
  refine lv_topi (fun x3 ex3 => ?_)
  obtain rfl : x3 = 2 := ex3.trans (by decide)
  refine va_sld hx hb hX hbl hbA hS (vp_in_nI (n := 2) (by decide) (by decide)) dL_law_1662 ?_
  refine lv_topi (fun sy4 esy4 => ?_)
  refine lv_aload_n hx hb dL_law_1663 rfl (lv_at hl 4 rfl) ?_
  refine lv_iload hx hb dL_law_1664 (lv_at hl 0 rfl) ?_
  refine lv_iconst (v := 3) hx hb dL_law_1666 (by decide) ?_
  refine lv_iadd hx hb dL_law_1667 ?_
  refine lv_topi (fun x5 ex5 => ?_)
  obtain rfl : x5 = 3 := ex5.trans (by decide)
  refine va_sld hx hb hX hbl hbA hS (vp_in_nI (n := 3) (by decide) (by decide)) dL_law_1668 ?_
  refine lv_topi (fun sy6 esy6 => ?_)
  refine lv_aload_n hx hb dL_law_1669 rfl (lv_at hl 1 rfl) ?_
  have hPc := hP.sub (ws' := [(h0, .inr (12, [.ref fi, tca, .ref ea, .ref sl, tmx, tsv])), (fi, .inr (5, [fna, fla, fv2, fv3, fv4, fv5, .int 0])), (ea, .inl (tE, 2, .inr (.inr (.inr (.inr fE))))), (e0, .inr (4, [.int ei0, ev0_1, ev0_2, ev0_3, ev0_4, ev0_5, ev0_6, .ref ak0])), (e1, .inr (4, [.int ei1, ev1_1, ev1_2, ev1_3, ev1_4, ev1_5, ev1_6, .ref ak1])), (ak0, .inr (0, [.int am0, ae0, .int 0])), (ak1, .inr (0, [.int am1, ae1, .int 0])), (sl, .inr (0, [.int sm, se, .int 0]))]) [0, 1, 2, 3, 4, 5, 6, 7] rfl
  have hDc := hD.sub (ws' := [(h0, .inr (12, [.ref fi, tca, .ref ea, .ref sl, tmx, tsv])), (fi, .inr (5, [fna, fla, fv2, fv3, fv4, fv5, .int 0])), (ea, .inl (tE, 2, .inr (.inr (.inr (.inr fE))))), (e0, .inr (4, [.int ei0, ev0_1, ev0_2, ev0_3, ev0_4, ev0_5, ev0_6, .ref ak0])), (e1, .inr (4, [.int ei1, ev1_1, ev1_2, ev1_3, ev1_4, ev1_5, ev1_6, .ref ak1])), (ak0, .inr (0, [.int am0, ae0, .int 0])), (ak1, .inr (0, [.int am1, ae1, .int 0])), (sl, .inr (0, [.int sm, se, .int 0]))]) [0, 1, 2, 3, 4, 5, 6, 7] (by decide) rfl
  have hKc := hK.sub (tys' := [(tE, .object RX3)]) [0] rfl
  have hFc := freeNil hS hA
  refine vx_calli (vx_runSX (As := [.ref h0, .int sy2, .int sy4, .int sy6, .ref out]) (rest := []) ⟨hx, hb, hml, hown, ht⟩ (k_L_value l hL d0 cO dC dI H.size h0 ea sl tca tmx tsv tE fE sm se fi fna fla fv2 fv3 fv4 fv5 e0 ak0 ei0 am0 ev0_1 ev0_2 ev0_3 ev0_4 ev0_5 ev0_6 ae0 e1 ak1 ei1 am1 ev1_1 ev1_2 ev1_3 ev1_4 ev1_5 ev1_6 ae1 hf0 hf1 sy2 sy4 sy6 out) (my_SW ht M_L_value q1697 q1696 (Nat.le_of_ble_eq_true rfl) (Nat.le_of_ble_eq_true rfl)) ⟨PREp.fb, fun U hU hW => ⟨rfl, PREp.mk' hE hS hFc hPc hKc U hU hW⟩⟩ rfl rfl hl.1 rfl (lv_room (Nat.le_of_ble_eq_true rfl)) dL_law_1670 ⟨(Nat.le_of_ble_eq_true rfl), (Nat.le_of_ble_eq_true rfl)⟩) hS (fun q _ h => hFc q h) hFc (fun q _ h => hFc q h) (fun E ce q9 ux t H1 locs htt hvm hw hB hz1 hk1 hS hcell hv9 hcl9 => ?_) (fun r8 u7 t H1 locs htt hvm hw hB hz1 hk1 hS => ?_)
  · skip
    exact hB.elim
  · skip
    try dsimp only at hw hB
    have hP1 := hB
    have hP := keepAll hP hk1
    generalize H1 = H at hP hS ⊢
    have hP : va_P (dC, dI) vwCl [(h0, .inr (12, [.ref fi, tca, .ref ea, .ref sl, tmx, tsv])), (fi, .inr (5, [fna, fla, fv2, fv3, fv4, fv5, .int 0])), (ea, .inl (tE, 2, .inr (.inr (.inr (.inr fE))))), (e0, .inr (4, [.int ei0, ev0_1, ev0_2, ev0_3, ev0_4, ev0_5, ev0_6, .ref ak0])), (e1, .inr (4, [.int ei1, ev1_1, ev1_2, ev1_3, ev1_4, ev1_5, ev1_6, .ref ak1])), (ak0, .inr (0, [.int am0, ae0, .int 0])), (ak1, .inr (0, [.int am1, ae1, .int 0])), (sl, .inr (0, [.int sm, se, .int 0])), (mo, .inr (13, fs)), (ra, .inl (tA, 2, .inl ((fun _ => 0))))] H := hP
    have hD : va_D A [(h0, .inr (12, [.ref fi, tca, .ref ea, .ref sl, tmx, tsv])), (fi, .inr (5, [fna, fla, fv2, fv3, fv4, fv5, .int 0])), (ea, .inl (tE, 2, .inr (.inr (.inr (.inr fE))))), (e0, .inr (4, [.int ei0, ev0_1, ev0_2, ev0_3, ev0_4, ev0_5, ev0_6, .ref ak0])), (e1, .inr (4, [.int ei1, ev1_1, ev1_2, ev1_3, ev1_4, ev1_5, ev1_6, .ref ak1])), (ak0, .inr (0, [.int am0, ae0, .int 0])), (ak1, .inr (0, [.int am1, ae1, .int 0])), (sl, .inr (0, [.int sm, se, .int 0])), (mo, .inr (13, fs)), (ra, .inl (tA, 2, .inl ((fun _ => 0))))] := hD
    have hK : va_K (dC, dI) vwCl [(tE, .object RX3), (tA, .int)] s := hK
    refine W.widen (k := 269) (n := 364945) (Nat.le_of_ble_eq_true rfl) (Nat.le_of_ble_eq_true rfl) ?_
    subst hw
    refine lv_istore (lv' := [(5, .int 1), (4, .int 0), (3, .ref out), (2, .ref mo), (1, .ref h0), (0, .ref b)]) hx hb dL_law_1673 hl (by decide) rfl (fun ls hl => ?_)
    refine lv_aload_n hx hb dL_law_1675 rfl (lv_at hl 3 rfl) ?_
    refine lv_aload_n hx hb dL_law_1676 rfl (lv_at hl 5 rfl) ?_
    refine lv_iload hx hb dL_law_1677 (lv_at hl 1 rfl) ?_
    refine lv_iconst (v := 1) hx hb dL_law_1679 (by decide) ?_
    refine lv_iadd hx hb dL_law_1680 ?_
    refine lv_topi (fun x9 ex9 => ?_)
    obtain rfl : x9 = 1 := ex9.trans (by decide)
    refine va_sld hx hb hX hbl hbA hS (vp_in_nI (n := 1) (by decide) (by decide)) dL_law_1681 ?_
    refine lv_topi (fun sy10 esy10 => ?_)
    have hyy : sy2 = sy10 := esy2.trans esy10.symm
    subst hyy
    refine lv_aload_n hx hb dL_law_1682 rfl (lv_at hl 5 rfl) ?_
    refine lv_iload hx hb dL_law_1683 (lv_at hl 1 rfl) ?_
    refine lv_iconst (v := 2) hx hb dL_law_1685 (by decide) ?_
    refine lv_iadd hx hb dL_law_1686 ?_
    refine lv_topi (fun x11 ex11 => ?_)
    obtain rfl : x11 = 2 := ex11.trans (by decide)
    refine va_sld hx hb hX hbl hbA hS (vp_in_nI (n := 2) (by decide) (by decide)) dL_law_1687 ?_
    refine lv_topi (fun sy12 esy12 => ?_)
    have hyy : sy4 = sy12 := esy4.trans esy12.symm
    subst hyy
    refine lv_aload_n hx hb dL_law_1688 rfl (lv_at hl 5 rfl) ?_
    refine lv_iload hx hb dL_law_1689 (lv_at hl 1 rfl) ?_
    refine lv_iconst (v := 3) hx hb dL_law_1691 (by decide) ?_
    refine lv_iadd hx hb dL_law_1692 ?_
    refine lv_topi (fun x13 ex13 => ?_)
    obtain rfl : x13 = 3 := ex13.trans (by decide)
    refine va_sld hx hb hX hbl hbA hS (vp_in_nI (n := 3) (by decide) (by decide)) dL_law_1693 ?_
    refine lv_topi (fun sy14 esy14 => ?_)
    have hyy : sy6 = sy14 := esy6.trans esy14.symm
    subst hyy
    have hPc := hP.sub (ws' := [(mo, .inr (13, fs)), (ra, .inl (tA, 2, .inl ((fun _ => 0))))]) [8, 9] rfl
    have hDc := hD.sub (ws' := [(mo, .inr (13, fs)), (ra, .inl (tA, 2, .inl ((fun _ => 0))))]) [8, 9] (by decide) rfl
    have hKc := hK.sub (tys' := [(tA, .int)]) [1] rfl
    have hFc := va_free (wc := [(mo, .inr (13, fs)), (ra, .inl (tA, 2, .inl ((fun _ => 0))))]) hD hS hA [8, 9] rfl
    refine va_calli (va_runV (As := [.int sy2, .int sy4, .int sy6]) (rest := []) ⟨hx, hb, hml, hown, ht⟩ (k_X12_value l d0 cO dC dI H.size mo ra tA sy2 sy4 sy6 fs hlen hf_asked) (my_V ht M_X12_value q2381 q2382 q2380 (Nat.le_of_ble_eq_true rfl) (Nat.le_of_ble_eq_true rfl)) ⟨PRE.fb, va_recv hK hP (ci := 13) (q0 := 8) rfl rfl, fun U hU hW => ⟨rfl, PRE.mk' hE hS hFc hPc hKc hDc U hU hW⟩⟩ rfl rfl hl.1 rfl (lv_room (Nat.le_of_ble_eq_true rfl)) dL_law_1694 ⟨(Nat.le_of_ble_eq_true rfl), (Nat.le_of_ble_eq_true rfl)⟩) hS (fun q _ h => hFc q h) hFc (fun r16 u15 t H1 locs htt hvm hw hB hz1 hk1 hS => ?_)
    obtain ⟨th217, rfl⟩ : ∃ z, z = u15 := ⟨_, rfl⟩
    try dsimp only at hw hB
    obtain ⟨fs218, hx_19, hP1, hK1, hD1⟩ := hB
    rw [htt] at hP1
    have hK1 := va_K.moved hvm.symm hK1
    obtain ⟨hP, hD⟩ := va_join (wr := [(h0, .inr (12, [.ref fi, tca, .ref ea, .ref sl, tmx, tsv])), (fi, .inr (5, [fna, fla, fv2, fv3, fv4, fv5, .int 0])), (ea, .inl (tE, 2, .inr (.inr (.inr (.inr fE))))), (e0, .inr (4, [.int ei0, ev0_1, ev0_2, ev0_3, ev0_4, ev0_5, ev0_6, .ref ak0])), (e1, .inr (4, [.int ei1, ev1_1, ev1_2, ev1_3, ev1_4, ev1_5, ev1_6, .ref ak1])), (ak0, .inr (0, [.int am0, ae0, .int 0])), (ak1, .inr (0, [.int am1, ae1, .int 0])), (sl, .inr (0, [.int sm, se, .int 0]))]) (w1 := [(mo, .inr (13, fs218))]) hP hD [8, 9] [0, 1, 2, 3, 4, 5, 6, 7] rfl rfl (by decide) (by decide) hk1 hFc hP1 hD1
    have hK := (hK.sub (tys' := [(tE, .object RX3), (tA, .int)]) [0, 1] rfl).app hK1
    generalize H1 = H at hP hS ⊢
    have hP : va_P (dC, dI) vwCl [(h0, .inr (12, [.ref fi, tca, .ref ea, .ref sl, tmx, tsv])), (fi, .inr (5, [fna, fla, fv2, fv3, fv4, fv5, .int 0])), (ea, .inl (tE, 2, .inr (.inr (.inr (.inr fE))))), (e0, .inr (4, [.int ei0, ev0_1, ev0_2, ev0_3, ev0_4, ev0_5, ev0_6, .ref ak0])), (e1, .inr (4, [.int ei1, ev1_1, ev1_2, ev1_3, ev1_4, ev1_5, ev1_6, .ref ak1])), (ak0, .inr (0, [.int am0, ae0, .int 0])), (ak1, .inr (0, [.int am1, ae1, .int 0])), (sl, .inr (0, [.int sm, se, .int 0])), (mo, .inr (13, fs218))] H := hP
    have hD : va_D A [(h0, .inr (12, [.ref fi, tca, .ref ea, .ref sl, tmx, tsv])), (fi, .inr (5, [fna, fla, fv2, fv3, fv4, fv5, .int 0])), (ea, .inl (tE, 2, .inr (.inr (.inr (.inr fE))))), (e0, .inr (4, [.int ei0, ev0_1, ev0_2, ev0_3, ev0_4, ev0_5, ev0_6, .ref ak0])), (e1, .inr (4, [.int ei1, ev1_1, ev1_2, ev1_3, ev1_4, ev1_5, ev1_6, .ref ak1])), (ak0, .inr (0, [.int am0, ae0, .int 0])), (ak1, .inr (0, [.int am1, ae1, .int 0])), (sl, .inr (0, [.int sm, se, .int 0])), (mo, .inr (13, fs218))] := hD
    have hK : va_K (dC, dI) vwCl [(tE, .object RX3), (tA, .int)] s := hK
    refine W.widen (k := 269) (n := 364945) (Nat.le_of_ble_eq_true rfl) (Nat.le_of_ble_eq_true rfl) ?_
    subst hw
    refine lv_istore (lv' := [(6, .int r16), (5, .int 1), (4, .int 0), (3, .ref out), (2, .ref mo), (1, .ref h0), (0, .ref b)]) hx hb dL_law_1697 hl (by decide) rfl (fun ls hl => ?_)
    refine lv_aload_n hx hb dL_law_1699 rfl (lv_at hl 4 rfl) ?_
    have hPc := hP.sub (ws' := [(mo, .inr (13, fs218))]) [8] rfl
    have hDc := hD.sub (ws' := [(mo, .inr (13, fs218))]) [8] (by decide) rfl
    have hKc := hK.sub (tys' := []) [] rfl
    have hFc := freeNil hS hA
    refine va_calli (va_runV (As := []) (rest := []) ⟨hx, hb, hml, hown, ht⟩ (k2_thrown l d0 cO dC dI H.size mo 1 fs218 hx_19) (my_V ht M_X12_thrown q1976 q1977 q1975 (Nat.le_of_ble_eq_true rfl) (Nat.le_of_ble_eq_true rfl)) ⟨PREp.fb, va_recv hK hP (ci := 13) (q0 := 8) rfl rfl, fun U hU hW => ⟨rfl, PREp.mk' hE hS hFc hPc hKc U hU hW⟩⟩ rfl rfl hl.1 rfl (lv_room (Nat.le_of_ble_eq_true rfl)) dL_law_1700 ⟨(Nat.le_of_ble_eq_true rfl), (Nat.le_of_ble_eq_true rfl)⟩) hS (fun q _ h => hFc q h) hFc (fun r21 u20 t H1 locs htt hvm hw hB hz1 hk1 hS => ?_)
    try dsimp only at hw hB
    have hP1 := hB
    have hP := keepAll hP hk1
    generalize H1 = H at hP hS ⊢
    have hP : va_P (dC, dI) vwCl [(h0, .inr (12, [.ref fi, tca, .ref ea, .ref sl, tmx, tsv])), (fi, .inr (5, [fna, fla, fv2, fv3, fv4, fv5, .int 0])), (ea, .inl (tE, 2, .inr (.inr (.inr (.inr fE))))), (e0, .inr (4, [.int ei0, ev0_1, ev0_2, ev0_3, ev0_4, ev0_5, ev0_6, .ref ak0])), (e1, .inr (4, [.int ei1, ev1_1, ev1_2, ev1_3, ev1_4, ev1_5, ev1_6, .ref ak1])), (ak0, .inr (0, [.int am0, ae0, .int 0])), (ak1, .inr (0, [.int am1, ae1, .int 0])), (sl, .inr (0, [.int sm, se, .int 0])), (mo, .inr (13, fs218))] H := hP
    have hD : va_D A [(h0, .inr (12, [.ref fi, tca, .ref ea, .ref sl, tmx, tsv])), (fi, .inr (5, [fna, fla, fv2, fv3, fv4, fv5, .int 0])), (ea, .inl (tE, 2, .inr (.inr (.inr (.inr fE))))), (e0, .inr (4, [.int ei0, ev0_1, ev0_2, ev0_3, ev0_4, ev0_5, ev0_6, .ref ak0])), (e1, .inr (4, [.int ei1, ev1_1, ev1_2, ev1_3, ev1_4, ev1_5, ev1_6, .ref ak1])), (ak0, .inr (0, [.int am0, ae0, .int 0])), (ak1, .inr (0, [.int am1, ae1, .int 0])), (sl, .inr (0, [.int sm, se, .int 0])), (mo, .inr (13, fs218))] := hD
    have hK : va_K (dC, dI) vwCl [(tE, .object RX3), (tA, .int)] s := hK
    refine W.widen (k := 269) (n := 364945) (Nat.le_of_ble_eq_true rfl) (Nat.le_of_ble_eq_true rfl) ?_
    subst hw
    refine lv_iload hx hb dL_law_1703 (lv_at hl 1 rfl) ?_
    refine lv_icmp_eq (tgt := 1710) hx hb dL_law_1705 (by decide) (fun c22 => ?_) (fun c22 => False.elim (by revert c22; decide))
    refine lv_iload hx hb dL_law_1710 (lv_at hl 1 rfl) ?_
    refine lv_if_ne (tgt := 1727) hx hb dL_law_1712 (by decide) (fun c23 => ?_) (fun c23 => False.elim (by revert c23; decide))
    refine lv_goto (tgt := 2038) hx hb dL_law_1727 (by decide) ?_
    refine lv_iinc (v := 8) (lv' := [(4, .int 8), (6, .int r16), (5, .int 1), (3, .ref out), (2, .ref mo), (1, .ref h0), (0, .ref b)]) hx hb dL_law_2038 hl (k := 2) rfl (by decide) (by decide) rfl (fun ls hl => ?_)
    refine lv_goto (tgt := 23) hx hb dL_law_2041 (by decide) ?_
    refine lv_iload hx hb dL_law_23 (lv_at hl 0 rfl) ?_
    refine lv_aload_n hx hb dL_law_25 rfl (lv_at hl 6 rfl) ?_
    refine va_slen hx hb hX hbl hbA hS dL_law_26 ?_
    refine W.eq (g2 := F0 m 27 ls [.int 8, .int 8]) rfl ?_
    refine lv_bipush (v := 8) hx hb dL_law_27 (by decide) ?_
    refine lv_isub hx hb dL_law_29 ?_
    refine lv_topi (fun x24 ex24 => ?_)
    obtain rfl : x24 = 0 := ex24.trans (by decide)
    refine lv_icmp_gt (tgt := 2044) hx hb dL_law_30 (by decide) (fun c25 => ?_) (fun c25 => False.elim (by revert c25; decide))
    refine lv_iconst (v := 1) hx hb dL_law_2044 (by decide) ?_
    refine W.widen (k := 600002) (n := 7302232) (Nat.le_of_ble_eq_true rfl) (Nat.le_of_ble_eq_true rfl) ?_
    refine va_forget (by have h := hS.2.2; rw [hAd] at h; exact h) ?_
    exact lw_ret hx hb hr hlocks dL_law_2045
set_option maxHeartbeats 4000000 in
set_option maxRecDepth 100000 in
theorem law_token (l : Launch) (hL : l.stackTraces = false) {p : Program} {e : Env} {s : State} {m : MethodId} {below : List Frame} {meth : Method} {c : Code} {b : Nat} {xs : Nat → Int32} {d0 : Nat} {cO : ClassId} {dC : Nat → ClassId} {dI : Nat → Nat → Nat} {H : Heap} {locs : List Loc} {ls : Array Slot} {h0 mo out : Nat} {ea sl : Nat} {tca tmx tsv : Value} {tE : ClassId} {fE : Nat → Option Nat} {sm : Int32} {se : Value} {fi : Nat} {fna fla fv2 fv3 fv4 fv5 : Value} {e0 ak0 : Nat} {ei0 am0 : Int32} {ev0_1 ev0_2 ev0_3 ev0_4 ev0_5 ev0_6 ae0 : Value} {e1 ak1 : Nat} {ei1 am1 : Int32} {ev1_1 ev1_2 ev1_3 ev1_4 ev1_5 ev1_6 ae1 : Value} {fs : List Value} {ra : Nat} {tA : ClassId} (hf0 : fE 0 = some e0) (hf1 : fE 1 = some e1) (hlen : fs.length = 75) (hf_asked : fs[27]? = some (.ref ra)) (C0 : lw_At p s m meth c b 8 xs) (hE : EN d0 cO (fun q : Nat => s.heap.size ≤ q) s s.heap) (hS : va_S (fun q : Nat => s.heap.size ≤ q) s.heap H locs) (hP : va_P (dC, dI) vwCl [(h0, .inr (12, [.ref fi, tca, .ref ea, .ref sl, tmx, tsv])), (fi, .inr (5, [fna, fla, fv2, fv3, fv4, fv5, .int 0])), (ea, .inl (tE, 2, .inr (.inr (.inr (.inr fE))))), (e0, .inr (4, [.int ei0, ev0_1, ev0_2, ev0_3, ev0_4, ev0_5, ev0_6, .ref ak0])), (e1, .inr (4, [.int ei1, ev1_1, ev1_2, ev1_3, ev1_4, ev1_5, ev1_6, .ref ak1])), (ak0, .inr (0, [.int am0, ae0, .int 0])), (ak1, .inr (0, [.int am1, ae1, .int 0])), (sl, .inr (0, [.int sm, se, .int 0])), (mo, .inr (13, fs)), (ra, .inl (tA, 2, .inl ((fun _ => 0))))] H) (hD : va_D (fun q : Nat => s.heap.size ≤ q) [(h0, .inr (12, [.ref fi, tca, .ref ea, .ref sl, tmx, tsv])), (fi, .inr (5, [fna, fla, fv2, fv3, fv4, fv5, .int 0])), (ea, .inl (tE, 2, .inr (.inr (.inr (.inr fE))))), (e0, .inr (4, [.int ei0, ev0_1, ev0_2, ev0_3, ev0_4, ev0_5, ev0_6, .ref ak0])), (e1, .inr (4, [.int ei1, ev1_1, ev1_2, ev1_3, ev1_4, ev1_5, ev1_6, .ref ak1])), (ak0, .inr (0, [.int am0, ae0, .int 0])), (ak1, .inr (0, [.int am1, ae1, .int 0])), (sl, .inr (0, [.int sm, se, .int 0])), (mo, .inr (13, fs)), (ra, .inl (tA, 2, .inl ((fun _ => 0))))]) (hK : va_K (dC, dI) vwCl [(tE, .object RX3), (tA, .int)] s) (hl : lv_has ls 7 [(4, .int 0), (3, .ref out), (2, .ref mo), (1, .ref h0), (0, .ref b)]) : W p l e room_1 s m #[Value.ref b] below meth c H locs 267 364933 (lw_Z below #[Value.ref b] s) (F0 m 1730 ls []) := by
  obtain ⟨hx, hb, hr, hml, hown0, hts, hX, hbl, hlocks, hgv⟩ := id C0
  have hown : s.vm.findClass RL = some m.cls := hown0
  have ht : ∀ w ∈ GT, w.before #[Value.ref b] s = true := fun w h => hts w (gt_tbl h)
  obtain ⟨A, hAd⟩ : ∃ A : Nat → Prop, A = (fun q : Nat => s.heap.size ≤ q) := ⟨_, rfl⟩
  rw [← hAd] at hE hS hD
  have hA : ∀ q : Nat, s.heap.size ≤ q → A q := fun q h => by rw [hAd]; exact h
  have hbA : ¬ A b := by rw [hAd]; exact Nat.not_le.mpr hbl
  refine lv_aload_n hx hb dL_law_1730 rfl (lv_at hl 3 rfl) ?_
  refine lv_aload_n hx hb dL_law_1731 rfl (lv_at hl 4 rfl) ?_
  refine lv_iload hx hb dL_law_1732 (lv_at hl 0 rfl) ?_
  refine lv_iconst (v := 1) hx hb dL_law_1734 (by decide) ?_
  refine lv_iadd hx hb dL_law_1735 ?_
  refine lv_topi (fun x1 ex1 => ?_)
  obtain rfl : x1 = 1 := ex1.trans (by decide)
  refine va_sld hx hb hX hbl hbA hS (vp_in_nI (n := 1) (by decide) (by decide)) dL_law_1736 ?_
  refine lv_topi (fun sy2 esy2 => ?_)
  refine lv_aload_n hx hb dL_law_1737 rfl (lv_at hl 4 rfl) ?_
  refine lv_iload hx hb dL_law_1738 (lv_at hl 0 rfl) ?_
  refine lv_iconst (v := 2) hx hb dL_law_1740 (by decide) ?_
  refine lv_iadd hx hb dL_law_1741 ?_
  refine lv_topi (fun x3 ex3 => ?_)
  obtain rfl : x3 = 2 := ex3.trans (by decide)
  refine va_sld hx hb hX hbl hbA hS (vp_in_nI (n := 2) (by decide) (by decide)) dL_law_1742 ?_
  refine lv_topi (fun sy4 esy4 => ?_)
  refine lv_aload_n hx hb dL_law_1743 rfl (lv_at hl 4 rfl) ?_
  refine lv_iload hx hb dL_law_1744 (lv_at hl 0 rfl) ?_
  refine lv_iconst (v := 3) hx hb dL_law_1746 (by decide) ?_
  refine lv_iadd hx hb dL_law_1747 ?_
  refine lv_topi (fun x5 ex5 => ?_)
  obtain rfl : x5 = 3 := ex5.trans (by decide)
  refine va_sld hx hb hX hbl hbA hS (vp_in_nI (n := 3) (by decide) (by decide)) dL_law_1748 ?_
  refine lv_topi (fun sy6 esy6 => ?_)
  refine lv_aload_n hx hb dL_law_1749 rfl (lv_at hl 1 rfl) ?_
  have hPc := hP.sub (ws' := [(h0, .inr (12, [.ref fi, tca, .ref ea, .ref sl, tmx, tsv])), (fi, .inr (5, [fna, fla, fv2, fv3, fv4, fv5, .int 0])), (ea, .inl (tE, 2, .inr (.inr (.inr (.inr fE))))), (e0, .inr (4, [.int ei0, ev0_1, ev0_2, ev0_3, ev0_4, ev0_5, ev0_6, .ref ak0])), (e1, .inr (4, [.int ei1, ev1_1, ev1_2, ev1_3, ev1_4, ev1_5, ev1_6, .ref ak1])), (ak0, .inr (0, [.int am0, ae0, .int 0])), (ak1, .inr (0, [.int am1, ae1, .int 0])), (sl, .inr (0, [.int sm, se, .int 0]))]) [0, 1, 2, 3, 4, 5, 6, 7] rfl
  have hDc := hD.sub (ws' := [(h0, .inr (12, [.ref fi, tca, .ref ea, .ref sl, tmx, tsv])), (fi, .inr (5, [fna, fla, fv2, fv3, fv4, fv5, .int 0])), (ea, .inl (tE, 2, .inr (.inr (.inr (.inr fE))))), (e0, .inr (4, [.int ei0, ev0_1, ev0_2, ev0_3, ev0_4, ev0_5, ev0_6, .ref ak0])), (e1, .inr (4, [.int ei1, ev1_1, ev1_2, ev1_3, ev1_4, ev1_5, ev1_6, .ref ak1])), (ak0, .inr (0, [.int am0, ae0, .int 0])), (ak1, .inr (0, [.int am1, ae1, .int 0])), (sl, .inr (0, [.int sm, se, .int 0]))]) [0, 1, 2, 3, 4, 5, 6, 7] (by decide) rfl
  have hKc := hK.sub (tys' := [(tE, .object RX3)]) [0] rfl
  have hFc := freeNil hS hA
  refine vx_calli (vx_runSX (As := [.ref h0, .int sy2, .int sy4, .int sy6, .ref out]) (rest := []) ⟨hx, hb, hml, hown, ht⟩ (k_L_token l hL d0 cO dC dI H.size h0 ea sl tca tmx tsv tE fE sm se fi fna fla fv2 fv3 fv4 fv5 e0 ak0 ei0 am0 ev0_1 ev0_2 ev0_3 ev0_4 ev0_5 ev0_6 ae0 e1 ak1 ei1 am1 ev1_1 ev1_2 ev1_3 ev1_4 ev1_5 ev1_6 ae1 hf0 hf1 sy2 sy4 sy6 out) (my_SW ht M_L_token q1705 q1704 (Nat.le_of_ble_eq_true rfl) (Nat.le_of_ble_eq_true rfl)) ⟨PREp.fb, fun U hU hW => ⟨rfl, PREp.mk' hE hS hFc hPc hKc U hU hW⟩⟩ rfl rfl hl.1 rfl (lv_room (Nat.le_of_ble_eq_true rfl)) dL_law_1750 ⟨(Nat.le_of_ble_eq_true rfl), (Nat.le_of_ble_eq_true rfl)⟩) hS (fun q _ h => hFc q h) hFc (fun q _ h => hFc q h) (fun E ce q9 ux t H1 locs htt hvm hw hB hz1 hk1 hS hcell hv9 hcl9 => ?_) (fun r8 u7 t H1 locs htt hvm hw hB hz1 hk1 hS => ?_)
  · skip
    exact hB.elim
  · skip
    try dsimp only at hw hB
    have hP1 := hB
    have hP := keepAll hP hk1
    generalize H1 = H at hP hS ⊢
    have hP : va_P (dC, dI) vwCl [(h0, .inr (12, [.ref fi, tca, .ref ea, .ref sl, tmx, tsv])), (fi, .inr (5, [fna, fla, fv2, fv3, fv4, fv5, .int 0])), (ea, .inl (tE, 2, .inr (.inr (.inr (.inr fE))))), (e0, .inr (4, [.int ei0, ev0_1, ev0_2, ev0_3, ev0_4, ev0_5, ev0_6, .ref ak0])), (e1, .inr (4, [.int ei1, ev1_1, ev1_2, ev1_3, ev1_4, ev1_5, ev1_6, .ref ak1])), (ak0, .inr (0, [.int am0, ae0, .int 0])), (ak1, .inr (0, [.int am1, ae1, .int 0])), (sl, .inr (0, [.int sm, se, .int 0])), (mo, .inr (13, fs)), (ra, .inl (tA, 2, .inl ((fun _ => 0))))] H := hP
    have hD : va_D A [(h0, .inr (12, [.ref fi, tca, .ref ea, .ref sl, tmx, tsv])), (fi, .inr (5, [fna, fla, fv2, fv3, fv4, fv5, .int 0])), (ea, .inl (tE, 2, .inr (.inr (.inr (.inr fE))))), (e0, .inr (4, [.int ei0, ev0_1, ev0_2, ev0_3, ev0_4, ev0_5, ev0_6, .ref ak0])), (e1, .inr (4, [.int ei1, ev1_1, ev1_2, ev1_3, ev1_4, ev1_5, ev1_6, .ref ak1])), (ak0, .inr (0, [.int am0, ae0, .int 0])), (ak1, .inr (0, [.int am1, ae1, .int 0])), (sl, .inr (0, [.int sm, se, .int 0])), (mo, .inr (13, fs)), (ra, .inl (tA, 2, .inl ((fun _ => 0))))] := hD
    have hK : va_K (dC, dI) vwCl [(tE, .object RX3), (tA, .int)] s := hK
    refine W.widen (k := 269) (n := 364945) (Nat.le_of_ble_eq_true rfl) (Nat.le_of_ble_eq_true rfl) ?_
    subst hw
    refine lv_istore (lv' := [(5, .int 1), (4, .int 0), (3, .ref out), (2, .ref mo), (1, .ref h0), (0, .ref b)]) hx hb dL_law_1753 hl (by decide) rfl (fun ls hl => ?_)
    refine lv_aload_n hx hb dL_law_1755 rfl (lv_at hl 3 rfl) ?_
    refine lv_aload_n hx hb dL_law_1756 rfl (lv_at hl 5 rfl) ?_
    refine lv_iload hx hb dL_law_1757 (lv_at hl 1 rfl) ?_
    refine lv_iconst (v := 1) hx hb dL_law_1759 (by decide) ?_
    refine lv_iadd hx hb dL_law_1760 ?_
    refine lv_topi (fun x9 ex9 => ?_)
    obtain rfl : x9 = 1 := ex9.trans (by decide)
    refine va_sld hx hb hX hbl hbA hS (vp_in_nI (n := 1) (by decide) (by decide)) dL_law_1761 ?_
    refine lv_topi (fun sy10 esy10 => ?_)
    have hyy : sy2 = sy10 := esy2.trans esy10.symm
    subst hyy
    refine lv_aload_n hx hb dL_law_1762 rfl (lv_at hl 5 rfl) ?_
    refine lv_iload hx hb dL_law_1763 (lv_at hl 1 rfl) ?_
    refine lv_iconst (v := 2) hx hb dL_law_1765 (by decide) ?_
    refine lv_iadd hx hb dL_law_1766 ?_
    refine lv_topi (fun x11 ex11 => ?_)
    obtain rfl : x11 = 2 := ex11.trans (by decide)
    refine va_sld hx hb hX hbl hbA hS (vp_in_nI (n := 2) (by decide) (by decide)) dL_law_1767 ?_
    refine lv_topi (fun sy12 esy12 => ?_)
    have hyy : sy4 = sy12 := esy4.trans esy12.symm
    subst hyy
    refine lv_aload_n hx hb dL_law_1768 rfl (lv_at hl 5 rfl) ?_
    refine lv_iload hx hb dL_law_1769 (lv_at hl 1 rfl) ?_
    refine lv_iconst (v := 3) hx hb dL_law_1771 (by decide) ?_
    refine lv_iadd hx hb dL_law_1772 ?_
    refine lv_topi (fun x13 ex13 => ?_)
    obtain rfl : x13 = 3 := ex13.trans (by decide)
    refine va_sld hx hb hX hbl hbA hS (vp_in_nI (n := 3) (by decide) (by decide)) dL_law_1773 ?_
    refine lv_topi (fun sy14 esy14 => ?_)
    have hyy : sy6 = sy14 := esy6.trans esy14.symm
    subst hyy
    have hPc := hP.sub (ws' := [(mo, .inr (13, fs)), (ra, .inl (tA, 2, .inl ((fun _ => 0))))]) [8, 9] rfl
    have hDc := hD.sub (ws' := [(mo, .inr (13, fs)), (ra, .inl (tA, 2, .inl ((fun _ => 0))))]) [8, 9] (by decide) rfl
    have hKc := hK.sub (tys' := [(tA, .int)]) [1] rfl
    have hFc := va_free (wc := [(mo, .inr (13, fs)), (ra, .inl (tA, 2, .inl ((fun _ => 0))))]) hD hS hA [8, 9] rfl
    refine va_calli (va_runV (As := [.int sy2, .int sy4, .int sy6]) (rest := []) ⟨hx, hb, hml, hown, ht⟩ (k_X12_token l d0 cO dC dI H.size mo ra tA sy2 sy4 sy6 fs hlen hf_asked) (my_V ht M_X12_token q2385 q2386 q2384 (Nat.le_of_ble_eq_true rfl) (Nat.le_of_ble_eq_true rfl)) ⟨PRE.fb, va_recv hK hP (ci := 13) (q0 := 8) rfl rfl, fun U hU hW => ⟨rfl, PRE.mk' hE hS hFc hPc hKc hDc U hU hW⟩⟩ rfl rfl hl.1 rfl (lv_room (Nat.le_of_ble_eq_true rfl)) dL_law_1774 ⟨(Nat.le_of_ble_eq_true rfl), (Nat.le_of_ble_eq_true rfl)⟩) hS (fun q _ h => hFc q h) hFc (fun r16 u15 t H1 locs htt hvm hw hB hz1 hk1 hS => ?_)
    obtain ⟨th217, rfl⟩ : ∃ z, z = u15 := ⟨_, rfl⟩
    try dsimp only at hw hB
    obtain ⟨fs218, hx_19, hP1, hK1, hD1⟩ := hB
    rw [htt] at hP1
    have hK1 := va_K.moved hvm.symm hK1
    obtain ⟨hP, hD⟩ := va_join (wr := [(h0, .inr (12, [.ref fi, tca, .ref ea, .ref sl, tmx, tsv])), (fi, .inr (5, [fna, fla, fv2, fv3, fv4, fv5, .int 0])), (ea, .inl (tE, 2, .inr (.inr (.inr (.inr fE))))), (e0, .inr (4, [.int ei0, ev0_1, ev0_2, ev0_3, ev0_4, ev0_5, ev0_6, .ref ak0])), (e1, .inr (4, [.int ei1, ev1_1, ev1_2, ev1_3, ev1_4, ev1_5, ev1_6, .ref ak1])), (ak0, .inr (0, [.int am0, ae0, .int 0])), (ak1, .inr (0, [.int am1, ae1, .int 0])), (sl, .inr (0, [.int sm, se, .int 0]))]) (w1 := [(mo, .inr (13, fs218))]) hP hD [8, 9] [0, 1, 2, 3, 4, 5, 6, 7] rfl rfl (by decide) (by decide) hk1 hFc hP1 hD1
    have hK := (hK.sub (tys' := [(tE, .object RX3), (tA, .int)]) [0, 1] rfl).app hK1
    generalize H1 = H at hP hS ⊢
    have hP : va_P (dC, dI) vwCl [(h0, .inr (12, [.ref fi, tca, .ref ea, .ref sl, tmx, tsv])), (fi, .inr (5, [fna, fla, fv2, fv3, fv4, fv5, .int 0])), (ea, .inl (tE, 2, .inr (.inr (.inr (.inr fE))))), (e0, .inr (4, [.int ei0, ev0_1, ev0_2, ev0_3, ev0_4, ev0_5, ev0_6, .ref ak0])), (e1, .inr (4, [.int ei1, ev1_1, ev1_2, ev1_3, ev1_4, ev1_5, ev1_6, .ref ak1])), (ak0, .inr (0, [.int am0, ae0, .int 0])), (ak1, .inr (0, [.int am1, ae1, .int 0])), (sl, .inr (0, [.int sm, se, .int 0])), (mo, .inr (13, fs218))] H := hP
    have hD : va_D A [(h0, .inr (12, [.ref fi, tca, .ref ea, .ref sl, tmx, tsv])), (fi, .inr (5, [fna, fla, fv2, fv3, fv4, fv5, .int 0])), (ea, .inl (tE, 2, .inr (.inr (.inr (.inr fE))))), (e0, .inr (4, [.int ei0, ev0_1, ev0_2, ev0_3, ev0_4, ev0_5, ev0_6, .ref ak0])), (e1, .inr (4, [.int ei1, ev1_1, ev1_2, ev1_3, ev1_4, ev1_5, ev1_6, .ref ak1])), (ak0, .inr (0, [.int am0, ae0, .int 0])), (ak1, .inr (0, [.int am1, ae1, .int 0])), (sl, .inr (0, [.int sm, se, .int 0])), (mo, .inr (13, fs218))] := hD
    have hK : va_K (dC, dI) vwCl [(tE, .object RX3), (tA, .int)] s := hK
    refine W.widen (k := 269) (n := 364945) (Nat.le_of_ble_eq_true rfl) (Nat.le_of_ble_eq_true rfl) ?_
    subst hw
    refine lv_istore (lv' := [(6, .int r16), (5, .int 1), (4, .int 0), (3, .ref out), (2, .ref mo), (1, .ref h0), (0, .ref b)]) hx hb dL_law_1777 hl (by decide) rfl (fun ls hl => ?_)
    refine lv_aload_n hx hb dL_law_1779 rfl (lv_at hl 4 rfl) ?_
    have hPc := hP.sub (ws' := [(mo, .inr (13, fs218))]) [8] rfl
    have hDc := hD.sub (ws' := [(mo, .inr (13, fs218))]) [8] (by decide) rfl
    have hKc := hK.sub (tys' := []) [] rfl
    have hFc := freeNil hS hA
    refine va_calli (va_runV (As := []) (rest := []) ⟨hx, hb, hml, hown, ht⟩ (k2_thrown l d0 cO dC dI H.size mo 1 fs218 hx_19) (my_V ht M_X12_thrown q1976 q1977 q1975 (Nat.le_of_ble_eq_true rfl) (Nat.le_of_ble_eq_true rfl)) ⟨PREp.fb, va_recv hK hP (ci := 13) (q0 := 8) rfl rfl, fun U hU hW => ⟨rfl, PREp.mk' hE hS hFc hPc hKc U hU hW⟩⟩ rfl rfl hl.1 rfl (lv_room (Nat.le_of_ble_eq_true rfl)) dL_law_1780 ⟨(Nat.le_of_ble_eq_true rfl), (Nat.le_of_ble_eq_true rfl)⟩) hS (fun q _ h => hFc q h) hFc (fun r21 u20 t H1 locs htt hvm hw hB hz1 hk1 hS => ?_)
    try dsimp only at hw hB
    have hP1 := hB
    have hP := keepAll hP hk1
    generalize H1 = H at hP hS ⊢
    have hP : va_P (dC, dI) vwCl [(h0, .inr (12, [.ref fi, tca, .ref ea, .ref sl, tmx, tsv])), (fi, .inr (5, [fna, fla, fv2, fv3, fv4, fv5, .int 0])), (ea, .inl (tE, 2, .inr (.inr (.inr (.inr fE))))), (e0, .inr (4, [.int ei0, ev0_1, ev0_2, ev0_3, ev0_4, ev0_5, ev0_6, .ref ak0])), (e1, .inr (4, [.int ei1, ev1_1, ev1_2, ev1_3, ev1_4, ev1_5, ev1_6, .ref ak1])), (ak0, .inr (0, [.int am0, ae0, .int 0])), (ak1, .inr (0, [.int am1, ae1, .int 0])), (sl, .inr (0, [.int sm, se, .int 0])), (mo, .inr (13, fs218))] H := hP
    have hD : va_D A [(h0, .inr (12, [.ref fi, tca, .ref ea, .ref sl, tmx, tsv])), (fi, .inr (5, [fna, fla, fv2, fv3, fv4, fv5, .int 0])), (ea, .inl (tE, 2, .inr (.inr (.inr (.inr fE))))), (e0, .inr (4, [.int ei0, ev0_1, ev0_2, ev0_3, ev0_4, ev0_5, ev0_6, .ref ak0])), (e1, .inr (4, [.int ei1, ev1_1, ev1_2, ev1_3, ev1_4, ev1_5, ev1_6, .ref ak1])), (ak0, .inr (0, [.int am0, ae0, .int 0])), (ak1, .inr (0, [.int am1, ae1, .int 0])), (sl, .inr (0, [.int sm, se, .int 0])), (mo, .inr (13, fs218))] := hD
    have hK : va_K (dC, dI) vwCl [(tE, .object RX3), (tA, .int)] s := hK
    refine W.widen (k := 269) (n := 364945) (Nat.le_of_ble_eq_true rfl) (Nat.le_of_ble_eq_true rfl) ?_
    subst hw
    refine lv_iload hx hb dL_law_1783 (lv_at hl 1 rfl) ?_
    refine lv_icmp_eq (tgt := 1790) hx hb dL_law_1785 (by decide) (fun c22 => ?_) (fun c22 => False.elim (by revert c22; decide))
    refine lv_iload hx hb dL_law_1790 (lv_at hl 1 rfl) ?_
    refine lv_if_ne (tgt := 1807) hx hb dL_law_1792 (by decide) (fun c23 => ?_) (fun c23 => False.elim (by revert c23; decide))
    refine lv_goto (tgt := 2038) hx hb dL_law_1807 (by decide) ?_
    refine lv_iinc (v := 8) (lv' := [(4, .int 8), (6, .int r16), (5, .int 1), (3, .ref out), (2, .ref mo), (1, .ref h0), (0, .ref b)]) hx hb dL_law_2038 hl (k := 2) rfl (by decide) (by decide) rfl (fun ls hl => ?_)
    refine lv_goto (tgt := 23) hx hb dL_law_2041 (by decide) ?_
    refine lv_iload hx hb dL_law_23 (lv_at hl 0 rfl) ?_
    refine lv_aload_n hx hb dL_law_25 rfl (lv_at hl 6 rfl) ?_
    refine va_slen hx hb hX hbl hbA hS dL_law_26 ?_
    refine W.eq (g2 := F0 m 27 ls [.int 8, .int 8]) rfl ?_
    refine lv_bipush (v := 8) hx hb dL_law_27 (by decide) ?_
    refine lv_isub hx hb dL_law_29 ?_
    refine lv_topi (fun x24 ex24 => ?_)
    obtain rfl : x24 = 0 := ex24.trans (by decide)
    refine lv_icmp_gt (tgt := 2044) hx hb dL_law_30 (by decide) (fun c25 => ?_) (fun c25 => False.elim (by revert c25; decide))
    refine lv_iconst (v := 1) hx hb dL_law_2044 (by decide) ?_
    refine W.widen (k := 600002) (n := 7302232) (Nat.le_of_ble_eq_true rfl) (Nat.le_of_ble_eq_true rfl) ?_
    refine va_forget (by have h := hS.2.2; rw [hAd] at h; exact h) ?_
    exact lw_ret hx hb hr hlocks dL_law_2045
set_option maxHeartbeats 4000000 in
set_option maxRecDepth 100000 in
theorem law_id (l : Launch) (hL : l.stackTraces = false) {p : Program} {e : Env} {s : State} {m : MethodId} {below : List Frame} {meth : Method} {c : Code} {b : Nat} {xs : Nat → Int32} {d0 : Nat} {cO : ClassId} {dC : Nat → ClassId} {dI : Nat → Nat → Nat} {H : Heap} {locs : List Loc} {ls : Array Slot} {h0 mo out : Nat} {ea sl : Nat} {tca tmx tsv : Value} {tE : ClassId} {fE : Nat → Option Nat} {sm : Int32} {se : Value} {fi : Nat} {fna fla fv2 fv3 fv4 fv5 : Value} {e0 ak0 : Nat} {ei0 am0 : Int32} {ev0_1 ev0_2 ev0_3 ev0_4 ev0_5 ev0_6 ae0 : Value} {e1 ak1 : Nat} {ei1 am1 : Int32} {ev1_1 ev1_2 ev1_3 ev1_4 ev1_5 ev1_6 ae1 : Value} {fs : List Value} {ra : Nat} {tA : ClassId} (hf0 : fE 0 = some e0) (hf1 : fE 1 = some e1) (hlen : fs.length = 75) (hf_servers : fs[15]? = some (.int 0)) (hf_asked : fs[27]? = some (.ref ra)) (C0 : lw_At p s m meth c b 8 xs) (hE : EN d0 cO (fun q : Nat => s.heap.size ≤ q) s s.heap) (hS : va_S (fun q : Nat => s.heap.size ≤ q) s.heap H locs) (hP : va_P (dC, dI) vwCl [(h0, .inr (12, [.ref fi, tca, .ref ea, .ref sl, tmx, tsv])), (fi, .inr (5, [fna, fla, fv2, fv3, fv4, fv5, .int 0])), (ea, .inl (tE, 2, .inr (.inr (.inr (.inr fE))))), (e0, .inr (4, [.int ei0, ev0_1, ev0_2, ev0_3, ev0_4, ev0_5, ev0_6, .ref ak0])), (e1, .inr (4, [.int ei1, ev1_1, ev1_2, ev1_3, ev1_4, ev1_5, ev1_6, .ref ak1])), (ak0, .inr (0, [.int am0, ae0, .int 0])), (ak1, .inr (0, [.int am1, ae1, .int 0])), (sl, .inr (0, [.int sm, se, .int 0])), (mo, .inr (13, fs)), (ra, .inl (tA, 2, .inl ((fun _ => 0))))] H) (hD : va_D (fun q : Nat => s.heap.size ≤ q) [(h0, .inr (12, [.ref fi, tca, .ref ea, .ref sl, tmx, tsv])), (fi, .inr (5, [fna, fla, fv2, fv3, fv4, fv5, .int 0])), (ea, .inl (tE, 2, .inr (.inr (.inr (.inr fE))))), (e0, .inr (4, [.int ei0, ev0_1, ev0_2, ev0_3, ev0_4, ev0_5, ev0_6, .ref ak0])), (e1, .inr (4, [.int ei1, ev1_1, ev1_2, ev1_3, ev1_4, ev1_5, ev1_6, .ref ak1])), (ak0, .inr (0, [.int am0, ae0, .int 0])), (ak1, .inr (0, [.int am1, ae1, .int 0])), (sl, .inr (0, [.int sm, se, .int 0])), (mo, .inr (13, fs)), (ra, .inl (tA, 2, .inl ((fun _ => 0))))]) (hK : va_K (dC, dI) vwCl [(tE, .object RX3), (tA, .int)] s) (hl : lv_has ls 7 [(4, .int 0), (3, .ref out), (2, .ref mo), (1, .ref h0), (0, .ref b)]) : W p l e room_1 s m #[Value.ref b] below meth c H locs 267 364933 (lw_Z below #[Value.ref b] s) (F0 m 1810 ls []) := by
  obtain ⟨hx, hb, hr, hml, hown0, hts, hX, hbl, hlocks, hgv⟩ := id C0
  have hown : s.vm.findClass RL = some m.cls := hown0
  have ht : ∀ w ∈ GT, w.before #[Value.ref b] s = true := fun w h => hts w (gt_tbl h)
  obtain ⟨A, hAd⟩ : ∃ A : Nat → Prop, A = (fun q : Nat => s.heap.size ≤ q) := ⟨_, rfl⟩
  rw [← hAd] at hE hS hD
  have hA : ∀ q : Nat, s.heap.size ≤ q → A q := fun q h => by rw [hAd]; exact h
  have hbA : ¬ A b := by rw [hAd]; exact Nat.not_le.mpr hbl
  refine lv_aload_n hx hb dL_law_1810 rfl (lv_at hl 3 rfl) ?_
  refine lv_aload_n hx hb dL_law_1811 rfl (lv_at hl 4 rfl) ?_
  refine lv_iload hx hb dL_law_1812 (lv_at hl 0 rfl) ?_
  refine lv_iconst (v := 1) hx hb dL_law_1814 (by decide) ?_
  refine lv_iadd hx hb dL_law_1815 ?_
  refine lv_topi (fun x1 ex1 => ?_)
  obtain rfl : x1 = 1 := ex1.trans (by decide)
  refine va_sld hx hb hX hbl hbA hS (vp_in_nI (n := 1) (by decide) (by decide)) dL_law_1816 ?_
  refine lv_topi (fun sy2 esy2 => ?_)
  refine lv_aload_n hx hb dL_law_1817 rfl (lv_at hl 4 rfl) ?_
  refine lv_iload hx hb dL_law_1818 (lv_at hl 0 rfl) ?_
  refine lv_iconst (v := 2) hx hb dL_law_1820 (by decide) ?_
  refine lv_iadd hx hb dL_law_1821 ?_
  refine lv_topi (fun x3 ex3 => ?_)
  obtain rfl : x3 = 2 := ex3.trans (by decide)
  refine va_sld hx hb hX hbl hbA hS (vp_in_nI (n := 2) (by decide) (by decide)) dL_law_1822 ?_
  refine lv_topi (fun sy4 esy4 => ?_)
  refine lv_aload_n hx hb dL_law_1823 rfl (lv_at hl 4 rfl) ?_
  refine lv_iload hx hb dL_law_1824 (lv_at hl 0 rfl) ?_
  refine lv_iconst (v := 3) hx hb dL_law_1826 (by decide) ?_
  refine lv_iadd hx hb dL_law_1827 ?_
  refine lv_topi (fun x5 ex5 => ?_)
  obtain rfl : x5 = 3 := ex5.trans (by decide)
  refine va_sld hx hb hX hbl hbA hS (vp_in_nI (n := 3) (by decide) (by decide)) dL_law_1828 ?_
  refine lv_topi (fun sy6 esy6 => ?_)
  refine lv_aload_n hx hb dL_law_1829 rfl (lv_at hl 1 rfl) ?_
  have hPc := hP.sub (ws' := [(h0, .inr (12, [.ref fi, tca, .ref ea, .ref sl, tmx, tsv])), (fi, .inr (5, [fna, fla, fv2, fv3, fv4, fv5, .int 0])), (ea, .inl (tE, 2, .inr (.inr (.inr (.inr fE))))), (e0, .inr (4, [.int ei0, ev0_1, ev0_2, ev0_3, ev0_4, ev0_5, ev0_6, .ref ak0])), (e1, .inr (4, [.int ei1, ev1_1, ev1_2, ev1_3, ev1_4, ev1_5, ev1_6, .ref ak1])), (ak0, .inr (0, [.int am0, ae0, .int 0])), (ak1, .inr (0, [.int am1, ae1, .int 0])), (sl, .inr (0, [.int sm, se, .int 0]))]) [0, 1, 2, 3, 4, 5, 6, 7] rfl
  have hDc := hD.sub (ws' := [(h0, .inr (12, [.ref fi, tca, .ref ea, .ref sl, tmx, tsv])), (fi, .inr (5, [fna, fla, fv2, fv3, fv4, fv5, .int 0])), (ea, .inl (tE, 2, .inr (.inr (.inr (.inr fE))))), (e0, .inr (4, [.int ei0, ev0_1, ev0_2, ev0_3, ev0_4, ev0_5, ev0_6, .ref ak0])), (e1, .inr (4, [.int ei1, ev1_1, ev1_2, ev1_3, ev1_4, ev1_5, ev1_6, .ref ak1])), (ak0, .inr (0, [.int am0, ae0, .int 0])), (ak1, .inr (0, [.int am1, ae1, .int 0])), (sl, .inr (0, [.int sm, se, .int 0]))]) [0, 1, 2, 3, 4, 5, 6, 7] (by decide) rfl
  have hKc := hK.sub (tys' := [(tE, .object RX3)]) [0] rfl
  have hFc := freeNil hS hA
  refine vx_calli (vx_runSX (As := [.ref h0, .int sy2, .int sy4, .int sy6, .ref out]) (rest := []) ⟨hx, hb, hml, hown, ht⟩ (k_L_id l hL d0 cO dC dI H.size h0 ea sl tca tmx tsv tE fE sm se fi fna fla fv2 fv3 fv4 fv5 e0 ak0 ei0 am0 ev0_1 ev0_2 ev0_3 ev0_4 ev0_5 ev0_6 ae0 e1 ak1 ei1 am1 ev1_1 ev1_2 ev1_3 ev1_4 ev1_5 ev1_6 ae1 hf0 hf1 sy2 sy4 sy6 out) (my_SW ht M_L_id q1718 q1717 (Nat.le_of_ble_eq_true rfl) (Nat.le_of_ble_eq_true rfl)) ⟨PREp.fb, fun U hU hW => ⟨rfl, PREp.mk' hE hS hFc hPc hKc U hU hW⟩⟩ rfl rfl hl.1 rfl (lv_room (Nat.le_of_ble_eq_true rfl)) dL_law_1830 ⟨(Nat.le_of_ble_eq_true rfl), (Nat.le_of_ble_eq_true rfl)⟩) hS (fun q _ h => hFc q h) hFc (fun q _ h => hFc q h) (fun E ce q9 ux t H1 locs htt hvm hw hB hz1 hk1 hS hcell hv9 hcl9 => ?_) (fun r8 u7 t H1 locs htt hvm hw hB hz1 hk1 hS => ?_)
  · skip
    exact hB.elim
  · skip
    try dsimp only at hw hB
    have hP1 := hB
    have hP := keepAll hP hk1
    generalize H1 = H at hP hS ⊢
    have hP : va_P (dC, dI) vwCl [(h0, .inr (12, [.ref fi, tca, .ref ea, .ref sl, tmx, tsv])), (fi, .inr (5, [fna, fla, fv2, fv3, fv4, fv5, .int 0])), (ea, .inl (tE, 2, .inr (.inr (.inr (.inr fE))))), (e0, .inr (4, [.int ei0, ev0_1, ev0_2, ev0_3, ev0_4, ev0_5, ev0_6, .ref ak0])), (e1, .inr (4, [.int ei1, ev1_1, ev1_2, ev1_3, ev1_4, ev1_5, ev1_6, .ref ak1])), (ak0, .inr (0, [.int am0, ae0, .int 0])), (ak1, .inr (0, [.int am1, ae1, .int 0])), (sl, .inr (0, [.int sm, se, .int 0])), (mo, .inr (13, fs)), (ra, .inl (tA, 2, .inl ((fun _ => 0))))] H := hP
    have hD : va_D A [(h0, .inr (12, [.ref fi, tca, .ref ea, .ref sl, tmx, tsv])), (fi, .inr (5, [fna, fla, fv2, fv3, fv4, fv5, .int 0])), (ea, .inl (tE, 2, .inr (.inr (.inr (.inr fE))))), (e0, .inr (4, [.int ei0, ev0_1, ev0_2, ev0_3, ev0_4, ev0_5, ev0_6, .ref ak0])), (e1, .inr (4, [.int ei1, ev1_1, ev1_2, ev1_3, ev1_4, ev1_5, ev1_6, .ref ak1])), (ak0, .inr (0, [.int am0, ae0, .int 0])), (ak1, .inr (0, [.int am1, ae1, .int 0])), (sl, .inr (0, [.int sm, se, .int 0])), (mo, .inr (13, fs)), (ra, .inl (tA, 2, .inl ((fun _ => 0))))] := hD
    have hK : va_K (dC, dI) vwCl [(tE, .object RX3), (tA, .int)] s := hK
    refine W.widen (k := 269) (n := 364945) (Nat.le_of_ble_eq_true rfl) (Nat.le_of_ble_eq_true rfl) ?_
    subst hw
    refine lv_istore (lv' := [(5, .int 1), (4, .int 0), (3, .ref out), (2, .ref mo), (1, .ref h0), (0, .ref b)]) hx hb dL_law_1833 hl (by decide) rfl (fun ls hl => ?_)
    refine lv_aload_n hx hb dL_law_1835 rfl (lv_at hl 3 rfl) ?_
    refine lv_aload_n hx hb dL_law_1836 rfl (lv_at hl 5 rfl) ?_
    refine lv_iload hx hb dL_law_1837 (lv_at hl 1 rfl) ?_
    refine lv_iconst (v := 1) hx hb dL_law_1839 (by decide) ?_
    refine lv_iadd hx hb dL_law_1840 ?_
    refine lv_topi (fun x9 ex9 => ?_)
    obtain rfl : x9 = 1 := ex9.trans (by decide)
    refine va_sld hx hb hX hbl hbA hS (vp_in_nI (n := 1) (by decide) (by decide)) dL_law_1841 ?_
    refine lv_topi (fun sy10 esy10 => ?_)
    have hyy : sy2 = sy10 := esy2.trans esy10.symm
    subst hyy
    refine lv_aload_n hx hb dL_law_1842 rfl (lv_at hl 5 rfl) ?_
    refine lv_iload hx hb dL_law_1843 (lv_at hl 1 rfl) ?_
    refine lv_iconst (v := 2) hx hb dL_law_1845 (by decide) ?_
    refine lv_iadd hx hb dL_law_1846 ?_
    refine lv_topi (fun x11 ex11 => ?_)
    obtain rfl : x11 = 2 := ex11.trans (by decide)
    refine va_sld hx hb hX hbl hbA hS (vp_in_nI (n := 2) (by decide) (by decide)) dL_law_1847 ?_
    refine lv_topi (fun sy12 esy12 => ?_)
    have hyy : sy4 = sy12 := esy4.trans esy12.symm
    subst hyy
    refine lv_aload_n hx hb dL_law_1848 rfl (lv_at hl 5 rfl) ?_
    refine lv_iload hx hb dL_law_1849 (lv_at hl 1 rfl) ?_
    refine lv_iconst (v := 3) hx hb dL_law_1851 (by decide) ?_
    refine lv_iadd hx hb dL_law_1852 ?_
    refine lv_topi (fun x13 ex13 => ?_)
    obtain rfl : x13 = 3 := ex13.trans (by decide)
    refine va_sld hx hb hX hbl hbA hS (vp_in_nI (n := 3) (by decide) (by decide)) dL_law_1853 ?_
    refine lv_topi (fun sy14 esy14 => ?_)
    have hyy : sy6 = sy14 := esy6.trans esy14.symm
    subst hyy
    have hPc := hP.sub (ws' := [(mo, .inr (13, fs)), (ra, .inl (tA, 2, .inl ((fun _ => 0))))]) [8, 9] rfl
    have hDc := hD.sub (ws' := [(mo, .inr (13, fs)), (ra, .inl (tA, 2, .inl ((fun _ => 0))))]) [8, 9] (by decide) rfl
    have hKc := hK.sub (tys' := [(tA, .int)]) [1] rfl
    have hFc := va_free (wc := [(mo, .inr (13, fs)), (ra, .inl (tA, 2, .inl ((fun _ => 0))))]) hD hS hA [8, 9] rfl
    refine va_calli (va_runV (As := [.int sy2, .int sy4, .int sy6]) (rest := []) ⟨hx, hb, hml, hown, ht⟩ (k_X12_id l d0 cO dC dI H.size mo ra tA sy2 sy4 sy6 fs hlen hf_asked hf_servers) (my_V ht M_X12_id q2389 q2390 q2388 (Nat.le_of_ble_eq_true rfl) (Nat.le_of_ble_eq_true rfl)) ⟨PRE.fb, va_recv hK hP (ci := 13) (q0 := 8) rfl rfl, fun U hU hW => ⟨rfl, PRE.mk' hE hS hFc hPc hKc hDc U hU hW⟩⟩ rfl rfl hl.1 rfl (lv_room (Nat.le_of_ble_eq_true rfl)) dL_law_1854 ⟨(Nat.le_of_ble_eq_true rfl), (Nat.le_of_ble_eq_true rfl)⟩) hS (fun q _ h => hFc q h) hFc (fun r16 u15 t H1 locs htt hvm hw hB hz1 hk1 hS => ?_)
    obtain ⟨th217, rfl⟩ : ∃ z, z = u15 := ⟨_, rfl⟩
    try dsimp only at hw hB
    obtain ⟨fs218, hx_19, hP1, hK1, hD1⟩ := hB
    rw [htt] at hP1
    have hK1 := va_K.moved hvm.symm hK1
    obtain ⟨hP, hD⟩ := va_join (wr := [(h0, .inr (12, [.ref fi, tca, .ref ea, .ref sl, tmx, tsv])), (fi, .inr (5, [fna, fla, fv2, fv3, fv4, fv5, .int 0])), (ea, .inl (tE, 2, .inr (.inr (.inr (.inr fE))))), (e0, .inr (4, [.int ei0, ev0_1, ev0_2, ev0_3, ev0_4, ev0_5, ev0_6, .ref ak0])), (e1, .inr (4, [.int ei1, ev1_1, ev1_2, ev1_3, ev1_4, ev1_5, ev1_6, .ref ak1])), (ak0, .inr (0, [.int am0, ae0, .int 0])), (ak1, .inr (0, [.int am1, ae1, .int 0])), (sl, .inr (0, [.int sm, se, .int 0]))]) (w1 := [(mo, .inr (13, fs218))]) hP hD [8, 9] [0, 1, 2, 3, 4, 5, 6, 7] rfl rfl (by decide) (by decide) hk1 hFc hP1 hD1
    have hK := (hK.sub (tys' := [(tE, .object RX3), (tA, .int)]) [0, 1] rfl).app hK1
    generalize H1 = H at hP hS ⊢
    have hP : va_P (dC, dI) vwCl [(h0, .inr (12, [.ref fi, tca, .ref ea, .ref sl, tmx, tsv])), (fi, .inr (5, [fna, fla, fv2, fv3, fv4, fv5, .int 0])), (ea, .inl (tE, 2, .inr (.inr (.inr (.inr fE))))), (e0, .inr (4, [.int ei0, ev0_1, ev0_2, ev0_3, ev0_4, ev0_5, ev0_6, .ref ak0])), (e1, .inr (4, [.int ei1, ev1_1, ev1_2, ev1_3, ev1_4, ev1_5, ev1_6, .ref ak1])), (ak0, .inr (0, [.int am0, ae0, .int 0])), (ak1, .inr (0, [.int am1, ae1, .int 0])), (sl, .inr (0, [.int sm, se, .int 0])), (mo, .inr (13, fs218))] H := hP
    have hD : va_D A [(h0, .inr (12, [.ref fi, tca, .ref ea, .ref sl, tmx, tsv])), (fi, .inr (5, [fna, fla, fv2, fv3, fv4, fv5, .int 0])), (ea, .inl (tE, 2, .inr (.inr (.inr (.inr fE))))), (e0, .inr (4, [.int ei0, ev0_1, ev0_2, ev0_3, ev0_4, ev0_5, ev0_6, .ref ak0])), (e1, .inr (4, [.int ei1, ev1_1, ev1_2, ev1_3, ev1_4, ev1_5, ev1_6, .ref ak1])), (ak0, .inr (0, [.int am0, ae0, .int 0])), (ak1, .inr (0, [.int am1, ae1, .int 0])), (sl, .inr (0, [.int sm, se, .int 0])), (mo, .inr (13, fs218))] := hD
    have hK : va_K (dC, dI) vwCl [(tE, .object RX3), (tA, .int)] s := hK
    refine W.widen (k := 269) (n := 364945) (Nat.le_of_ble_eq_true rfl) (Nat.le_of_ble_eq_true rfl) ?_
    subst hw
    refine lv_istore (lv' := [(6, .int r16), (5, .int 1), (4, .int 0), (3, .ref out), (2, .ref mo), (1, .ref h0), (0, .ref b)]) hx hb dL_law_1857 hl (by decide) rfl (fun ls hl => ?_)
    refine lv_aload_n hx hb dL_law_1859 rfl (lv_at hl 4 rfl) ?_
    have hPc := hP.sub (ws' := [(mo, .inr (13, fs218))]) [8] rfl
    have hDc := hD.sub (ws' := [(mo, .inr (13, fs218))]) [8] (by decide) rfl
    have hKc := hK.sub (tys' := []) [] rfl
    have hFc := freeNil hS hA
    refine va_calli (va_runV (As := []) (rest := []) ⟨hx, hb, hml, hown, ht⟩ (k2_thrown l d0 cO dC dI H.size mo 1 fs218 hx_19) (my_V ht M_X12_thrown q1976 q1977 q1975 (Nat.le_of_ble_eq_true rfl) (Nat.le_of_ble_eq_true rfl)) ⟨PREp.fb, va_recv hK hP (ci := 13) (q0 := 8) rfl rfl, fun U hU hW => ⟨rfl, PREp.mk' hE hS hFc hPc hKc U hU hW⟩⟩ rfl rfl hl.1 rfl (lv_room (Nat.le_of_ble_eq_true rfl)) dL_law_1860 ⟨(Nat.le_of_ble_eq_true rfl), (Nat.le_of_ble_eq_true rfl)⟩) hS (fun q _ h => hFc q h) hFc (fun r21 u20 t H1 locs htt hvm hw hB hz1 hk1 hS => ?_)
    try dsimp only at hw hB
    have hP1 := hB
    have hP := keepAll hP hk1
    generalize H1 = H at hP hS ⊢
    have hP : va_P (dC, dI) vwCl [(h0, .inr (12, [.ref fi, tca, .ref ea, .ref sl, tmx, tsv])), (fi, .inr (5, [fna, fla, fv2, fv3, fv4, fv5, .int 0])), (ea, .inl (tE, 2, .inr (.inr (.inr (.inr fE))))), (e0, .inr (4, [.int ei0, ev0_1, ev0_2, ev0_3, ev0_4, ev0_5, ev0_6, .ref ak0])), (e1, .inr (4, [.int ei1, ev1_1, ev1_2, ev1_3, ev1_4, ev1_5, ev1_6, .ref ak1])), (ak0, .inr (0, [.int am0, ae0, .int 0])), (ak1, .inr (0, [.int am1, ae1, .int 0])), (sl, .inr (0, [.int sm, se, .int 0])), (mo, .inr (13, fs218))] H := hP
    have hD : va_D A [(h0, .inr (12, [.ref fi, tca, .ref ea, .ref sl, tmx, tsv])), (fi, .inr (5, [fna, fla, fv2, fv3, fv4, fv5, .int 0])), (ea, .inl (tE, 2, .inr (.inr (.inr (.inr fE))))), (e0, .inr (4, [.int ei0, ev0_1, ev0_2, ev0_3, ev0_4, ev0_5, ev0_6, .ref ak0])), (e1, .inr (4, [.int ei1, ev1_1, ev1_2, ev1_3, ev1_4, ev1_5, ev1_6, .ref ak1])), (ak0, .inr (0, [.int am0, ae0, .int 0])), (ak1, .inr (0, [.int am1, ae1, .int 0])), (sl, .inr (0, [.int sm, se, .int 0])), (mo, .inr (13, fs218))] := hD
    have hK : va_K (dC, dI) vwCl [(tE, .object RX3), (tA, .int)] s := hK
    refine W.widen (k := 269) (n := 364945) (Nat.le_of_ble_eq_true rfl) (Nat.le_of_ble_eq_true rfl) ?_
    subst hw
    refine lv_iload hx hb dL_law_1863 (lv_at hl 1 rfl) ?_
    refine lv_icmp_eq (tgt := 1870) hx hb dL_law_1865 (by decide) (fun c22 => ?_) (fun c22 => False.elim (by revert c22; decide))
    refine lv_iload hx hb dL_law_1870 (lv_at hl 1 rfl) ?_
    refine lv_if_ne (tgt := 1887) hx hb dL_law_1872 (by decide) (fun c23 => ?_) (fun c23 => False.elim (by revert c23; decide))
    refine lv_goto (tgt := 2038) hx hb dL_law_1887 (by decide) ?_
    refine lv_iinc (v := 8) (lv' := [(4, .int 8), (6, .int r16), (5, .int 1), (3, .ref out), (2, .ref mo), (1, .ref h0), (0, .ref b)]) hx hb dL_law_2038 hl (k := 2) rfl (by decide) (by decide) rfl (fun ls hl => ?_)
    refine lv_goto (tgt := 23) hx hb dL_law_2041 (by decide) ?_
    refine lv_iload hx hb dL_law_23 (lv_at hl 0 rfl) ?_
    refine lv_aload_n hx hb dL_law_25 rfl (lv_at hl 6 rfl) ?_
    refine va_slen hx hb hX hbl hbA hS dL_law_26 ?_
    refine W.eq (g2 := F0 m 27 ls [.int 8, .int 8]) rfl ?_
    refine lv_bipush (v := 8) hx hb dL_law_27 (by decide) ?_
    refine lv_isub hx hb dL_law_29 ?_
    refine lv_topi (fun x24 ex24 => ?_)
    obtain rfl : x24 = 0 := ex24.trans (by decide)
    refine lv_icmp_gt (tgt := 2044) hx hb dL_law_30 (by decide) (fun c25 => ?_) (fun c25 => False.elim (by revert c25; decide))
    refine lv_iconst (v := 1) hx hb dL_law_2044 (by decide) ?_
    refine W.widen (k := 600002) (n := 7302232) (Nat.le_of_ble_eq_true rfl) (Nat.le_of_ble_eq_true rfl) ?_
    refine va_forget (by have h := hS.2.2; rw [hAd] at h; exact h) ?_
    exact lw_ret hx hb hr hlocks dL_law_2045
set_option maxHeartbeats 4000000 in
set_option maxRecDepth 100000 in
theorem law_file (l : Launch) (hL : l.stackTraces = false) {p : Program} {e : Env} {s : State} {m : MethodId} {below : List Frame} {meth : Method} {c : Code} {b : Nat} {xs : Nat → Int32} {d0 : Nat} {cO : ClassId} {dC : Nat → ClassId} {dI : Nat → Nat → Nat} {H : Heap} {locs : List Loc} {ls : Array Slot} {h0 mo out : Nat} {t1 t2 t3 t4 t5 : Value} {fi na la : Nat} {fv2 fv3 fv4 fv5 : Value} {tC tI : ClassId} {fn fl : Nat → Int32} {rn rl2 : Nat} {tN tL2 : ClassId} {fn fl2 : Nat → Int32} {fs : List Value} {tO : ClassId} {fo : Nat → Int64} (hlen : fs.length = 75) (hf_files : fs[2]? = some (.int 0)) (hf_name : fs[3]? = some (.ref rn)) (hf_language : fs[4]? = some (.ref rl2)) (C0 : lw_At p s m meth c b 8 xs) (hE : EN d0 cO (fun q : Nat => s.heap.size ≤ q) s s.heap) (hS : va_S (fun q : Nat => s.heap.size ≤ q) s.heap H locs) (hP : va_P (dC, dI) vwCl [(h0, .inr (12, [.ref fi, t1, t2, t3, t4, t5])), (fi, .inr (5, [.ref na, .ref la, fv2, fv3, fv4, fv5, .int 0])), (na, .inl (tC, 6, .inl fn)), (la, .inl (tI, 6, .inl fl)), (out, .inl (tO, 1, .inr (.inl fo))), (mo, .inr (13, fs)), (rn, .inl (tN, 6, .inl fn)), (rl2, .inl (tL2, 6, .inl fl2))] H) (hD : va_D (fun q : Nat => s.heap.size ≤ q) [(h0, .inr (12, [.ref fi, t1, t2, t3, t4, t5])), (fi, .inr (5, [.ref na, .ref la, fv2, fv3, fv4, fv5, .int 0])), (na, .inl (tC, 6, .inl fn)), (la, .inl (tI, 6, .inl fl)), (out, .inl (tO, 1, .inr (.inl fo))), (mo, .inr (13, fs)), (rn, .inl (tN, 6, .inl fn)), (rl2, .inl (tL2, 6, .inl fl2))]) (hK : va_K (dC, dI) vwCl [(tC, .char), (tI, .int), (tO, .long), (tN, .int), (tL2, .int)] s) (hl : lv_has ls 7 [(4, .int 0), (3, .ref out), (2, .ref mo), (1, .ref h0), (0, .ref b)]) : W p l e room_1 s m #[Value.ref b] below meth c H locs 267 364933 (lw_Z below #[Value.ref b] s) (F0 m 164 ls []) := by
  obtain ⟨hx, hb, hr, hml, hown0, hts, hX, hbl, hlocks, hgv⟩ := id C0
  have hown : s.vm.findClass RL = some m.cls := hown0
  have ht : ∀ w ∈ GT, w.before #[Value.ref b] s = true := fun w h => hts w (gt_tbl h)
  obtain ⟨A, hAd⟩ : ∃ A : Nat → Prop, A = (fun q : Nat => s.heap.size ≤ q) := ⟨_, rfl⟩
  rw [← hAd] at hE hS hD
  have hA : ∀ q : Nat, s.heap.size ≤ q → A q := fun q h => by rw [hAd]; exact h
  have hbA : ¬ A b := by rw [hAd]; exact Nat.not_le.mpr hbl
  refine lv_aload_n hx hb dL_law_164 rfl (lv_at hl 3 rfl) ?_
  refine lv_aload_n hx hb dL_law_165 rfl (lv_at hl 4 rfl) ?_
  refine lv_iload hx hb dL_law_166 (lv_at hl 0 rfl) ?_
  refine lv_iconst (v := 1) hx hb dL_law_168 (by decide) ?_
  refine lv_iadd hx hb dL_law_169 ?_
  refine lv_topi (fun x1 ex1 => ?_)
  obtain rfl : x1 = 1 := ex1.trans (by decide)
  refine va_sld hx hb hX hbl hbA hS (vp_in_nI (n := 1) (by decide) (by decide)) dL_law_170 ?_
  refine lv_topi (fun sy2 esy2 => ?_)
  refine lv_aload_n hx hb dL_law_171 rfl (lv_at hl 4 rfl) ?_
  refine lv_iload hx hb dL_law_172 (lv_at hl 0 rfl) ?_
  refine lv_iconst (v := 2) hx hb dL_law_174 (by decide) ?_
  refine lv_iadd hx hb dL_law_175 ?_
  refine lv_topi (fun x3 ex3 => ?_)
  obtain rfl : x3 = 2 := ex3.trans (by decide)
  refine va_sld hx hb hX hbl hbA hS (vp_in_nI (n := 2) (by decide) (by decide)) dL_law_176 ?_
  refine lv_topi (fun sy4 esy4 => ?_)
  refine lv_aload_n hx hb dL_law_177 rfl (lv_at hl 1 rfl) ?_
  have hPc := hP.sub (ws' := [(h0, .inr (12, [.ref fi, t1, t2, t3, t4, t5])), (fi, .inr (5, [.ref na, .ref la, fv2, fv3, fv4, fv5, .int 0])), (na, .inl (tC, 6, .inl fn)), (la, .inl (tI, 6, .inl fl)), (out, .inl (tO, 1, .inr (.inl fo)))]) [0, 1, 2, 3, 4] rfl
  have hDc := hD.sub (ws' := [(h0, .inr (12, [.ref fi, t1, t2, t3, t4, t5])), (fi, .inr (5, [.ref na, .ref la, fv2, fv3, fv4, fv5, .int 0])), (na, .inl (tC, 6, .inl fn)), (la, .inl (tI, 6, .inl fl)), (out, .inl (tO, 1, .inr (.inl fo)))]) [0, 1, 2, 3, 4] (by decide) rfl
  have hKc := hK.sub (tys' := [(tC, .char), (tI, .int), (tO, .long)]) [0, 1, 2] rfl
  have hFc := va_free (wc := [(h0, .inr (12, [.ref fi, t1, t2, t3, t4, t5])), (fi, .inr (5, [.ref na, .ref la, fv2, fv3, fv4, fv5, .int 0])), (na, .inl (tC, 6, .inl fn)), (la, .inl (tI, 6, .inl fl)), (out, .inl (tO, 1, .inr (.inl fo)))]) hD hS hA [0, 1, 2, 3, 4] rfl
  refine vx_calli (vx_runSX (As := [.ref h0, .int sy2, .int sy4, .ref out]) (rest := []) ⟨hx, hb, hml, hown, ht⟩ (k_L_file l hL d0 cO dC dI H.size h0 t1 t2 t3 t4 t5 fi na la fv2 fv3 fv4 fv5 tC tI fn fl sy2 sy4 out tO fo) (my_SW ht M_L_file q1010 q1009 (Nat.le_of_ble_eq_true rfl) (Nat.le_of_ble_eq_true rfl)) ⟨PRE.fb, fun U hU hW => ⟨rfl, PRE.mk' hE hS hFc hPc hKc hDc U hU hW⟩⟩ rfl rfl hl.1 rfl (lv_room (Nat.le_of_ble_eq_true rfl)) dL_law_178 ⟨(Nat.le_of_ble_eq_true rfl), (Nat.le_of_ble_eq_true rfl)⟩) hS (fun q _ h => hFc q h) hFc (fun q _ h => hFc q h) (fun E ce q9 ux t H1 locs htt hvm hw hB hz1 hk1 hS hcell hv9 hcl9 => ?_) (fun r6 u5 t H1 locs htt hvm hw hB hz1 hk1 hS => ?_)
  · skip
    exact hB.elim
  · skip
    obtain ⟨g7, rfl⟩ : ∃ z, z = u5 := ⟨_, rfl⟩
    try dsimp only at hw hB
    obtain ⟨hP1, hK1, hD1⟩ := hB
    rw [htt] at hP1
    have hK1 := va_K.moved hvm.symm hK1
    obtain ⟨hP, hD⟩ := va_join (wr := [(mo, .inr (13, fs)), (rn, .inl (tN, 6, .inl fn)), (rl2, .inl (tL2, 6, .inl fl2))]) (w1 := [(out, .inl (tO, 1, .inr (.inl g7)))]) hP hD [0, 1, 2, 3, 4] [5, 6, 7] rfl rfl (by decide) (by decide) hk1 hFc hP1 hD1
    have hK := (hK.sub (tys' := [(tC, .char), (tI, .int), (tO, .long), (tN, .int), (tL2, .int)]) [0, 1, 2, 3, 4] rfl).app hK1
    generalize H1 = H at hP hS ⊢
    have hP : va_P (dC, dI) vwCl [(mo, .inr (13, fs)), (rn, .inl (tN, 6, .inl fn)), (rl2, .inl (tL2, 6, .inl fl2)), (out, .inl (tO, 1, .inr (.inl g7)))] H := hP
    have hD : va_D A [(mo, .inr (13, fs)), (rn, .inl (tN, 6, .inl fn)), (rl2, .inl (tL2, 6, .inl fl2)), (out, .inl (tO, 1, .inr (.inl g7)))] := hD
    have hK : va_K (dC, dI) vwCl [(tC, .char), (tI, .int), (tO, .long), (tN, .int), (tL2, .int), (tO, .long)] s := hK
    refine W.widen (k := 268) (n := 364939) (Nat.le_of_ble_eq_true rfl) (Nat.le_of_ble_eq_true rfl) ?_
    by_cases hI8 : ((97 ≤ sy2 ∧ sy2 ≤ 122) ∧ 0 ≤ sy4 ∧ sy4 ≤ 2)
    · obtain ⟨hw, hg9⟩ := hw.1 hI8
      subst hw
      refine lv_istore (lv' := [(5, .int 0), (4, .int 0), (3, .ref out), (2, .ref mo), (1, .ref h0), (0, .ref b)]) hx hb dL_law_181 hl (by decide) rfl (fun ls hl => ?_)
      refine lv_aload_n hx hb dL_law_183 rfl (lv_at hl 3 rfl) ?_
      refine lv_aload_n hx hb dL_law_184 rfl (lv_at hl 5 rfl) ?_
      refine lv_iload hx hb dL_law_185 (lv_at hl 1 rfl) ?_
      refine lv_iconst (v := 1) hx hb dL_law_187 (by decide) ?_
      refine lv_iadd hx hb dL_law_188 ?_
      refine lv_topi (fun x10 ex10 => ?_)
      obtain rfl : x10 = 1 := ex10.trans (by decide)
      refine va_sld hx hb hX hbl hbA hS (vp_in_nI (n := 1) (by decide) (by decide)) dL_law_189 ?_
      refine lv_topi (fun sy11 esy11 => ?_)
      have hyy : sy2 = sy11 := esy2.trans esy11.symm
      subst hyy
      refine lv_aload_n hx hb dL_law_190 rfl (lv_at hl 5 rfl) ?_
      refine lv_iload hx hb dL_law_191 (lv_at hl 1 rfl) ?_
      refine lv_iconst (v := 2) hx hb dL_law_193 (by decide) ?_
      refine lv_iadd hx hb dL_law_194 ?_
      refine lv_topi (fun x12 ex12 => ?_)
      obtain rfl : x12 = 2 := ex12.trans (by decide)
      refine va_sld hx hb hX hbl hbA hS (vp_in_nI (n := 2) (by decide) (by decide)) dL_law_195 ?_
      refine lv_topi (fun sy13 esy13 => ?_)
      have hyy : sy4 = sy13 := esy4.trans esy13.symm
      subst hyy
      have hPc := hP.sub (ws' := [(mo, .inr (13, fs)), (rn, .inl (tN, 6, .inl fn)), (rl2, .inl (tL2, 6, .inl fl2))]) [0, 1, 2] rfl
      have hDc := hD.sub (ws' := [(mo, .inr (13, fs)), (rn, .inl (tN, 6, .inl fn)), (rl2, .inl (tL2, 6, .inl fl2))]) [0, 1, 2] (by decide) rfl
      have hKc := hK.sub (tys' := [(tN, .int), (tL2, .int)]) [3, 4] rfl
      have hFc := va_free (wc := [(mo, .inr (13, fs)), (rn, .inl (tN, 6, .inl fn)), (rl2, .inl (tL2, 6, .inl fl2))]) hD hS hA [0, 1, 2] rfl
      refine va_calli (va_runV (As := [.int sy2, .int sy4]) (rest := []) ⟨hx, hb, hml, hown, ht⟩ (k_X12_file l d0 cO dC dI H.size mo rn rl2 tN tL2 fn fl2 sy2 sy4 fs hlen hf_files hf_name hf_language) (my_V ht M_X12_file q1980 q1981 q1979 (Nat.le_of_ble_eq_true rfl) (Nat.le_of_ble_eq_true rfl)) ⟨PRE.fb, va_recv hK hP (ci := 13) (q0 := 0) rfl rfl, fun U hU hW => ⟨rfl, PRE.mk' hE hS hFc hPc hKc hDc U hU hW⟩⟩ rfl rfl hl.1 rfl (lv_room (Nat.le_of_ble_eq_true rfl)) dL_law_196 ⟨(Nat.le_of_ble_eq_true rfl), (Nat.le_of_ble_eq_true rfl)⟩) hS (fun q _ h => hFc q h) hFc (fun r15 u14 t H1 locs htt hvm hw hB hz1 hk1 hS => ?_)
      obtain ⟨th216, rfl⟩ : ∃ z, z = u14 := ⟨_, rfl⟩
      try dsimp only at hw hB
      obtain ⟨fs217, hx_18, hP1, hK1, hD1⟩ := hB
      rw [htt] at hP1
      have hK1 := va_K.moved hvm.symm hK1
      obtain ⟨hP, hD⟩ := va_join (wr := [(out, .inl (tO, 1, .inr (.inl g7)))]) (w1 := [(mo, .inr (13, fs217))]) hP hD [0, 1, 2] [3] rfl rfl (by decide) (by decide) hk1 hFc hP1 hD1
      have hK := (hK.sub (tys' := [(tC, .char), (tI, .int), (tO, .long), (tN, .int), (tL2, .int), (tO, .long)]) [0, 1, 2, 3, 4, 5] rfl).app hK1
      generalize H1 = H at hP hS ⊢
      have hP : va_P (dC, dI) vwCl [(out, .inl (tO, 1, .inr (.inl g7))), (mo, .inr (13, fs217))] H := hP
      have hD : va_D A [(out, .inl (tO, 1, .inr (.inl g7))), (mo, .inr (13, fs217))] := hD
      have hK : va_K (dC, dI) vwCl [(tC, .char), (tI, .int), (tO, .long), (tN, .int), (tL2, .int), (tO, .long)] s := hK
      refine W.widen (k := 268) (n := 364939) (Nat.le_of_ble_eq_true rfl) (Nat.le_of_ble_eq_true rfl) ?_
      obtain ⟨hwa, hwb⟩ := hw.1 hI8
      subst hwa
      subst hwb
      refine lv_istore (lv' := [(6, .int 0), (5, .int 0), (4, .int 0), (3, .ref out), (2, .ref mo), (1, .ref h0), (0, .ref b)]) hx hb dL_law_199 hl (by decide) rfl (fun ls hl => ?_)
      refine lv_aload_n hx hb dL_law_201 rfl (lv_at hl 4 rfl) ?_
      have hPc := hP.sub (ws' := [(mo, .inr (13, fs217))]) [1] rfl
      have hDc := hD.sub (ws' := [(mo, .inr (13, fs217))]) [1] (by decide) rfl
      have hKc := hK.sub (tys' := []) [] rfl
      have hFc := freeNil hS hA
      refine va_calli (va_runV (As := []) (rest := []) ⟨hx, hb, hml, hown, ht⟩ (k2_thrown l d0 cO dC dI H.size mo 0 fs217 hx_18) (my_V ht M_X12_thrown q1976 q1977 q1975 (Nat.le_of_ble_eq_true rfl) (Nat.le_of_ble_eq_true rfl)) ⟨PREp.fb, va_recv hK hP (ci := 13) (q0 := 1) rfl rfl, fun U hU hW => ⟨rfl, PREp.mk' hE hS hFc hPc hKc U hU hW⟩⟩ rfl rfl hl.1 rfl (lv_room (Nat.le_of_ble_eq_true rfl)) dL_law_202 ⟨(Nat.le_of_ble_eq_true rfl), (Nat.le_of_ble_eq_true rfl)⟩) hS (fun q _ h => hFc q h) hFc (fun r20 u19 t H1 locs htt hvm hw hB hz1 hk1 hS => ?_)
      try dsimp only at hw hB
      have hP1 := hB
      have hP := keepAll hP hk1
      generalize H1 = H at hP hS ⊢
      have hP : va_P (dC, dI) vwCl [(out, .inl (tO, 1, .inr (.inl g7))), (mo, .inr (13, fs217))] H := hP
      have hD : va_D A [(out, .inl (tO, 1, .inr (.inl g7))), (mo, .inr (13, fs217))] := hD
      have hK : va_K (dC, dI) vwCl [(tC, .char), (tI, .int), (tO, .long), (tN, .int), (tL2, .int), (tO, .long)] s := hK
      refine W.widen (k := 268) (n := 364939) (Nat.le_of_ble_eq_true rfl) (Nat.le_of_ble_eq_true rfl) ?_
      subst hw
      refine lv_iload hx hb dL_law_205 (lv_at hl 1 rfl) ?_
      refine lv_icmp_eq (tgt := 212) hx hb dL_law_207 (by decide) (fun c21 => ?_) (fun c21 => False.elim (by revert c21; decide))
      refine lv_iload hx hb dL_law_212 (lv_at hl 1 rfl) ?_
      refine lv_if_ne (tgt := 229) hx hb dL_law_214 (by decide) (fun c22 => False.elim (by revert c22; decide)) (fun c22 => ?_)
      refine lv_aload_n hx hb dL_law_217 rfl (lv_at hl 3 rfl) ?_
      refine lv_iconst (v := 0) hx hb dL_law_218 (by decide) ?_
      refine va_lald hx hb hK hP 0 2 rfl rfl (vp_in_nI (n := 0) (by decide) (by decide)) dL_law_219 ?_
      refine lv_iload hx hb dL_law_220 (lv_at hl 0 rfl) ?_
      refine lv_i2l (v := (0).toInt64) hx hb dL_law_222 rfl ?_
      have hz : lg_cmp (g7 0) ((0).toInt64) = 0 := by rw [hg9]; decide
      refine W.lcmp hx hb dL_law_223 ?_
      refine lv_topi (fun x23 ex23 => ?_)
      obtain rfl : x23 = 0 := ex23.trans hz
      refine lv_if_eq (tgt := 229) hx hb dL_law_224 (by decide) (fun c24 => ?_) (fun c24 => False.elim (by revert c24; decide))
      refine lv_goto (tgt := 2038) hx hb dL_law_229 (by decide) ?_
      refine lv_iinc (v := 8) (lv' := [(4, .int 8), (6, .int 0), (5, .int 0), (3, .ref out), (2, .ref mo), (1, .ref h0), (0, .ref b)]) hx hb dL_law_2038 hl (k := 2) rfl (by decide) (by decide) rfl (fun ls hl => ?_)
      refine lv_goto (tgt := 23) hx hb dL_law_2041 (by decide) ?_
      refine lv_iload hx hb dL_law_23 (lv_at hl 0 rfl) ?_
      refine lv_aload_n hx hb dL_law_25 rfl (lv_at hl 6 rfl) ?_
      refine va_slen hx hb hX hbl hbA hS dL_law_26 ?_
      refine W.eq (g2 := F0 m 27 ls [.int 8, .int 8]) rfl ?_
      refine lv_bipush (v := 8) hx hb dL_law_27 (by decide) ?_
      refine lv_isub hx hb dL_law_29 ?_
      refine lv_topi (fun x25 ex25 => ?_)
      obtain rfl : x25 = 0 := ex25.trans (by decide)
      refine lv_icmp_gt (tgt := 2044) hx hb dL_law_30 (by decide) (fun c26 => ?_) (fun c26 => False.elim (by revert c26; decide))
      refine lv_iconst (v := 1) hx hb dL_law_2044 (by decide) ?_
      refine W.widen (k := 600002) (n := 7302232) (Nat.le_of_ble_eq_true rfl) (Nat.le_of_ble_eq_true rfl) ?_
      refine va_forget (by have h := hS.2.2; rw [hAd] at h; exact h) ?_
      exact lw_ret hx hb hr hlocks dL_law_2045
    · have hw := hw.2 hI8
      subst hw
      refine lv_istore (lv' := [(5, .int 1), (4, .int 0), (3, .ref out), (2, .ref mo), (1, .ref h0), (0, .ref b)]) hx hb dL_law_181 hl (by decide) rfl (fun ls hl => ?_)
      refine lv_aload_n hx hb dL_law_183 rfl (lv_at hl 3 rfl) ?_
      refine lv_aload_n hx hb dL_law_184 rfl (lv_at hl 5 rfl) ?_
      refine lv_iload hx hb dL_law_185 (lv_at hl 1 rfl) ?_
      refine lv_iconst (v := 1) hx hb dL_law_187 (by decide) ?_
      refine lv_iadd hx hb dL_law_188 ?_
      refine lv_topi (fun x27 ex27 => ?_)
      obtain rfl : x27 = 1 := ex27.trans (by decide)
      refine va_sld hx hb hX hbl hbA hS (vp_in_nI (n := 1) (by decide) (by decide)) dL_law_189 ?_
      refine lv_topi (fun sy28 esy28 => ?_)
      have hyy : sy2 = sy28 := esy2.trans esy28.symm
      subst hyy
      refine lv_aload_n hx hb dL_law_190 rfl (lv_at hl 5 rfl) ?_
      refine lv_iload hx hb dL_law_191 (lv_at hl 1 rfl) ?_
      refine lv_iconst (v := 2) hx hb dL_law_193 (by decide) ?_
      refine lv_iadd hx hb dL_law_194 ?_
      refine lv_topi (fun x29 ex29 => ?_)
      obtain rfl : x29 = 2 := ex29.trans (by decide)
      refine va_sld hx hb hX hbl hbA hS (vp_in_nI (n := 2) (by decide) (by decide)) dL_law_195 ?_
      refine lv_topi (fun sy30 esy30 => ?_)
      have hyy : sy4 = sy30 := esy4.trans esy30.symm
      subst hyy
      have hPc := hP.sub (ws' := [(mo, .inr (13, fs)), (rn, .inl (tN, 6, .inl fn)), (rl2, .inl (tL2, 6, .inl fl2))]) [0, 1, 2] rfl
      have hDc := hD.sub (ws' := [(mo, .inr (13, fs)), (rn, .inl (tN, 6, .inl fn)), (rl2, .inl (tL2, 6, .inl fl2))]) [0, 1, 2] (by decide) rfl
      have hKc := hK.sub (tys' := [(tN, .int), (tL2, .int)]) [3, 4] rfl
      have hFc := va_free (wc := [(mo, .inr (13, fs)), (rn, .inl (tN, 6, .inl fn)), (rl2, .inl (tL2, 6, .inl fl2))]) hD hS hA [0, 1, 2] rfl
      refine va_calli (va_runV (As := [.int sy2, .int sy4]) (rest := []) ⟨hx, hb, hml, hown, ht⟩ (k_X12_file l d0 cO dC dI H.size mo rn rl2 tN tL2 fn fl2 sy2 sy4 fs hlen hf_files hf_name hf_language) (my_V ht M_X12_file q1980 q1981 q1979 (Nat.le_of_ble_eq_true rfl) (Nat.le_of_ble_eq_true rfl)) ⟨PRE.fb, va_recv hK hP (ci := 13) (q0 := 0) rfl rfl, fun U hU hW => ⟨rfl, PRE.mk' hE hS hFc hPc hKc hDc U hU hW⟩⟩ rfl rfl hl.1 rfl (lv_room (Nat.le_of_ble_eq_true rfl)) dL_law_196 ⟨(Nat.le_of_ble_eq_true rfl), (Nat.le_of_ble_eq_true rfl)⟩) hS (fun q _ h => hFc q h) hFc (fun r32 u31 t H1 locs htt hvm hw hB hz1 hk1 hS => ?_)
      obtain ⟨th233, rfl⟩ : ∃ z, z = u31 := ⟨_, rfl⟩
      try dsimp only at hw hB
      obtain ⟨fs234, hx_35, hP1, hK1, hD1⟩ := hB
      rw [htt] at hP1
      have hK1 := va_K.moved hvm.symm hK1
      obtain ⟨hP, hD⟩ := va_join (wr := [(out, .inl (tO, 1, .inr (.inl g7)))]) (w1 := [(mo, .inr (13, fs234))]) hP hD [0, 1, 2] [3] rfl rfl (by decide) (by decide) hk1 hFc hP1 hD1
      have hK := (hK.sub (tys' := [(tC, .char), (tI, .int), (tO, .long), (tN, .int), (tL2, .int), (tO, .long)]) [0, 1, 2, 3, 4, 5] rfl).app hK1
      generalize H1 = H at hP hS ⊢
      have hP : va_P (dC, dI) vwCl [(out, .inl (tO, 1, .inr (.inl g7))), (mo, .inr (13, fs234))] H := hP
      have hD : va_D A [(out, .inl (tO, 1, .inr (.inl g7))), (mo, .inr (13, fs234))] := hD
      have hK : va_K (dC, dI) vwCl [(tC, .char), (tI, .int), (tO, .long), (tN, .int), (tL2, .int), (tO, .long)] s := hK
      refine W.widen (k := 268) (n := 364939) (Nat.le_of_ble_eq_true rfl) (Nat.le_of_ble_eq_true rfl) ?_
      have hw := hw.2 hI8
      subst hw
      refine lv_istore (lv' := [(6, .int r32), (5, .int 1), (4, .int 0), (3, .ref out), (2, .ref mo), (1, .ref h0), (0, .ref b)]) hx hb dL_law_199 hl (by decide) rfl (fun ls hl => ?_)
      refine lv_aload_n hx hb dL_law_201 rfl (lv_at hl 4 rfl) ?_
      have hPc := hP.sub (ws' := [(mo, .inr (13, fs234))]) [1] rfl
      have hDc := hD.sub (ws' := [(mo, .inr (13, fs234))]) [1] (by decide) rfl
      have hKc := hK.sub (tys' := []) [] rfl
      have hFc := freeNil hS hA
      refine va_calli (va_runV (As := []) (rest := []) ⟨hx, hb, hml, hown, ht⟩ (k2_thrown l d0 cO dC dI H.size mo 1 fs234 hx_35) (my_V ht M_X12_thrown q1976 q1977 q1975 (Nat.le_of_ble_eq_true rfl) (Nat.le_of_ble_eq_true rfl)) ⟨PREp.fb, va_recv hK hP (ci := 13) (q0 := 1) rfl rfl, fun U hU hW => ⟨rfl, PREp.mk' hE hS hFc hPc hKc U hU hW⟩⟩ rfl rfl hl.1 rfl (lv_room (Nat.le_of_ble_eq_true rfl)) dL_law_202 ⟨(Nat.le_of_ble_eq_true rfl), (Nat.le_of_ble_eq_true rfl)⟩) hS (fun q _ h => hFc q h) hFc (fun r37 u36 t H1 locs htt hvm hw hB hz1 hk1 hS => ?_)
      try dsimp only at hw hB
      have hP1 := hB
      have hP := keepAll hP hk1
      generalize H1 = H at hP hS ⊢
      have hP : va_P (dC, dI) vwCl [(out, .inl (tO, 1, .inr (.inl g7))), (mo, .inr (13, fs234))] H := hP
      have hD : va_D A [(out, .inl (tO, 1, .inr (.inl g7))), (mo, .inr (13, fs234))] := hD
      have hK : va_K (dC, dI) vwCl [(tC, .char), (tI, .int), (tO, .long), (tN, .int), (tL2, .int), (tO, .long)] s := hK
      refine W.widen (k := 268) (n := 364939) (Nat.le_of_ble_eq_true rfl) (Nat.le_of_ble_eq_true rfl) ?_
      subst hw
      refine lv_iload hx hb dL_law_205 (lv_at hl 1 rfl) ?_
      refine lv_icmp_eq (tgt := 212) hx hb dL_law_207 (by decide) (fun c38 => ?_) (fun c38 => False.elim (by revert c38; decide))
      refine lv_iload hx hb dL_law_212 (lv_at hl 1 rfl) ?_
      refine lv_if_ne (tgt := 229) hx hb dL_law_214 (by decide) (fun c39 => ?_) (fun c39 => False.elim (by revert c39; decide))
      refine lv_goto (tgt := 2038) hx hb dL_law_229 (by decide) ?_
      refine lv_iinc (v := 8) (lv' := [(4, .int 8), (6, .int r32), (5, .int 1), (3, .ref out), (2, .ref mo), (1, .ref h0), (0, .ref b)]) hx hb dL_law_2038 hl (k := 2) rfl (by decide) (by decide) rfl (fun ls hl => ?_)
      refine lv_goto (tgt := 23) hx hb dL_law_2041 (by decide) ?_
      refine lv_iload hx hb dL_law_23 (lv_at hl 0 rfl) ?_
      refine lv_aload_n hx hb dL_law_25 rfl (lv_at hl 6 rfl) ?_
      refine va_slen hx hb hX hbl hbA hS dL_law_26 ?_
      refine W.eq (g2 := F0 m 27 ls [.int 8, .int 8]) rfl ?_
      refine lv_bipush (v := 8) hx hb dL_law_27 (by decide) ?_
      refine lv_isub hx hb dL_law_29 ?_
      refine lv_topi (fun x40 ex40 => ?_)
      obtain rfl : x40 = 0 := ex40.trans (by decide)
      refine lv_icmp_gt (tgt := 2044) hx hb dL_law_30 (by decide) (fun c41 => ?_) (fun c41 => False.elim (by revert c41; decide))
      refine lv_iconst (v := 1) hx hb dL_law_2044 (by decide) ?_
      refine W.widen (k := 600002) (n := 7302232) (Nat.le_of_ble_eq_true rfl) (Nat.le_of_ble_eq_true rfl) ?_
      refine va_forget (by have h := hS.2.2; rw [hAd] at h; exact h) ?_
      exact lw_ret hx hb hr hlocks dL_law_2045
set_option maxHeartbeats 4000000 in
set_option maxRecDepth 100000 in
theorem law_server (l : Launch) (hL : l.stackTraces = false) {p : Program} {e : Env} {s : State} {m : MethodId} {below : List Frame} {meth : Method} {c : Code} {b : Nat} {xs : Nat → Int32} {d0 : Nat} {cO : ClassId} {dC : Nat → ClassId} {dI : Nat → Nat → Nat} {H : Heap} {locs : List Loc} {ls : Array Slot} {h0 mo out : Nat} {sl : Nat} {t1 t2 t5 : Value} {lm : Int32} {fi : Nat} {fna fla fv2 fv3 fv4 fv5 : Value} {mx cp : Nat} {m0 m1 m2 m4 m5 m6 m7 m8 m10 m11 : Value} {m9 : Int32} {tP : ClassId} {p0 p1 p2 p3 p4 p5 : Nat} {x0 y0 z0 x1 y1 z1 x2 y2 z2 x3 y3 z3 x4 y4 z4 x5 y5 z5 : Value} {w0 g0 j0 w1 g1 j1 w2 g2 j2 w3 g3 j3 w4 g4 j4 w5 g5 j5 : Int32} {rk rl2 rs ru : Nat} {tK tL2 tS tU : ClassId} {fk fl2 f3 fu : Nat → Int32} {fs : List Value} {tO : ClassId} {fo : Nat → Int64} (hlen : fs.length = 75) (hf_files : fs[2]? = some (.int 0)) (hf_servers : fs[15]? = some (.int 0)) (hf_kinds : fs[16]? = some (.ref rk)) (hf_languages : fs[17]? = some (.ref rl2)) (hf_style : fs[18]? = some (.ref rs)) (hf_isUp : fs[19]? = some (.ref ru)) (C0 : lw_At p s m meth c b 8 xs) (hE : EN d0 cO (fun q : Nat => s.heap.size ≤ q) s s.heap) (hS : va_S (fun q : Nat => s.heap.size ≤ q) s.heap H locs) (hP : va_P (dC, dI) vwCl [(h0, .inr (12, [.ref fi, t1, t2, .ref sl, .ref mx, t5])), (fi, .inr (5, [fna, fla, fv2, fv3, fv4, fv5, .int 0])), (sl, .inr (0, [.int lm, .ref d0, .int 0])), (mx, .inr (8, [m0, m1, m2, .ref cp, m4, m5, m6, m7, m8, .int m9, m10, m11])), (cp, .inl (tP, 6, .inr (.inr (.inr (.inr ((va_up (va_up (va_up (va_up (va_up (va_up (fun _ => none) 0 (some p0)) 1 (some p1)) 2 (some p2)) 3 (some p3)) 4 (some p4)) 5 (some p5)))))))), (p0, .inr (3, [x0, y0, z0, .int w0, .int ((-1)), .int g0, .int j0])), (p1, .inr (3, [x1, y1, z1, .int w1, .int ((-1)), .int g1, .int j1])), (p2, .inr (3, [x2, y2, z2, .int w2, .int ((-1)), .int g2, .int j2])), (p3, .inr (3, [x3, y3, z3, .int w3, .int ((-1)), .int g3, .int j3])), (p4, .inr (3, [x4, y4, z4, .int w4, .int ((-1)), .int g4, .int j4])), (p5, .inr (3, [x5, y5, z5, .int w5, .int ((-1)), .int g5, .int j5])), (out, .inl (tO, 1, .inr (.inl fo))), (mo, .inr (13, fs)), (rk, .inl (tK, 3, .inl fk)), (rl2, .inl (tL2, 3, .inl fl2)), (rs, .inl (tS, 3, .inl f3)), (ru, .inl (tU, 3, .inl fu))] H) (hD : va_D (fun q : Nat => s.heap.size ≤ q) [(h0, .inr (12, [.ref fi, t1, t2, .ref sl, .ref mx, t5])), (fi, .inr (5, [fna, fla, fv2, fv3, fv4, fv5, .int 0])), (sl, .inr (0, [.int lm, .ref d0, .int 0])), (mx, .inr (8, [m0, m1, m2, .ref cp, m4, m5, m6, m7, m8, .int m9, m10, m11])), (cp, .inl (tP, 6, .inr (.inr (.inr (.inr ((va_up (va_up (va_up (va_up (va_up (va_up (fun _ => none) 0 (some p0)) 1 (some p1)) 2 (some p2)) 3 (some p3)) 4 (some p4)) 5 (some p5)))))))), (p0, .inr (3, [x0, y0, z0, .int w0, .int ((-1)), .int g0, .int j0])), (p1, .inr (3, [x1, y1, z1, .int w1, .int ((-1)), .int g1, .int j1])), (p2, .inr (3, [x2, y2, z2, .int w2, .int ((-1)), .int g2, .int j2])), (p3, .inr (3, [x3, y3, z3, .int w3, .int ((-1)), .int g3, .int j3])), (p4, .inr (3, [x4, y4, z4, .int w4, .int ((-1)), .int g4, .int j4])), (p5, .inr (3, [x5, y5, z5, .int w5, .int ((-1)), .int g5, .int j5])), (out, .inl (tO, 1, .inr (.inl fo))), (mo, .inr (13, fs)), (rk, .inl (tK, 3, .inl fk)), (rl2, .inl (tL2, 3, .inl fl2)), (rs, .inl (tS, 3, .inl f3)), (ru, .inl (tU, 3, .inl fu))]) (hK : va_K (dC, dI) vwCl [(tP, .object RX2), (tO, .long), (tK, .int), (tL2, .int), (tS, .int), (tU, .boolean)] s) (hl : lv_has ls 7 [(4, .int 0), (3, .ref out), (2, .ref mo), (1, .ref h0), (0, .ref b)]) : W p l e room_1 s m #[Value.ref b] below meth c H locs 267 364933 (lw_Z below #[Value.ref b] s) (F0 m 300 ls []) := by
  obtain ⟨hx, hb, hr, hml, hown0, hts, hX, hbl, hlocks, hgv⟩ := id C0
  have hown : s.vm.findClass RL = some m.cls := hown0
  have ht : ∀ w ∈ GT, w.before #[Value.ref b] s = true := fun w h => hts w (gt_tbl h)
  obtain ⟨A, hAd⟩ : ∃ A : Nat → Prop, A = (fun q : Nat => s.heap.size ≤ q) := ⟨_, rfl⟩
  rw [← hAd] at hE hS hD
  have hA : ∀ q : Nat, s.heap.size ≤ q → A q := fun q h => by rw [hAd]; exact h
  have hbA : ¬ A b := by rw [hAd]; exact Nat.not_le.mpr hbl
  refine lv_aload_n hx hb dL_law_300 rfl (lv_at hl 3 rfl) ?_
  refine lv_aload_n hx hb dL_law_301 rfl (lv_at hl 4 rfl) ?_
  refine lv_iload hx hb dL_law_302 (lv_at hl 0 rfl) ?_
  refine lv_iconst (v := 1) hx hb dL_law_304 (by decide) ?_
  refine lv_iadd hx hb dL_law_305 ?_
  refine lv_topi (fun x1 ex1 => ?_)
  obtain rfl : x1 = 1 := ex1.trans (by decide)
  refine va_sld hx hb hX hbl hbA hS (vp_in_nI (n := 1) (by decide) (by decide)) dL_law_306 ?_
  refine lv_topi (fun sy2 esy2 => ?_)
  refine lv_aload_n hx hb dL_law_307 rfl (lv_at hl 4 rfl) ?_
  refine lv_iload hx hb dL_law_308 (lv_at hl 0 rfl) ?_
  refine lv_iconst (v := 2) hx hb dL_law_310 (by decide) ?_
  refine lv_iadd hx hb dL_law_311 ?_
  refine lv_topi (fun x3 ex3 => ?_)
  obtain rfl : x3 = 2 := ex3.trans (by decide)
  refine va_sld hx hb hX hbl hbA hS (vp_in_nI (n := 2) (by decide) (by decide)) dL_law_312 ?_
  refine lv_topi (fun sy4 esy4 => ?_)
  refine lv_aload_n hx hb dL_law_313 rfl (lv_at hl 4 rfl) ?_
  refine lv_iload hx hb dL_law_314 (lv_at hl 0 rfl) ?_
  refine lv_iconst (v := 3) hx hb dL_law_316 (by decide) ?_
  refine lv_iadd hx hb dL_law_317 ?_
  refine lv_topi (fun x5 ex5 => ?_)
  obtain rfl : x5 = 3 := ex5.trans (by decide)
  refine va_sld hx hb hX hbl hbA hS (vp_in_nI (n := 3) (by decide) (by decide)) dL_law_318 ?_
  refine lv_topi (fun sy6 esy6 => ?_)
  refine lv_aload_n hx hb dL_law_319 rfl (lv_at hl 1 rfl) ?_
  have hPc := hP.sub (ws' := [(h0, .inr (12, [.ref fi, t1, t2, .ref sl, .ref mx, t5])), (fi, .inr (5, [fna, fla, fv2, fv3, fv4, fv5, .int 0])), (sl, .inr (0, [.int lm, .ref d0, .int 0])), (mx, .inr (8, [m0, m1, m2, .ref cp, m4, m5, m6, m7, m8, .int m9, m10, m11])), (cp, .inl (tP, 6, .inr (.inr (.inr (.inr ((va_up (va_up (va_up (va_up (va_up (va_up (fun _ => none) 0 (some p0)) 1 (some p1)) 2 (some p2)) 3 (some p3)) 4 (some p4)) 5 (some p5)))))))), (p0, .inr (3, [x0, y0, z0, .int w0, .int ((-1)), .int g0, .int j0])), (p1, .inr (3, [x1, y1, z1, .int w1, .int ((-1)), .int g1, .int j1])), (p2, .inr (3, [x2, y2, z2, .int w2, .int ((-1)), .int g2, .int j2])), (p3, .inr (3, [x3, y3, z3, .int w3, .int ((-1)), .int g3, .int j3])), (p4, .inr (3, [x4, y4, z4, .int w4, .int ((-1)), .int g4, .int j4])), (p5, .inr (3, [x5, y5, z5, .int w5, .int ((-1)), .int g5, .int j5])), (out, .inl (tO, 1, .inr (.inl fo)))]) [0, 1, 2, 3, 4, 5, 6, 7, 8, 9, 10, 11] rfl
  have hDc := hD.sub (ws' := [(h0, .inr (12, [.ref fi, t1, t2, .ref sl, .ref mx, t5])), (fi, .inr (5, [fna, fla, fv2, fv3, fv4, fv5, .int 0])), (sl, .inr (0, [.int lm, .ref d0, .int 0])), (mx, .inr (8, [m0, m1, m2, .ref cp, m4, m5, m6, m7, m8, .int m9, m10, m11])), (cp, .inl (tP, 6, .inr (.inr (.inr (.inr ((va_up (va_up (va_up (va_up (va_up (va_up (fun _ => none) 0 (some p0)) 1 (some p1)) 2 (some p2)) 3 (some p3)) 4 (some p4)) 5 (some p5)))))))), (p0, .inr (3, [x0, y0, z0, .int w0, .int ((-1)), .int g0, .int j0])), (p1, .inr (3, [x1, y1, z1, .int w1, .int ((-1)), .int g1, .int j1])), (p2, .inr (3, [x2, y2, z2, .int w2, .int ((-1)), .int g2, .int j2])), (p3, .inr (3, [x3, y3, z3, .int w3, .int ((-1)), .int g3, .int j3])), (p4, .inr (3, [x4, y4, z4, .int w4, .int ((-1)), .int g4, .int j4])), (p5, .inr (3, [x5, y5, z5, .int w5, .int ((-1)), .int g5, .int j5])), (out, .inl (tO, 1, .inr (.inl fo)))]) [0, 1, 2, 3, 4, 5, 6, 7, 8, 9, 10, 11] (by decide) rfl
  have hKc := hK.sub (tys' := [(tP, .object RX2), (tO, .long)]) [0, 1] rfl
  have hFc := va_free (wc := [(h0, .inr (12, [.ref fi, t1, t2, .ref sl, .ref mx, t5])), (fi, .inr (5, [fna, fla, fv2, fv3, fv4, fv5, .int 0])), (sl, .inr (0, [.int lm, .ref d0, .int 0])), (mx, .inr (8, [m0, m1, m2, .ref cp, m4, m5, m6, m7, m8, .int m9, m10, m11])), (cp, .inl (tP, 6, .inr (.inr (.inr (.inr ((va_up (va_up (va_up (va_up (va_up (va_up (fun _ => none) 0 (some p0)) 1 (some p1)) 2 (some p2)) 3 (some p3)) 4 (some p4)) 5 (some p5)))))))), (p0, .inr (3, [x0, y0, z0, .int w0, .int ((-1)), .int g0, .int j0])), (p1, .inr (3, [x1, y1, z1, .int w1, .int ((-1)), .int g1, .int j1])), (p2, .inr (3, [x2, y2, z2, .int w2, .int ((-1)), .int g2, .int j2])), (p3, .inr (3, [x3, y3, z3, .int w3, .int ((-1)), .int g3, .int j3])), (p4, .inr (3, [x4, y4, z4, .int w4, .int ((-1)), .int g4, .int j4])), (p5, .inr (3, [x5, y5, z5, .int w5, .int ((-1)), .int g5, .int j5])), (out, .inl (tO, 1, .inr (.inl fo)))]) hD hS hA [0, 1, 2, 3, 4, 5, 6, 7, 8, 9, 10, 11] rfl
  refine vx_calli (vx_runSX (As := [.ref h0, .int sy2, .int sy4, .int sy6, .ref out]) (rest := []) ⟨hx, hb, hml, hown, ht⟩ (k_L_server l hL d0 cO dC dI H.size h0 sl t1 t2 t5 lm fi fna fla fv2 fv3 fv4 fv5 mx cp m0 m1 m2 m4 m5 m6 m7 m8 m10 m11 m9 tP p0 p1 p2 p3 p4 p5 x0 y0 z0 x1 y1 z1 x2 y2 z2 x3 y3 z3 x4 y4 z4 x5 y5 z5 w0 g0 j0 w1 g1 j1 w2 g2 j2 w3 g3 j3 w4 g4 j4 w5 g5 j5 sy2 sy4 sy6 out tO fo) (my_SW ht M_L_server q1181 q1180 (Nat.le_of_ble_eq_true rfl) (Nat.le_of_ble_eq_true rfl)) ⟨PRE.fb, fun U hU hW => ⟨rfl, PRE.mk' hE hS hFc hPc hKc hDc U hU hW⟩⟩ rfl rfl hl.1 rfl (lv_room (Nat.le_of_ble_eq_true rfl)) dL_law_320 ⟨(Nat.le_of_ble_eq_true rfl), (Nat.le_of_ble_eq_true rfl)⟩) hS (fun q _ h => hFc q h) hFc (fun q _ h => hFc q h) (fun E ce q9 ux t H1 locs htt hvm hw hB hz1 hk1 hS hcell hv9 hcl9 => ?_) (fun r8 u7 t H1 locs htt hvm hw hB hz1 hk1 hS => ?_)
  · skip
    exact hB.elim
  · skip
    obtain ⟨g9, rfl⟩ : ∃ z, z = u7 := ⟨_, rfl⟩
    try dsimp only at hw hB
    obtain ⟨hP1, hK1, hD1⟩ := hB
    rw [htt] at hP1
    have hK1 := va_K.moved hvm.symm hK1
    obtain ⟨hP, hD⟩ := va_join (wr := [(mo, .inr (13, fs)), (rk, .inl (tK, 3, .inl fk)), (rl2, .inl (tL2, 3, .inl fl2)), (rs, .inl (tS, 3, .inl f3)), (ru, .inl (tU, 3, .inl fu))]) (w1 := [(out, .inl (tO, 1, .inr (.inl g9)))]) hP hD [0, 1, 2, 3, 4, 5, 6, 7, 8, 9, 10, 11] [12, 13, 14, 15, 16] rfl rfl (by decide) (by decide) hk1 hFc hP1 hD1
    have hK := (hK.sub (tys' := [(tP, .object RX2), (tO, .long), (tK, .int), (tL2, .int), (tS, .int), (tU, .boolean)]) [0, 1, 2, 3, 4, 5] rfl).app hK1
    generalize H1 = H at hP hS ⊢
    have hP : va_P (dC, dI) vwCl [(mo, .inr (13, fs)), (rk, .inl (tK, 3, .inl fk)), (rl2, .inl (tL2, 3, .inl fl2)), (rs, .inl (tS, 3, .inl f3)), (ru, .inl (tU, 3, .inl fu)), (out, .inl (tO, 1, .inr (.inl g9)))] H := hP
    have hD : va_D A [(mo, .inr (13, fs)), (rk, .inl (tK, 3, .inl fk)), (rl2, .inl (tL2, 3, .inl fl2)), (rs, .inl (tS, 3, .inl f3)), (ru, .inl (tU, 3, .inl fu)), (out, .inl (tO, 1, .inr (.inl g9)))] := hD
    have hK : va_K (dC, dI) vwCl [(tP, .object RX2), (tO, .long), (tK, .int), (tL2, .int), (tS, .int), (tU, .boolean), (tO, .long)] s := hK
    refine W.widen (k := 307) (n := 366440) (Nat.le_of_ble_eq_true rfl) (Nat.le_of_ble_eq_true rfl) ?_
    by_cases hI10 : ((1 ≤ sy2 ∧ sy2 ≤ 63) ∧ (1 ≤ sy4 ∧ sy4 ≤ 7) ∧ 0 ≤ sy6 ∧ sy6 ≤ 2)
    · obtain ⟨hw, hg11⟩ := hw.1 hI10
      subst hw
      refine lv_istore (lv' := [(5, .int 0), (4, .int 0), (3, .ref out), (2, .ref mo), (1, .ref h0), (0, .ref b)]) hx hb dL_law_323 hl (by decide) rfl (fun ls hl => ?_)
      refine lv_aload_n hx hb dL_law_325 rfl (lv_at hl 3 rfl) ?_
      refine lv_aload_n hx hb dL_law_326 rfl (lv_at hl 5 rfl) ?_
      refine lv_iload hx hb dL_law_327 (lv_at hl 1 rfl) ?_
      refine lv_iconst (v := 1) hx hb dL_law_329 (by decide) ?_
      refine lv_iadd hx hb dL_law_330 ?_
      refine lv_topi (fun x12 ex12 => ?_)
      obtain rfl : x12 = 1 := ex12.trans (by decide)
      refine va_sld hx hb hX hbl hbA hS (vp_in_nI (n := 1) (by decide) (by decide)) dL_law_331 ?_
      refine lv_topi (fun sy13 esy13 => ?_)
      have hyy : sy2 = sy13 := esy2.trans esy13.symm
      subst hyy
      refine lv_aload_n hx hb dL_law_332 rfl (lv_at hl 5 rfl) ?_
      refine lv_iload hx hb dL_law_333 (lv_at hl 1 rfl) ?_
      refine lv_iconst (v := 2) hx hb dL_law_335 (by decide) ?_
      refine lv_iadd hx hb dL_law_336 ?_
      refine lv_topi (fun x14 ex14 => ?_)
      obtain rfl : x14 = 2 := ex14.trans (by decide)
      refine va_sld hx hb hX hbl hbA hS (vp_in_nI (n := 2) (by decide) (by decide)) dL_law_337 ?_
      refine lv_topi (fun sy15 esy15 => ?_)
      have hyy : sy4 = sy15 := esy4.trans esy15.symm
      subst hyy
      refine lv_aload_n hx hb dL_law_338 rfl (lv_at hl 5 rfl) ?_
      refine lv_iload hx hb dL_law_339 (lv_at hl 1 rfl) ?_
      refine lv_iconst (v := 3) hx hb dL_law_341 (by decide) ?_
      refine lv_iadd hx hb dL_law_342 ?_
      refine lv_topi (fun x16 ex16 => ?_)
      obtain rfl : x16 = 3 := ex16.trans (by decide)
      refine va_sld hx hb hX hbl hbA hS (vp_in_nI (n := 3) (by decide) (by decide)) dL_law_343 ?_
      refine lv_topi (fun sy17 esy17 => ?_)
      have hyy : sy6 = sy17 := esy6.trans esy17.symm
      subst hyy
      have hPc := hP.sub (ws' := [(mo, .inr (13, fs)), (rk, .inl (tK, 3, .inl fk)), (rl2, .inl (tL2, 3, .inl fl2)), (rs, .inl (tS, 3, .inl f3)), (ru, .inl (tU, 3, .inl fu))]) [0, 1, 2, 3, 4] rfl
      have hDc := hD.sub (ws' := [(mo, .inr (13, fs)), (rk, .inl (tK, 3, .inl fk)), (rl2, .inl (tL2, 3, .inl fl2)), (rs, .inl (tS, 3, .inl f3)), (ru, .inl (tU, 3, .inl fu))]) [0, 1, 2, 3, 4] (by decide) rfl
      have hKc := hK.sub (tys' := [(tK, .int), (tL2, .int), (tS, .int), (tU, .boolean)]) [2, 3, 4, 5] rfl
      have hFc := va_free (wc := [(mo, .inr (13, fs)), (rk, .inl (tK, 3, .inl fk)), (rl2, .inl (tL2, 3, .inl fl2)), (rs, .inl (tS, 3, .inl f3)), (ru, .inl (tU, 3, .inl fu))]) hD hS hA [0, 1, 2, 3, 4] rfl
      refine va_calli (va_runV (As := [.int sy2, .int sy4, .int sy6]) (rest := []) ⟨hx, hb, hml, hown, ht⟩ (k_X12_server l d0 cO dC dI H.size mo rk rl2 rs ru tK tL2 tS tU fk fl2 f3 fu sy2 sy4 sy6 fs hlen hf_files hf_servers hf_kinds hf_languages hf_style hf_isUp) (my_V ht M_X12_server q2023 q2024 q2022 (Nat.le_of_ble_eq_true rfl) (Nat.le_of_ble_eq_true rfl)) ⟨PRE.fb, va_recv hK hP (ci := 13) (q0 := 0) rfl rfl, fun U hU hW => ⟨rfl, PRE.mk' hE hS hFc hPc hKc hDc U hU hW⟩⟩ rfl rfl hl.1 rfl (lv_room (Nat.le_of_ble_eq_true rfl)) dL_law_344 ⟨(Nat.le_of_ble_eq_true rfl), (Nat.le_of_ble_eq_true rfl)⟩) hS (fun q _ h => hFc q h) hFc (fun r19 u18 t H1 locs htt hvm hw hB hz1 hk1 hS => ?_)
      obtain ⟨th220, rfl⟩ : ∃ z, z = u18 := ⟨_, rfl⟩
      try dsimp only at hw hB
      obtain ⟨fs221, hx_22, hP1, hK1, hD1⟩ := hB
      rw [htt] at hP1
      have hK1 := va_K.moved hvm.symm hK1
      obtain ⟨hP, hD⟩ := va_join (wr := [(out, .inl (tO, 1, .inr (.inl g9)))]) (w1 := [(mo, .inr (13, fs221))]) hP hD [0, 1, 2, 3, 4] [5] rfl rfl (by decide) (by decide) hk1 hFc hP1 hD1
      have hK := (hK.sub (tys' := [(tP, .object RX2), (tO, .long), (tK, .int), (tL2, .int), (tS, .int), (tU, .boolean), (tO, .long)]) [0, 1, 2, 3, 4, 5, 6] rfl).app hK1
      generalize H1 = H at hP hS ⊢
      have hP : va_P (dC, dI) vwCl [(out, .inl (tO, 1, .inr (.inl g9))), (mo, .inr (13, fs221))] H := hP
      have hD : va_D A [(out, .inl (tO, 1, .inr (.inl g9))), (mo, .inr (13, fs221))] := hD
      have hK : va_K (dC, dI) vwCl [(tP, .object RX2), (tO, .long), (tK, .int), (tL2, .int), (tS, .int), (tU, .boolean), (tO, .long)] s := hK
      refine W.widen (k := 307) (n := 366440) (Nat.le_of_ble_eq_true rfl) (Nat.le_of_ble_eq_true rfl) ?_
      obtain ⟨hwa, hwb⟩ := hw.1 hI10
      subst hwa
      subst hwb
      refine lv_istore (lv' := [(6, .int 0), (5, .int 0), (4, .int 0), (3, .ref out), (2, .ref mo), (1, .ref h0), (0, .ref b)]) hx hb dL_law_347 hl (by decide) rfl (fun ls hl => ?_)
      refine lv_aload_n hx hb dL_law_349 rfl (lv_at hl 4 rfl) ?_
      have hPc := hP.sub (ws' := [(mo, .inr (13, fs221))]) [1] rfl
      have hDc := hD.sub (ws' := [(mo, .inr (13, fs221))]) [1] (by decide) rfl
      have hKc := hK.sub (tys' := []) [] rfl
      have hFc := freeNil hS hA
      refine va_calli (va_runV (As := []) (rest := []) ⟨hx, hb, hml, hown, ht⟩ (k2_thrown l d0 cO dC dI H.size mo 0 fs221 hx_22) (my_V ht M_X12_thrown q1976 q1977 q1975 (Nat.le_of_ble_eq_true rfl) (Nat.le_of_ble_eq_true rfl)) ⟨PREp.fb, va_recv hK hP (ci := 13) (q0 := 1) rfl rfl, fun U hU hW => ⟨rfl, PREp.mk' hE hS hFc hPc hKc U hU hW⟩⟩ rfl rfl hl.1 rfl (lv_room (Nat.le_of_ble_eq_true rfl)) dL_law_350 ⟨(Nat.le_of_ble_eq_true rfl), (Nat.le_of_ble_eq_true rfl)⟩) hS (fun q _ h => hFc q h) hFc (fun r24 u23 t H1 locs htt hvm hw hB hz1 hk1 hS => ?_)
      try dsimp only at hw hB
      have hP1 := hB
      have hP := keepAll hP hk1
      generalize H1 = H at hP hS ⊢
      have hP : va_P (dC, dI) vwCl [(out, .inl (tO, 1, .inr (.inl g9))), (mo, .inr (13, fs221))] H := hP
      have hD : va_D A [(out, .inl (tO, 1, .inr (.inl g9))), (mo, .inr (13, fs221))] := hD
      have hK : va_K (dC, dI) vwCl [(tP, .object RX2), (tO, .long), (tK, .int), (tL2, .int), (tS, .int), (tU, .boolean), (tO, .long)] s := hK
      refine W.widen (k := 307) (n := 366440) (Nat.le_of_ble_eq_true rfl) (Nat.le_of_ble_eq_true rfl) ?_
      subst hw
      refine lv_iload hx hb dL_law_353 (lv_at hl 1 rfl) ?_
      refine lv_icmp_eq (tgt := 360) hx hb dL_law_355 (by decide) (fun c25 => ?_) (fun c25 => False.elim (by revert c25; decide))
      refine lv_iload hx hb dL_law_360 (lv_at hl 1 rfl) ?_
      refine lv_if_ne (tgt := 377) hx hb dL_law_362 (by decide) (fun c26 => False.elim (by revert c26; decide)) (fun c26 => ?_)
      refine lv_aload_n hx hb dL_law_365 rfl (lv_at hl 3 rfl) ?_
      refine lv_iconst (v := 0) hx hb dL_law_366 (by decide) ?_
      refine va_lald hx hb hK hP 0 1 rfl rfl (vp_in_nI (n := 0) (by decide) (by decide)) dL_law_367 ?_
      refine lv_iload hx hb dL_law_368 (lv_at hl 0 rfl) ?_
      refine lv_i2l (v := (0).toInt64) hx hb dL_law_370 rfl ?_
      have hz : lg_cmp (g9 0) ((0).toInt64) = 0 := by rw [hg11]; decide
      refine W.lcmp hx hb dL_law_371 ?_
      refine lv_topi (fun x27 ex27 => ?_)
      obtain rfl : x27 = 0 := ex27.trans hz
      refine lv_if_eq (tgt := 377) hx hb dL_law_372 (by decide) (fun c28 => ?_) (fun c28 => False.elim (by revert c28; decide))
      refine lv_goto (tgt := 2038) hx hb dL_law_377 (by decide) ?_
      refine lv_iinc (v := 8) (lv' := [(4, .int 8), (6, .int 0), (5, .int 0), (3, .ref out), (2, .ref mo), (1, .ref h0), (0, .ref b)]) hx hb dL_law_2038 hl (k := 2) rfl (by decide) (by decide) rfl (fun ls hl => ?_)
      refine lv_goto (tgt := 23) hx hb dL_law_2041 (by decide) ?_
      refine lv_iload hx hb dL_law_23 (lv_at hl 0 rfl) ?_
      refine lv_aload_n hx hb dL_law_25 rfl (lv_at hl 6 rfl) ?_
      refine va_slen hx hb hX hbl hbA hS dL_law_26 ?_
      refine W.eq (g2 := F0 m 27 ls [.int 8, .int 8]) rfl ?_
      refine lv_bipush (v := 8) hx hb dL_law_27 (by decide) ?_
      refine lv_isub hx hb dL_law_29 ?_
      refine lv_topi (fun x29 ex29 => ?_)
      obtain rfl : x29 = 0 := ex29.trans (by decide)
      refine lv_icmp_gt (tgt := 2044) hx hb dL_law_30 (by decide) (fun c30 => ?_) (fun c30 => False.elim (by revert c30; decide))
      refine lv_iconst (v := 1) hx hb dL_law_2044 (by decide) ?_
      refine W.widen (k := 600002) (n := 7302232) (Nat.le_of_ble_eq_true rfl) (Nat.le_of_ble_eq_true rfl) ?_
      refine va_forget (by have h := hS.2.2; rw [hAd] at h; exact h) ?_
      exact lw_ret hx hb hr hlocks dL_law_2045
    · have hw := hw.2 hI10
      subst hw
      refine lv_istore (lv' := [(5, .int 1), (4, .int 0), (3, .ref out), (2, .ref mo), (1, .ref h0), (0, .ref b)]) hx hb dL_law_323 hl (by decide) rfl (fun ls hl => ?_)
      refine lv_aload_n hx hb dL_law_325 rfl (lv_at hl 3 rfl) ?_
      refine lv_aload_n hx hb dL_law_326 rfl (lv_at hl 5 rfl) ?_
      refine lv_iload hx hb dL_law_327 (lv_at hl 1 rfl) ?_
      refine lv_iconst (v := 1) hx hb dL_law_329 (by decide) ?_
      refine lv_iadd hx hb dL_law_330 ?_
      refine lv_topi (fun x31 ex31 => ?_)
      obtain rfl : x31 = 1 := ex31.trans (by decide)
      refine va_sld hx hb hX hbl hbA hS (vp_in_nI (n := 1) (by decide) (by decide)) dL_law_331 ?_
      refine lv_topi (fun sy32 esy32 => ?_)
      have hyy : sy2 = sy32 := esy2.trans esy32.symm
      subst hyy
      refine lv_aload_n hx hb dL_law_332 rfl (lv_at hl 5 rfl) ?_
      refine lv_iload hx hb dL_law_333 (lv_at hl 1 rfl) ?_
      refine lv_iconst (v := 2) hx hb dL_law_335 (by decide) ?_
      refine lv_iadd hx hb dL_law_336 ?_
      refine lv_topi (fun x33 ex33 => ?_)
      obtain rfl : x33 = 2 := ex33.trans (by decide)
      refine va_sld hx hb hX hbl hbA hS (vp_in_nI (n := 2) (by decide) (by decide)) dL_law_337 ?_
      refine lv_topi (fun sy34 esy34 => ?_)
      have hyy : sy4 = sy34 := esy4.trans esy34.symm
      subst hyy
      refine lv_aload_n hx hb dL_law_338 rfl (lv_at hl 5 rfl) ?_
      refine lv_iload hx hb dL_law_339 (lv_at hl 1 rfl) ?_
      refine lv_iconst (v := 3) hx hb dL_law_341 (by decide) ?_
      refine lv_iadd hx hb dL_law_342 ?_
      refine lv_topi (fun x35 ex35 => ?_)
      obtain rfl : x35 = 3 := ex35.trans (by decide)
      refine va_sld hx hb hX hbl hbA hS (vp_in_nI (n := 3) (by decide) (by decide)) dL_law_343 ?_
      refine lv_topi (fun sy36 esy36 => ?_)
      have hyy : sy6 = sy36 := esy6.trans esy36.symm
      subst hyy
      have hPc := hP.sub (ws' := [(mo, .inr (13, fs)), (rk, .inl (tK, 3, .inl fk)), (rl2, .inl (tL2, 3, .inl fl2)), (rs, .inl (tS, 3, .inl f3)), (ru, .inl (tU, 3, .inl fu))]) [0, 1, 2, 3, 4] rfl
      have hDc := hD.sub (ws' := [(mo, .inr (13, fs)), (rk, .inl (tK, 3, .inl fk)), (rl2, .inl (tL2, 3, .inl fl2)), (rs, .inl (tS, 3, .inl f3)), (ru, .inl (tU, 3, .inl fu))]) [0, 1, 2, 3, 4] (by decide) rfl
      have hKc := hK.sub (tys' := [(tK, .int), (tL2, .int), (tS, .int), (tU, .boolean)]) [2, 3, 4, 5] rfl
      have hFc := va_free (wc := [(mo, .inr (13, fs)), (rk, .inl (tK, 3, .inl fk)), (rl2, .inl (tL2, 3, .inl fl2)), (rs, .inl (tS, 3, .inl f3)), (ru, .inl (tU, 3, .inl fu))]) hD hS hA [0, 1, 2, 3, 4] rfl
      refine va_calli (va_runV (As := [.int sy2, .int sy4, .int sy6]) (rest := []) ⟨hx, hb, hml, hown, ht⟩ (k_X12_server l d0 cO dC dI H.size mo rk rl2 rs ru tK tL2 tS tU fk fl2 f3 fu sy2 sy4 sy6 fs hlen hf_files hf_servers hf_kinds hf_languages hf_style hf_isUp) (my_V ht M_X12_server q2023 q2024 q2022 (Nat.le_of_ble_eq_true rfl) (Nat.le_of_ble_eq_true rfl)) ⟨PRE.fb, va_recv hK hP (ci := 13) (q0 := 0) rfl rfl, fun U hU hW => ⟨rfl, PRE.mk' hE hS hFc hPc hKc hDc U hU hW⟩⟩ rfl rfl hl.1 rfl (lv_room (Nat.le_of_ble_eq_true rfl)) dL_law_344 ⟨(Nat.le_of_ble_eq_true rfl), (Nat.le_of_ble_eq_true rfl)⟩) hS (fun q _ h => hFc q h) hFc (fun r38 u37 t H1 locs htt hvm hw hB hz1 hk1 hS => ?_)
      obtain ⟨th239, rfl⟩ : ∃ z, z = u37 := ⟨_, rfl⟩
      try dsimp only at hw hB
      obtain ⟨fs240, hx_41, hP1, hK1, hD1⟩ := hB
      rw [htt] at hP1
      have hK1 := va_K.moved hvm.symm hK1
      obtain ⟨hP, hD⟩ := va_join (wr := [(out, .inl (tO, 1, .inr (.inl g9)))]) (w1 := [(mo, .inr (13, fs240))]) hP hD [0, 1, 2, 3, 4] [5] rfl rfl (by decide) (by decide) hk1 hFc hP1 hD1
      have hK := (hK.sub (tys' := [(tP, .object RX2), (tO, .long), (tK, .int), (tL2, .int), (tS, .int), (tU, .boolean), (tO, .long)]) [0, 1, 2, 3, 4, 5, 6] rfl).app hK1
      generalize H1 = H at hP hS ⊢
      have hP : va_P (dC, dI) vwCl [(out, .inl (tO, 1, .inr (.inl g9))), (mo, .inr (13, fs240))] H := hP
      have hD : va_D A [(out, .inl (tO, 1, .inr (.inl g9))), (mo, .inr (13, fs240))] := hD
      have hK : va_K (dC, dI) vwCl [(tP, .object RX2), (tO, .long), (tK, .int), (tL2, .int), (tS, .int), (tU, .boolean), (tO, .long)] s := hK
      refine W.widen (k := 307) (n := 366440) (Nat.le_of_ble_eq_true rfl) (Nat.le_of_ble_eq_true rfl) ?_
      have hw := hw.2 hI10
      subst hw
      refine lv_istore (lv' := [(6, .int r38), (5, .int 1), (4, .int 0), (3, .ref out), (2, .ref mo), (1, .ref h0), (0, .ref b)]) hx hb dL_law_347 hl (by decide) rfl (fun ls hl => ?_)
      refine lv_aload_n hx hb dL_law_349 rfl (lv_at hl 4 rfl) ?_
      have hPc := hP.sub (ws' := [(mo, .inr (13, fs240))]) [1] rfl
      have hDc := hD.sub (ws' := [(mo, .inr (13, fs240))]) [1] (by decide) rfl
      have hKc := hK.sub (tys' := []) [] rfl
      have hFc := freeNil hS hA
      refine va_calli (va_runV (As := []) (rest := []) ⟨hx, hb, hml, hown, ht⟩ (k2_thrown l d0 cO dC dI H.size mo 1 fs240 hx_41) (my_V ht M_X12_thrown q1976 q1977 q1975 (Nat.le_of_ble_eq_true rfl) (Nat.le_of_ble_eq_true rfl)) ⟨PREp.fb, va_recv hK hP (ci := 13) (q0 := 1) rfl rfl, fun U hU hW => ⟨rfl, PREp.mk' hE hS hFc hPc hKc U hU hW⟩⟩ rfl rfl hl.1 rfl (lv_room (Nat.le_of_ble_eq_true rfl)) dL_law_350 ⟨(Nat.le_of_ble_eq_true rfl), (Nat.le_of_ble_eq_true rfl)⟩) hS (fun q _ h => hFc q h) hFc (fun r43 u42 t H1 locs htt hvm hw hB hz1 hk1 hS => ?_)
      try dsimp only at hw hB
      have hP1 := hB
      have hP := keepAll hP hk1
      generalize H1 = H at hP hS ⊢
      have hP : va_P (dC, dI) vwCl [(out, .inl (tO, 1, .inr (.inl g9))), (mo, .inr (13, fs240))] H := hP
      have hD : va_D A [(out, .inl (tO, 1, .inr (.inl g9))), (mo, .inr (13, fs240))] := hD
      have hK : va_K (dC, dI) vwCl [(tP, .object RX2), (tO, .long), (tK, .int), (tL2, .int), (tS, .int), (tU, .boolean), (tO, .long)] s := hK
      refine W.widen (k := 307) (n := 366440) (Nat.le_of_ble_eq_true rfl) (Nat.le_of_ble_eq_true rfl) ?_
      subst hw
      refine lv_iload hx hb dL_law_353 (lv_at hl 1 rfl) ?_
      refine lv_icmp_eq (tgt := 360) hx hb dL_law_355 (by decide) (fun c44 => ?_) (fun c44 => False.elim (by revert c44; decide))
      refine lv_iload hx hb dL_law_360 (lv_at hl 1 rfl) ?_
      refine lv_if_ne (tgt := 377) hx hb dL_law_362 (by decide) (fun c45 => ?_) (fun c45 => False.elim (by revert c45; decide))
      refine lv_goto (tgt := 2038) hx hb dL_law_377 (by decide) ?_
      refine lv_iinc (v := 8) (lv' := [(4, .int 8), (6, .int r38), (5, .int 1), (3, .ref out), (2, .ref mo), (1, .ref h0), (0, .ref b)]) hx hb dL_law_2038 hl (k := 2) rfl (by decide) (by decide) rfl (fun ls hl => ?_)
      refine lv_goto (tgt := 23) hx hb dL_law_2041 (by decide) ?_
      refine lv_iload hx hb dL_law_23 (lv_at hl 0 rfl) ?_
      refine lv_aload_n hx hb dL_law_25 rfl (lv_at hl 6 rfl) ?_
      refine va_slen hx hb hX hbl hbA hS dL_law_26 ?_
      refine W.eq (g2 := F0 m 27 ls [.int 8, .int 8]) rfl ?_
      refine lv_bipush (v := 8) hx hb dL_law_27 (by decide) ?_
      refine lv_isub hx hb dL_law_29 ?_
      refine lv_topi (fun x46 ex46 => ?_)
      obtain rfl : x46 = 0 := ex46.trans (by decide)
      refine lv_icmp_gt (tgt := 2044) hx hb dL_law_30 (by decide) (fun c47 => ?_) (fun c47 => False.elim (by revert c47; decide))
      refine lv_iconst (v := 1) hx hb dL_law_2044 (by decide) ?_
      refine W.widen (k := 600002) (n := 7302232) (Nat.le_of_ble_eq_true rfl) (Nat.le_of_ble_eq_true rfl) ?_
      refine va_forget (by have h := hS.2.2; rw [hAd] at h; exact h) ?_
      exact lw_ret hx hb hr hlocks dL_law_2045
set_option maxHeartbeats 4000000 in
set_option maxRecDepth 100000 in
theorem law_deliver (l : Launch) (hL : l.stackTraces = false) {p : Program} {e : Env} {s : State} {m : MethodId} {below : List Frame} {meth : Method} {c : Code} {b : Nat} {xs : Nat → Int32} {d0 : Nat} {cO : ClassId} {dC : Nat → ClassId} {dI : Nat → Nat → Nat} {H : Heap} {locs : List Loc} {ls : Array Slot} {h0 mo out : Nat} {ca : Nat} {t0 t2 t3 t4 t5 : Value} {tH : ClassId} {ch0 ch1 ch2 ch3 ch4 ch5 ch6 ch7 ch8 ch9 : Nat} {lc0 lc1 lc2 lc3 lc4 lc5 lc6 lc7 lc8 lc9 : Nat} {lm0 lm1 lm2 lm3 lm4 lm5 lm6 lm7 lm8 lm9 : Int32} {le0 le1 le2 le3 le4 le5 le6 le7 le8 le9 : Value} {rf : Nat} {tF : ClassId} {fr : Nat → Int32} {fs : List Value} {tO : ClassId} {fo : Nat → Int64} (hfr : ∀ j : Nat, j < 10 → fr j = -1) (hlen : fs.length = 75) (hf_front : fs[56]? = some (.ref rf)) (C0 : lw_At p s m meth c b 8 xs) (hE : EN d0 cO (fun q : Nat => s.heap.size ≤ q) s s.heap) (hS : va_S (fun q : Nat => s.heap.size ≤ q) s.heap H locs) (hP : va_P (dC, dI) vwCl [(h0, .inr (12, [t0, .ref ca, t2, t3, t4, t5])), (ca, .inl (tH, 10, .inr (.inr (.inr (.inr ((va_up (va_up (va_up (va_up (va_up (va_up (va_up (va_up (va_up (va_up (fun _ => none) 0 (some ch0)) 1 (some ch1)) 2 (some ch2)) 3 (some ch3)) 4 (some ch4)) 5 (some ch5)) 6 (some ch6)) 7 (some ch7)) 8 (some ch8)) 9 (some ch9)))))))), (ch0, .inr (2, [.ref lc0])), (ch1, .inr (2, [.ref lc1])), (ch2, .inr (2, [.ref lc2])), (ch3, .inr (2, [.ref lc3])), (ch4, .inr (2, [.ref lc4])), (ch5, .inr (2, [.ref lc5])), (ch6, .inr (2, [.ref lc6])), (ch7, .inr (2, [.ref lc7])), (ch8, .inr (2, [.ref lc8])), (ch9, .inr (2, [.ref lc9])), (lc0, .inr (0, [.int lm0, le0, .int 0])), (lc1, .inr (0, [.int lm1, le1, .int 0])), (lc2, .inr (0, [.int lm2, le2, .int 0])), (lc3, .inr (0, [.int lm3, le3, .int 0])), (lc4, .inr (0, [.int lm4, le4, .int 0])), (lc5, .inr (0, [.int lm5, le5, .int 0])), (lc6, .inr (0, [.int lm6, le6, .int 0])), (lc7, .inr (0, [.int lm7, le7, .int 0])), (lc8, .inr (0, [.int lm8, le8, .int 0])), (lc9, .inr (0, [.int lm9, le9, .int 0])), (out, .inl (tO, 1, .inr (.inl fo))), (mo, .inr (13, fs)), (rf, .inl (tF, 10, .inl fr))] H) (hD : va_D (fun q : Nat => s.heap.size ≤ q) [(h0, .inr (12, [t0, .ref ca, t2, t3, t4, t5])), (ca, .inl (tH, 10, .inr (.inr (.inr (.inr ((va_up (va_up (va_up (va_up (va_up (va_up (va_up (va_up (va_up (va_up (fun _ => none) 0 (some ch0)) 1 (some ch1)) 2 (some ch2)) 3 (some ch3)) 4 (some ch4)) 5 (some ch5)) 6 (some ch6)) 7 (some ch7)) 8 (some ch8)) 9 (some ch9)))))))), (ch0, .inr (2, [.ref lc0])), (ch1, .inr (2, [.ref lc1])), (ch2, .inr (2, [.ref lc2])), (ch3, .inr (2, [.ref lc3])), (ch4, .inr (2, [.ref lc4])), (ch5, .inr (2, [.ref lc5])), (ch6, .inr (2, [.ref lc6])), (ch7, .inr (2, [.ref lc7])), (ch8, .inr (2, [.ref lc8])), (ch9, .inr (2, [.ref lc9])), (lc0, .inr (0, [.int lm0, le0, .int 0])), (lc1, .inr (0, [.int lm1, le1, .int 0])), (lc2, .inr (0, [.int lm2, le2, .int 0])), (lc3, .inr (0, [.int lm3, le3, .int 0])), (lc4, .inr (0, [.int lm4, le4, .int 0])), (lc5, .inr (0, [.int lm5, le5, .int 0])), (lc6, .inr (0, [.int lm6, le6, .int 0])), (lc7, .inr (0, [.int lm7, le7, .int 0])), (lc8, .inr (0, [.int lm8, le8, .int 0])), (lc9, .inr (0, [.int lm9, le9, .int 0])), (out, .inl (tO, 1, .inr (.inl fo))), (mo, .inr (13, fs)), (rf, .inl (tF, 10, .inl fr))]) (hK : va_K (dC, dI) vwCl [(tH, .object RX1), (tO, .long), (tF, .int)] s) (hl : lv_has ls 7 [(4, .int 0), (3, .ref out), (2, .ref mo), (1, .ref h0), (0, .ref b)]) : W p l e room_1 s m #[Value.ref b] below meth c H locs 267 364933 (lw_Z below #[Value.ref b] s) (F0 m 1166 ls []) := by
  obtain ⟨hx, hb, hr, hml, hown0, hts, hX, hbl, hlocks, hgv⟩ := id C0
  have hown : s.vm.findClass RL = some m.cls := hown0
  have ht : ∀ w ∈ GT, w.before #[Value.ref b] s = true := fun w h => hts w (gt_tbl h)
  obtain ⟨A, hAd⟩ : ∃ A : Nat → Prop, A = (fun q : Nat => s.heap.size ≤ q) := ⟨_, rfl⟩
  rw [← hAd] at hE hS hD
  have hA : ∀ q : Nat, s.heap.size ≤ q → A q := fun q h => by rw [hAd]; exact h
  have hbA : ¬ A b := by rw [hAd]; exact Nat.not_le.mpr hbl
  refine lv_aload_n hx hb dL_law_1166 rfl (lv_at hl 3 rfl) ?_
  refine lv_aload_n hx hb dL_law_1167 rfl (lv_at hl 4 rfl) ?_
  refine lv_iload hx hb dL_law_1168 (lv_at hl 0 rfl) ?_
  refine lv_iconst (v := 1) hx hb dL_law_1170 (by decide) ?_
  refine lv_iadd hx hb dL_law_1171 ?_
  refine lv_topi (fun x1 ex1 => ?_)
  obtain rfl : x1 = 1 := ex1.trans (by decide)
  refine va_sld hx hb hX hbl hbA hS (vp_in_nI (n := 1) (by decide) (by decide)) dL_law_1172 ?_
  refine lv_topi (fun sy2 esy2 => ?_)
  refine lv_aload_n hx hb dL_law_1173 rfl (lv_at hl 1 rfl) ?_
  have hPc := hP.sub (ws' := [(h0, .inr (12, [t0, .ref ca, t2, t3, t4, t5])), (ca, .inl (tH, 10, .inr (.inr (.inr (.inr ((va_up (va_up (va_up (va_up (va_up (va_up (va_up (va_up (va_up (va_up (fun _ => none) 0 (some ch0)) 1 (some ch1)) 2 (some ch2)) 3 (some ch3)) 4 (some ch4)) 5 (some ch5)) 6 (some ch6)) 7 (some ch7)) 8 (some ch8)) 9 (some ch9)))))))), (ch0, .inr (2, [.ref lc0])), (ch1, .inr (2, [.ref lc1])), (ch2, .inr (2, [.ref lc2])), (ch3, .inr (2, [.ref lc3])), (ch4, .inr (2, [.ref lc4])), (ch5, .inr (2, [.ref lc5])), (ch6, .inr (2, [.ref lc6])), (ch7, .inr (2, [.ref lc7])), (ch8, .inr (2, [.ref lc8])), (ch9, .inr (2, [.ref lc9])), (lc0, .inr (0, [.int lm0, le0, .int 0])), (lc1, .inr (0, [.int lm1, le1, .int 0])), (lc2, .inr (0, [.int lm2, le2, .int 0])), (lc3, .inr (0, [.int lm3, le3, .int 0])), (lc4, .inr (0, [.int lm4, le4, .int 0])), (lc5, .inr (0, [.int lm5, le5, .int 0])), (lc6, .inr (0, [.int lm6, le6, .int 0])), (lc7, .inr (0, [.int lm7, le7, .int 0])), (lc8, .inr (0, [.int lm8, le8, .int 0])), (lc9, .inr (0, [.int lm9, le9, .int 0])), (out, .inl (tO, 1, .inr (.inl fo)))]) [0, 1, 2, 3, 4, 5, 6, 7, 8, 9, 10, 11, 12, 13, 14, 15, 16, 17, 18, 19, 20, 21, 22] rfl
  have hDc := hD.sub (ws' := [(h0, .inr (12, [t0, .ref ca, t2, t3, t4, t5])), (ca, .inl (tH, 10, .inr (.inr (.inr (.inr ((va_up (va_up (va_up (va_up (va_up (va_up (va_up (va_up (va_up (va_up (fun _ => none) 0 (some ch0)) 1 (some ch1)) 2 (some ch2)) 3 (some ch3)) 4 (some ch4)) 5 (some ch5)) 6 (some ch6)) 7 (some ch7)) 8 (some ch8)) 9 (some ch9)))))))), (ch0, .inr (2, [.ref lc0])), (ch1, .inr (2, [.ref lc1])), (ch2, .inr (2, [.ref lc2])), (ch3, .inr (2, [.ref lc3])), (ch4, .inr (2, [.ref lc4])), (ch5, .inr (2, [.ref lc5])), (ch6, .inr (2, [.ref lc6])), (ch7, .inr (2, [.ref lc7])), (ch8, .inr (2, [.ref lc8])), (ch9, .inr (2, [.ref lc9])), (lc0, .inr (0, [.int lm0, le0, .int 0])), (lc1, .inr (0, [.int lm1, le1, .int 0])), (lc2, .inr (0, [.int lm2, le2, .int 0])), (lc3, .inr (0, [.int lm3, le3, .int 0])), (lc4, .inr (0, [.int lm4, le4, .int 0])), (lc5, .inr (0, [.int lm5, le5, .int 0])), (lc6, .inr (0, [.int lm6, le6, .int 0])), (lc7, .inr (0, [.int lm7, le7, .int 0])), (lc8, .inr (0, [.int lm8, le8, .int 0])), (lc9, .inr (0, [.int lm9, le9, .int 0])), (out, .inl (tO, 1, .inr (.inl fo)))]) [0, 1, 2, 3, 4, 5, 6, 7, 8, 9, 10, 11, 12, 13, 14, 15, 16, 17, 18, 19, 20, 21, 22] (by decide) rfl
  have hKc := hK.sub (tys' := [(tH, .object RX1), (tO, .long)]) [0, 1] rfl
  have hFc := va_free (wc := [(h0, .inr (12, [t0, .ref ca, t2, t3, t4, t5])), (ca, .inl (tH, 10, .inr (.inr (.inr (.inr ((va_up (va_up (va_up (va_up (va_up (va_up (va_up (va_up (va_up (va_up (fun _ => none) 0 (some ch0)) 1 (some ch1)) 2 (some ch2)) 3 (some ch3)) 4 (some ch4)) 5 (some ch5)) 6 (some ch6)) 7 (some ch7)) 8 (some ch8)) 9 (some ch9)))))))), (ch0, .inr (2, [.ref lc0])), (ch1, .inr (2, [.ref lc1])), (ch2, .inr (2, [.ref lc2])), (ch3, .inr (2, [.ref lc3])), (ch4, .inr (2, [.ref lc4])), (ch5, .inr (2, [.ref lc5])), (ch6, .inr (2, [.ref lc6])), (ch7, .inr (2, [.ref lc7])), (ch8, .inr (2, [.ref lc8])), (ch9, .inr (2, [.ref lc9])), (lc0, .inr (0, [.int lm0, le0, .int 0])), (lc1, .inr (0, [.int lm1, le1, .int 0])), (lc2, .inr (0, [.int lm2, le2, .int 0])), (lc3, .inr (0, [.int lm3, le3, .int 0])), (lc4, .inr (0, [.int lm4, le4, .int 0])), (lc5, .inr (0, [.int lm5, le5, .int 0])), (lc6, .inr (0, [.int lm6, le6, .int 0])), (lc7, .inr (0, [.int lm7, le7, .int 0])), (lc8, .inr (0, [.int lm8, le8, .int 0])), (lc9, .inr (0, [.int lm9, le9, .int 0])), (out, .inl (tO, 1, .inr (.inl fo)))]) hD hS hA [0, 1, 2, 3, 4, 5, 6, 7, 8, 9, 10, 11, 12, 13, 14, 15, 16, 17, 18, 19, 20, 21, 22] rfl
  refine vx_calli (vx_runSX (As := [.ref h0, .int sy2, .ref out]) (rest := []) ⟨hx, hb, hml, hown, ht⟩ (k_L_deliver l hL d0 cO dC dI H.size h0 ca t0 t2 t3 t4 t5 tH ch0 ch1 ch2 ch3 ch4 ch5 ch6 ch7 ch8 ch9 lc0 lc1 lc2 lc3 lc4 lc5 lc6 lc7 lc8 lc9 lm0 lm1 lm2 lm3 lm4 lm5 lm6 lm7 lm8 lm9 le0 le1 le2 le3 le4 le5 le6 le7 le8 le9 sy2 out tO fo) (my_SW ht M_L_deliver q1614 q1613 (Nat.le_of_ble_eq_true rfl) (Nat.le_of_ble_eq_true rfl)) ⟨PRE.fb, fun U hU hW => ⟨rfl, PRE.mk' hE hS hFc hPc hKc hDc U hU hW⟩⟩ rfl rfl hl.1 rfl (lv_room (Nat.le_of_ble_eq_true rfl)) dL_law_1174 ⟨(Nat.le_of_ble_eq_true rfl), (Nat.le_of_ble_eq_true rfl)⟩) hS (fun q _ h => hFc q h) hFc (fun q _ h => hFc q h) (fun E ce q9 ux t H1 locs htt hvm hw hB hz1 hk1 hS hcell hv9 hcl9 => ?_) (fun r4 u3 t H1 locs htt hvm hw hB hz1 hk1 hS => ?_)
  · skip
    exact hB.elim
  · skip
    obtain ⟨g5, rfl⟩ : ∃ z, z = u3 := ⟨_, rfl⟩
    try dsimp only at hw hB
    obtain ⟨hP1, hK1, hD1⟩ := hB
    rw [htt] at hP1
    have hK1 := va_K.moved hvm.symm hK1
    obtain ⟨hP, hD⟩ := va_join (wr := [(mo, .inr (13, fs)), (rf, .inl (tF, 10, .inl fr))]) (w1 := [(out, .inl (tO, 1, .inr (.inl g5)))]) hP hD [0, 1, 2, 3, 4, 5, 6, 7, 8, 9, 10, 11, 12, 13, 14, 15, 16, 17, 18, 19, 20, 21, 22] [23, 24] rfl rfl (by decide) (by decide) hk1 hFc hP1 hD1
    have hK := (hK.sub (tys' := [(tH, .object RX1), (tO, .long), (tF, .int)]) [0, 1, 2] rfl).app hK1
    generalize H1 = H at hP hS ⊢
    have hP : va_P (dC, dI) vwCl [(mo, .inr (13, fs)), (rf, .inl (tF, 10, .inl fr)), (out, .inl (tO, 1, .inr (.inl g5)))] H := hP
    have hD : va_D A [(mo, .inr (13, fs)), (rf, .inl (tF, 10, .inl fr)), (out, .inl (tO, 1, .inr (.inl g5)))] := hD
    have hK : va_K (dC, dI) vwCl [(tH, .object RX1), (tO, .long), (tF, .int), (tO, .long)] s := hK
    refine W.widen (k := 268) (n := 364939) (Nat.le_of_ble_eq_true rfl) (Nat.le_of_ble_eq_true rfl) ?_
    by_cases hI6 : (0 ≤ sy2 ∧ sy2 ≤ 9)
    · obtain ⟨hw, hg7⟩ := hw.1 hI6
      subst hw
      refine lv_istore (lv' := [(5, .int 0), (4, .int 0), (3, .ref out), (2, .ref mo), (1, .ref h0), (0, .ref b)]) hx hb dL_law_1177 hl (by decide) rfl (fun ls hl => ?_)
      refine lv_aload_n hx hb dL_law_1179 rfl (lv_at hl 3 rfl) ?_
      refine lv_aload_n hx hb dL_law_1180 rfl (lv_at hl 5 rfl) ?_
      refine lv_iload hx hb dL_law_1181 (lv_at hl 1 rfl) ?_
      refine lv_iconst (v := 1) hx hb dL_law_1183 (by decide) ?_
      refine lv_iadd hx hb dL_law_1184 ?_
      refine lv_topi (fun x8 ex8 => ?_)
      obtain rfl : x8 = 1 := ex8.trans (by decide)
      refine va_sld hx hb hX hbl hbA hS (vp_in_nI (n := 1) (by decide) (by decide)) dL_law_1185 ?_
      refine lv_topi (fun sy9 esy9 => ?_)
      have hyy : sy2 = sy9 := esy2.trans esy9.symm
      subst hyy
      have hPc := hP.sub (ws' := [(mo, .inr (13, fs)), (rf, .inl (tF, 10, .inl fr))]) [0, 1] rfl
      have hDc := hD.sub (ws' := [(mo, .inr (13, fs)), (rf, .inl (tF, 10, .inl fr))]) [0, 1] (by decide) rfl
      have hKc := hK.sub (tys' := [(tF, .int)]) [2] rfl
      have hFc := va_free (wc := [(mo, .inr (13, fs)), (rf, .inl (tF, 10, .inl fr))]) hD hS hA [0, 1] rfl
      refine va_calli (va_runV (As := [.int sy2]) (rest := []) ⟨hx, hb, hml, hown, ht⟩ (k_X12_deliver l d0 cO dC dI H.size mo rf tF fr hfr sy2 fs hlen hf_front) (my_V ht M_X12_deliver q2287 q2288 q2286 (Nat.le_of_ble_eq_true rfl) (Nat.le_of_ble_eq_true rfl)) ⟨PRE.fb, va_recv hK hP (ci := 13) (q0 := 0) rfl rfl, fun U hU hW => ⟨rfl, PRE.mk' hE hS hFc hPc hKc hDc U hU hW⟩⟩ rfl rfl hl.1 rfl (lv_room (Nat.le_of_ble_eq_true rfl)) dL_law_1186 ⟨(Nat.le_of_ble_eq_true rfl), (Nat.le_of_ble_eq_true rfl)⟩) hS (fun q _ h => hFc q h) hFc (fun r11 u10 t H1 locs htt hvm hw hB hz1 hk1 hS => ?_)
      obtain ⟨th212, rfl⟩ : ∃ z, z = u10 := ⟨_, rfl⟩
      try dsimp only at hw hB
      obtain ⟨fs213, hx_14, hP1, hK1, hD1⟩ := hB
      rw [htt] at hP1
      have hK1 := va_K.moved hvm.symm hK1
      obtain ⟨hP, hD⟩ := va_join (wr := [(out, .inl (tO, 1, .inr (.inl g5)))]) (w1 := [(mo, .inr (13, fs213))]) hP hD [0, 1] [2] rfl rfl (by decide) (by decide) hk1 hFc hP1 hD1
      have hK := (hK.sub (tys' := [(tH, .object RX1), (tO, .long), (tF, .int), (tO, .long)]) [0, 1, 2, 3] rfl).app hK1
      generalize H1 = H at hP hS ⊢
      have hP : va_P (dC, dI) vwCl [(out, .inl (tO, 1, .inr (.inl g5))), (mo, .inr (13, fs213))] H := hP
      have hD : va_D A [(out, .inl (tO, 1, .inr (.inl g5))), (mo, .inr (13, fs213))] := hD
      have hK : va_K (dC, dI) vwCl [(tH, .object RX1), (tO, .long), (tF, .int), (tO, .long)] s := hK
      refine W.widen (k := 268) (n := 364939) (Nat.le_of_ble_eq_true rfl) (Nat.le_of_ble_eq_true rfl) ?_
      obtain ⟨hwa, hwb⟩ := hw.1 hI6
      subst hwa
      subst hwb
      refine lv_istore (lv' := [(6, .int ((-1))), (5, .int 0), (4, .int 0), (3, .ref out), (2, .ref mo), (1, .ref h0), (0, .ref b)]) hx hb dL_law_1189 hl (by decide) rfl (fun ls hl => ?_)
      refine lv_aload_n hx hb dL_law_1191 rfl (lv_at hl 4 rfl) ?_
      have hPc := hP.sub (ws' := [(mo, .inr (13, fs213))]) [1] rfl
      have hDc := hD.sub (ws' := [(mo, .inr (13, fs213))]) [1] (by decide) rfl
      have hKc := hK.sub (tys' := []) [] rfl
      have hFc := freeNil hS hA
      refine va_calli (va_runV (As := []) (rest := []) ⟨hx, hb, hml, hown, ht⟩ (k2_thrown l d0 cO dC dI H.size mo 0 fs213 hx_14) (my_V ht M_X12_thrown q1976 q1977 q1975 (Nat.le_of_ble_eq_true rfl) (Nat.le_of_ble_eq_true rfl)) ⟨PREp.fb, va_recv hK hP (ci := 13) (q0 := 1) rfl rfl, fun U hU hW => ⟨rfl, PREp.mk' hE hS hFc hPc hKc U hU hW⟩⟩ rfl rfl hl.1 rfl (lv_room (Nat.le_of_ble_eq_true rfl)) dL_law_1192 ⟨(Nat.le_of_ble_eq_true rfl), (Nat.le_of_ble_eq_true rfl)⟩) hS (fun q _ h => hFc q h) hFc (fun r16 u15 t H1 locs htt hvm hw hB hz1 hk1 hS => ?_)
      try dsimp only at hw hB
      have hP1 := hB
      have hP := keepAll hP hk1
      generalize H1 = H at hP hS ⊢
      have hP : va_P (dC, dI) vwCl [(out, .inl (tO, 1, .inr (.inl g5))), (mo, .inr (13, fs213))] H := hP
      have hD : va_D A [(out, .inl (tO, 1, .inr (.inl g5))), (mo, .inr (13, fs213))] := hD
      have hK : va_K (dC, dI) vwCl [(tH, .object RX1), (tO, .long), (tF, .int), (tO, .long)] s := hK
      refine W.widen (k := 268) (n := 364939) (Nat.le_of_ble_eq_true rfl) (Nat.le_of_ble_eq_true rfl) ?_
      subst hw
      refine lv_iload hx hb dL_law_1195 (lv_at hl 1 rfl) ?_
      refine lv_icmp_eq (tgt := 1202) hx hb dL_law_1197 (by decide) (fun c17 => ?_) (fun c17 => False.elim (by revert c17; decide))
      refine lv_iload hx hb dL_law_1202 (lv_at hl 1 rfl) ?_
      refine lv_if_ne (tgt := 1219) hx hb dL_law_1204 (by decide) (fun c18 => False.elim (by revert c18; decide)) (fun c18 => ?_)
      refine lv_aload_n hx hb dL_law_1207 rfl (lv_at hl 3 rfl) ?_
      refine lv_iconst (v := 0) hx hb dL_law_1208 (by decide) ?_
      refine va_lald hx hb hK hP 0 1 rfl rfl (vp_in_nI (n := 0) (by decide) (by decide)) dL_law_1209 ?_
      refine lv_iload hx hb dL_law_1210 (lv_at hl 0 rfl) ?_
      refine lv_i2l (v := ((-1)).toInt64) hx hb dL_law_1212 rfl ?_
      have hz : lg_cmp (g5 0) (((-1)).toInt64) = 0 := by rw [hg7]; decide
      refine W.lcmp hx hb dL_law_1213 ?_
      refine lv_topi (fun x19 ex19 => ?_)
      obtain rfl : x19 = 0 := ex19.trans hz
      refine lv_if_eq (tgt := 1219) hx hb dL_law_1214 (by decide) (fun c20 => ?_) (fun c20 => False.elim (by revert c20; decide))
      refine lv_goto (tgt := 2038) hx hb dL_law_1219 (by decide) ?_
      refine lv_iinc (v := 8) (lv' := [(4, .int 8), (6, .int ((-1))), (5, .int 0), (3, .ref out), (2, .ref mo), (1, .ref h0), (0, .ref b)]) hx hb dL_law_2038 hl (k := 2) rfl (by decide) (by decide) rfl (fun ls hl => ?_)
      refine lv_goto (tgt := 23) hx hb dL_law_2041 (by decide) ?_
      refine lv_iload hx hb dL_law_23 (lv_at hl 0 rfl) ?_
      refine lv_aload_n hx hb dL_law_25 rfl (lv_at hl 6 rfl) ?_
      refine va_slen hx hb hX hbl hbA hS dL_law_26 ?_
      refine W.eq (g2 := F0 m 27 ls [.int 8, .int 8]) rfl ?_
      refine lv_bipush (v := 8) hx hb dL_law_27 (by decide) ?_
      refine lv_isub hx hb dL_law_29 ?_
      refine lv_topi (fun x21 ex21 => ?_)
      obtain rfl : x21 = 0 := ex21.trans (by decide)
      refine lv_icmp_gt (tgt := 2044) hx hb dL_law_30 (by decide) (fun c22 => ?_) (fun c22 => False.elim (by revert c22; decide))
      refine lv_iconst (v := 1) hx hb dL_law_2044 (by decide) ?_
      refine W.widen (k := 600002) (n := 7302232) (Nat.le_of_ble_eq_true rfl) (Nat.le_of_ble_eq_true rfl) ?_
      refine va_forget (by have h := hS.2.2; rw [hAd] at h; exact h) ?_
      exact lw_ret hx hb hr hlocks dL_law_2045
    · have hw := hw.2 hI6
      subst hw
      refine lv_istore (lv' := [(5, .int 1), (4, .int 0), (3, .ref out), (2, .ref mo), (1, .ref h0), (0, .ref b)]) hx hb dL_law_1177 hl (by decide) rfl (fun ls hl => ?_)
      refine lv_aload_n hx hb dL_law_1179 rfl (lv_at hl 3 rfl) ?_
      refine lv_aload_n hx hb dL_law_1180 rfl (lv_at hl 5 rfl) ?_
      refine lv_iload hx hb dL_law_1181 (lv_at hl 1 rfl) ?_
      refine lv_iconst (v := 1) hx hb dL_law_1183 (by decide) ?_
      refine lv_iadd hx hb dL_law_1184 ?_
      refine lv_topi (fun x23 ex23 => ?_)
      obtain rfl : x23 = 1 := ex23.trans (by decide)
      refine va_sld hx hb hX hbl hbA hS (vp_in_nI (n := 1) (by decide) (by decide)) dL_law_1185 ?_
      refine lv_topi (fun sy24 esy24 => ?_)
      have hyy : sy2 = sy24 := esy2.trans esy24.symm
      subst hyy
      have hPc := hP.sub (ws' := [(mo, .inr (13, fs)), (rf, .inl (tF, 10, .inl fr))]) [0, 1] rfl
      have hDc := hD.sub (ws' := [(mo, .inr (13, fs)), (rf, .inl (tF, 10, .inl fr))]) [0, 1] (by decide) rfl
      have hKc := hK.sub (tys' := [(tF, .int)]) [2] rfl
      have hFc := va_free (wc := [(mo, .inr (13, fs)), (rf, .inl (tF, 10, .inl fr))]) hD hS hA [0, 1] rfl
      refine va_calli (va_runV (As := [.int sy2]) (rest := []) ⟨hx, hb, hml, hown, ht⟩ (k_X12_deliver l d0 cO dC dI H.size mo rf tF fr hfr sy2 fs hlen hf_front) (my_V ht M_X12_deliver q2287 q2288 q2286 (Nat.le_of_ble_eq_true rfl) (Nat.le_of_ble_eq_true rfl)) ⟨PRE.fb, va_recv hK hP (ci := 13) (q0 := 0) rfl rfl, fun U hU hW => ⟨rfl, PRE.mk' hE hS hFc hPc hKc hDc U hU hW⟩⟩ rfl rfl hl.1 rfl (lv_room (Nat.le_of_ble_eq_true rfl)) dL_law_1186 ⟨(Nat.le_of_ble_eq_true rfl), (Nat.le_of_ble_eq_true rfl)⟩) hS (fun q _ h => hFc q h) hFc (fun r26 u25 t H1 locs htt hvm hw hB hz1 hk1 hS => ?_)
      obtain ⟨th227, rfl⟩ : ∃ z, z = u25 := ⟨_, rfl⟩
      try dsimp only at hw hB
      obtain ⟨fs228, hx_29, hP1, hK1, hD1⟩ := hB
      rw [htt] at hP1
      have hK1 := va_K.moved hvm.symm hK1
      obtain ⟨hP, hD⟩ := va_join (wr := [(out, .inl (tO, 1, .inr (.inl g5)))]) (w1 := [(mo, .inr (13, fs228))]) hP hD [0, 1] [2] rfl rfl (by decide) (by decide) hk1 hFc hP1 hD1
      have hK := (hK.sub (tys' := [(tH, .object RX1), (tO, .long), (tF, .int), (tO, .long)]) [0, 1, 2, 3] rfl).app hK1
      generalize H1 = H at hP hS ⊢
      have hP : va_P (dC, dI) vwCl [(out, .inl (tO, 1, .inr (.inl g5))), (mo, .inr (13, fs228))] H := hP
      have hD : va_D A [(out, .inl (tO, 1, .inr (.inl g5))), (mo, .inr (13, fs228))] := hD
      have hK : va_K (dC, dI) vwCl [(tH, .object RX1), (tO, .long), (tF, .int), (tO, .long)] s := hK
      refine W.widen (k := 268) (n := 364939) (Nat.le_of_ble_eq_true rfl) (Nat.le_of_ble_eq_true rfl) ?_
      have hw := hw.2 hI6
      subst hw
      refine lv_istore (lv' := [(6, .int r26), (5, .int 1), (4, .int 0), (3, .ref out), (2, .ref mo), (1, .ref h0), (0, .ref b)]) hx hb dL_law_1189 hl (by decide) rfl (fun ls hl => ?_)
      refine lv_aload_n hx hb dL_law_1191 rfl (lv_at hl 4 rfl) ?_
      have hPc := hP.sub (ws' := [(mo, .inr (13, fs228))]) [1] rfl
      have hDc := hD.sub (ws' := [(mo, .inr (13, fs228))]) [1] (by decide) rfl
      have hKc := hK.sub (tys' := []) [] rfl
      have hFc := freeNil hS hA
      refine va_calli (va_runV (As := []) (rest := []) ⟨hx, hb, hml, hown, ht⟩ (k2_thrown l d0 cO dC dI H.size mo 1 fs228 hx_29) (my_V ht M_X12_thrown q1976 q1977 q1975 (Nat.le_of_ble_eq_true rfl) (Nat.le_of_ble_eq_true rfl)) ⟨PREp.fb, va_recv hK hP (ci := 13) (q0 := 1) rfl rfl, fun U hU hW => ⟨rfl, PREp.mk' hE hS hFc hPc hKc U hU hW⟩⟩ rfl rfl hl.1 rfl (lv_room (Nat.le_of_ble_eq_true rfl)) dL_law_1192 ⟨(Nat.le_of_ble_eq_true rfl), (Nat.le_of_ble_eq_true rfl)⟩) hS (fun q _ h => hFc q h) hFc (fun r31 u30 t H1 locs htt hvm hw hB hz1 hk1 hS => ?_)
      try dsimp only at hw hB
      have hP1 := hB
      have hP := keepAll hP hk1
      generalize H1 = H at hP hS ⊢
      have hP : va_P (dC, dI) vwCl [(out, .inl (tO, 1, .inr (.inl g5))), (mo, .inr (13, fs228))] H := hP
      have hD : va_D A [(out, .inl (tO, 1, .inr (.inl g5))), (mo, .inr (13, fs228))] := hD
      have hK : va_K (dC, dI) vwCl [(tH, .object RX1), (tO, .long), (tF, .int), (tO, .long)] s := hK
      refine W.widen (k := 268) (n := 364939) (Nat.le_of_ble_eq_true rfl) (Nat.le_of_ble_eq_true rfl) ?_
      subst hw
      refine lv_iload hx hb dL_law_1195 (lv_at hl 1 rfl) ?_
      refine lv_icmp_eq (tgt := 1202) hx hb dL_law_1197 (by decide) (fun c32 => ?_) (fun c32 => False.elim (by revert c32; decide))
      refine lv_iload hx hb dL_law_1202 (lv_at hl 1 rfl) ?_
      refine lv_if_ne (tgt := 1219) hx hb dL_law_1204 (by decide) (fun c33 => ?_) (fun c33 => False.elim (by revert c33; decide))
      refine lv_goto (tgt := 2038) hx hb dL_law_1219 (by decide) ?_
      refine lv_iinc (v := 8) (lv' := [(4, .int 8), (6, .int r26), (5, .int 1), (3, .ref out), (2, .ref mo), (1, .ref h0), (0, .ref b)]) hx hb dL_law_2038 hl (k := 2) rfl (by decide) (by decide) rfl (fun ls hl => ?_)
      refine lv_goto (tgt := 23) hx hb dL_law_2041 (by decide) ?_
      refine lv_iload hx hb dL_law_23 (lv_at hl 0 rfl) ?_
      refine lv_aload_n hx hb dL_law_25 rfl (lv_at hl 6 rfl) ?_
      refine va_slen hx hb hX hbl hbA hS dL_law_26 ?_
      refine W.eq (g2 := F0 m 27 ls [.int 8, .int 8]) rfl ?_
      refine lv_bipush (v := 8) hx hb dL_law_27 (by decide) ?_
      refine lv_isub hx hb dL_law_29 ?_
      refine lv_topi (fun x34 ex34 => ?_)
      obtain rfl : x34 = 0 := ex34.trans (by decide)
      refine lv_icmp_gt (tgt := 2044) hx hb dL_law_30 (by decide) (fun c35 => ?_) (fun c35 => False.elim (by revert c35; decide))
      refine lv_iconst (v := 1) hx hb dL_law_2044 (by decide) ?_
      refine W.widen (k := 600002) (n := 7302232) (Nat.le_of_ble_eq_true rfl) (Nat.le_of_ble_eq_true rfl) ?_
      refine va_forget (by have h := hS.2.2; rw [hAd] at h; exact h) ?_
      exact lw_ret hx hb hr hlocks dL_law_2045
set_option maxHeartbeats 4000000 in
set_option maxRecDepth 100000 in
theorem law_waiting (l : Launch) (hL : l.stackTraces = false) {p : Program} {e : Env} {s : State} {m : MethodId} {below : List Frame} {meth : Method} {c : Code} {b : Nat} {xs : Nat → Int32} {d0 : Nat} {cO : ClassId} {dC : Nat → ClassId} {dI : Nat → Nat → Nat} {H : Heap} {locs : List Loc} {ls : Array Slot} {h0 mo out : Nat} {ca : Nat} {t0 t2 t3 t4 t5 : Value} {tH : ClassId} {ch0 ch1 ch2 ch3 ch4 ch5 ch6 ch7 ch8 ch9 : Nat} {lc0 lc1 lc2 lc3 lc4 lc5 lc6 lc7 lc8 lc9 : Nat} {lm0 lm1 lm2 lm3 lm4 lm5 lm6 lm7 lm8 lm9 : Int32} {le0 le1 le2 le3 le4 le5 le6 le7 le8 le9 : Value} {rw_ : Nat} {tW : ClassId} {fs : List Value} {tO : ClassId} {fo : Nat → Int64} (hlen : fs.length = 75) (hf_waits : fs[58]? = some (.ref rw_)) (C0 : lw_At p s m meth c b 8 xs) (hE : EN d0 cO (fun q : Nat => s.heap.size ≤ q) s s.heap) (hS : va_S (fun q : Nat => s.heap.size ≤ q) s.heap H locs) (hP : va_P (dC, dI) vwCl [(h0, .inr (12, [t0, .ref ca, t2, t3, t4, t5])), (ca, .inl (tH, 10, .inr (.inr (.inr (.inr ((va_up (va_up (va_up (va_up (va_up (va_up (va_up (va_up (va_up (va_up (fun _ => none) 0 (some ch0)) 1 (some ch1)) 2 (some ch2)) 3 (some ch3)) 4 (some ch4)) 5 (some ch5)) 6 (some ch6)) 7 (some ch7)) 8 (some ch8)) 9 (some ch9)))))))), (ch0, .inr (2, [.ref lc0])), (ch1, .inr (2, [.ref lc1])), (ch2, .inr (2, [.ref lc2])), (ch3, .inr (2, [.ref lc3])), (ch4, .inr (2, [.ref lc4])), (ch5, .inr (2, [.ref lc5])), (ch6, .inr (2, [.ref lc6])), (ch7, .inr (2, [.ref lc7])), (ch8, .inr (2, [.ref lc8])), (ch9, .inr (2, [.ref lc9])), (lc0, .inr (0, [.int lm0, le0, .int 0])), (lc1, .inr (0, [.int lm1, le1, .int 0])), (lc2, .inr (0, [.int lm2, le2, .int 0])), (lc3, .inr (0, [.int lm3, le3, .int 0])), (lc4, .inr (0, [.int lm4, le4, .int 0])), (lc5, .inr (0, [.int lm5, le5, .int 0])), (lc6, .inr (0, [.int lm6, le6, .int 0])), (lc7, .inr (0, [.int lm7, le7, .int 0])), (lc8, .inr (0, [.int lm8, le8, .int 0])), (lc9, .inr (0, [.int lm9, le9, .int 0])), (out, .inl (tO, 1, .inr (.inl fo))), (mo, .inr (13, fs)), (rw_, .inl (tW, 10, .inl ((fun _ => 0))))] H) (hD : va_D (fun q : Nat => s.heap.size ≤ q) [(h0, .inr (12, [t0, .ref ca, t2, t3, t4, t5])), (ca, .inl (tH, 10, .inr (.inr (.inr (.inr ((va_up (va_up (va_up (va_up (va_up (va_up (va_up (va_up (va_up (va_up (fun _ => none) 0 (some ch0)) 1 (some ch1)) 2 (some ch2)) 3 (some ch3)) 4 (some ch4)) 5 (some ch5)) 6 (some ch6)) 7 (some ch7)) 8 (some ch8)) 9 (some ch9)))))))), (ch0, .inr (2, [.ref lc0])), (ch1, .inr (2, [.ref lc1])), (ch2, .inr (2, [.ref lc2])), (ch3, .inr (2, [.ref lc3])), (ch4, .inr (2, [.ref lc4])), (ch5, .inr (2, [.ref lc5])), (ch6, .inr (2, [.ref lc6])), (ch7, .inr (2, [.ref lc7])), (ch8, .inr (2, [.ref lc8])), (ch9, .inr (2, [.ref lc9])), (lc0, .inr (0, [.int lm0, le0, .int 0])), (lc1, .inr (0, [.int lm1, le1, .int 0])), (lc2, .inr (0, [.int lm2, le2, .int 0])), (lc3, .inr (0, [.int lm3, le3, .int 0])), (lc4, .inr (0, [.int lm4, le4, .int 0])), (lc5, .inr (0, [.int lm5, le5, .int 0])), (lc6, .inr (0, [.int lm6, le6, .int 0])), (lc7, .inr (0, [.int lm7, le7, .int 0])), (lc8, .inr (0, [.int lm8, le8, .int 0])), (lc9, .inr (0, [.int lm9, le9, .int 0])), (out, .inl (tO, 1, .inr (.inl fo))), (mo, .inr (13, fs)), (rw_, .inl (tW, 10, .inl ((fun _ => 0))))]) (hK : va_K (dC, dI) vwCl [(tH, .object RX1), (tO, .long), (tW, .int)] s) (hl : lv_has ls 7 [(4, .int 0), (3, .ref out), (2, .ref mo), (1, .ref h0), (0, .ref b)]) : W p l e room_1 s m #[Value.ref b] below meth c H locs 267 364933 (lw_Z below #[Value.ref b] s) (F0 m 1235 ls []) := by
  obtain ⟨hx, hb, hr, hml, hown0, hts, hX, hbl, hlocks, hgv⟩ := id C0
  have hown : s.vm.findClass RL = some m.cls := hown0
  have ht : ∀ w ∈ GT, w.before #[Value.ref b] s = true := fun w h => hts w (gt_tbl h)
  obtain ⟨A, hAd⟩ : ∃ A : Nat → Prop, A = (fun q : Nat => s.heap.size ≤ q) := ⟨_, rfl⟩
  rw [← hAd] at hE hS hD
  have hA : ∀ q : Nat, s.heap.size ≤ q → A q := fun q h => by rw [hAd]; exact h
  have hbA : ¬ A b := by rw [hAd]; exact Nat.not_le.mpr hbl
  refine lv_aload_n hx hb dL_law_1235 rfl (lv_at hl 3 rfl) ?_
  refine lv_aload_n hx hb dL_law_1236 rfl (lv_at hl 4 rfl) ?_
  refine lv_iload hx hb dL_law_1237 (lv_at hl 0 rfl) ?_
  refine lv_iconst (v := 1) hx hb dL_law_1239 (by decide) ?_
  refine lv_iadd hx hb dL_law_1240 ?_
  refine lv_topi (fun x1 ex1 => ?_)
  obtain rfl : x1 = 1 := ex1.trans (by decide)
  refine va_sld hx hb hX hbl hbA hS (vp_in_nI (n := 1) (by decide) (by decide)) dL_law_1241 ?_
  refine lv_topi (fun sy2 esy2 => ?_)
  refine lv_aload_n hx hb dL_law_1242 rfl (lv_at hl 1 rfl) ?_
  have hPc := hP.sub (ws' := [(h0, .inr (12, [t0, .ref ca, t2, t3, t4, t5])), (ca, .inl (tH, 10, .inr (.inr (.inr (.inr ((va_up (va_up (va_up (va_up (va_up (va_up (va_up (va_up (va_up (va_up (fun _ => none) 0 (some ch0)) 1 (some ch1)) 2 (some ch2)) 3 (some ch3)) 4 (some ch4)) 5 (some ch5)) 6 (some ch6)) 7 (some ch7)) 8 (some ch8)) 9 (some ch9)))))))), (ch0, .inr (2, [.ref lc0])), (ch1, .inr (2, [.ref lc1])), (ch2, .inr (2, [.ref lc2])), (ch3, .inr (2, [.ref lc3])), (ch4, .inr (2, [.ref lc4])), (ch5, .inr (2, [.ref lc5])), (ch6, .inr (2, [.ref lc6])), (ch7, .inr (2, [.ref lc7])), (ch8, .inr (2, [.ref lc8])), (ch9, .inr (2, [.ref lc9])), (lc0, .inr (0, [.int lm0, le0, .int 0])), (lc1, .inr (0, [.int lm1, le1, .int 0])), (lc2, .inr (0, [.int lm2, le2, .int 0])), (lc3, .inr (0, [.int lm3, le3, .int 0])), (lc4, .inr (0, [.int lm4, le4, .int 0])), (lc5, .inr (0, [.int lm5, le5, .int 0])), (lc6, .inr (0, [.int lm6, le6, .int 0])), (lc7, .inr (0, [.int lm7, le7, .int 0])), (lc8, .inr (0, [.int lm8, le8, .int 0])), (lc9, .inr (0, [.int lm9, le9, .int 0])), (out, .inl (tO, 1, .inr (.inl fo)))]) [0, 1, 2, 3, 4, 5, 6, 7, 8, 9, 10, 11, 12, 13, 14, 15, 16, 17, 18, 19, 20, 21, 22] rfl
  have hDc := hD.sub (ws' := [(h0, .inr (12, [t0, .ref ca, t2, t3, t4, t5])), (ca, .inl (tH, 10, .inr (.inr (.inr (.inr ((va_up (va_up (va_up (va_up (va_up (va_up (va_up (va_up (va_up (va_up (fun _ => none) 0 (some ch0)) 1 (some ch1)) 2 (some ch2)) 3 (some ch3)) 4 (some ch4)) 5 (some ch5)) 6 (some ch6)) 7 (some ch7)) 8 (some ch8)) 9 (some ch9)))))))), (ch0, .inr (2, [.ref lc0])), (ch1, .inr (2, [.ref lc1])), (ch2, .inr (2, [.ref lc2])), (ch3, .inr (2, [.ref lc3])), (ch4, .inr (2, [.ref lc4])), (ch5, .inr (2, [.ref lc5])), (ch6, .inr (2, [.ref lc6])), (ch7, .inr (2, [.ref lc7])), (ch8, .inr (2, [.ref lc8])), (ch9, .inr (2, [.ref lc9])), (lc0, .inr (0, [.int lm0, le0, .int 0])), (lc1, .inr (0, [.int lm1, le1, .int 0])), (lc2, .inr (0, [.int lm2, le2, .int 0])), (lc3, .inr (0, [.int lm3, le3, .int 0])), (lc4, .inr (0, [.int lm4, le4, .int 0])), (lc5, .inr (0, [.int lm5, le5, .int 0])), (lc6, .inr (0, [.int lm6, le6, .int 0])), (lc7, .inr (0, [.int lm7, le7, .int 0])), (lc8, .inr (0, [.int lm8, le8, .int 0])), (lc9, .inr (0, [.int lm9, le9, .int 0])), (out, .inl (tO, 1, .inr (.inl fo)))]) [0, 1, 2, 3, 4, 5, 6, 7, 8, 9, 10, 11, 12, 13, 14, 15, 16, 17, 18, 19, 20, 21, 22] (by decide) rfl
  have hKc := hK.sub (tys' := [(tH, .object RX1), (tO, .long)]) [0, 1] rfl
  have hFc := va_free (wc := [(h0, .inr (12, [t0, .ref ca, t2, t3, t4, t5])), (ca, .inl (tH, 10, .inr (.inr (.inr (.inr ((va_up (va_up (va_up (va_up (va_up (va_up (va_up (va_up (va_up (va_up (fun _ => none) 0 (some ch0)) 1 (some ch1)) 2 (some ch2)) 3 (some ch3)) 4 (some ch4)) 5 (some ch5)) 6 (some ch6)) 7 (some ch7)) 8 (some ch8)) 9 (some ch9)))))))), (ch0, .inr (2, [.ref lc0])), (ch1, .inr (2, [.ref lc1])), (ch2, .inr (2, [.ref lc2])), (ch3, .inr (2, [.ref lc3])), (ch4, .inr (2, [.ref lc4])), (ch5, .inr (2, [.ref lc5])), (ch6, .inr (2, [.ref lc6])), (ch7, .inr (2, [.ref lc7])), (ch8, .inr (2, [.ref lc8])), (ch9, .inr (2, [.ref lc9])), (lc0, .inr (0, [.int lm0, le0, .int 0])), (lc1, .inr (0, [.int lm1, le1, .int 0])), (lc2, .inr (0, [.int lm2, le2, .int 0])), (lc3, .inr (0, [.int lm3, le3, .int 0])), (lc4, .inr (0, [.int lm4, le4, .int 0])), (lc5, .inr (0, [.int lm5, le5, .int 0])), (lc6, .inr (0, [.int lm6, le6, .int 0])), (lc7, .inr (0, [.int lm7, le7, .int 0])), (lc8, .inr (0, [.int lm8, le8, .int 0])), (lc9, .inr (0, [.int lm9, le9, .int 0])), (out, .inl (tO, 1, .inr (.inl fo)))]) hD hS hA [0, 1, 2, 3, 4, 5, 6, 7, 8, 9, 10, 11, 12, 13, 14, 15, 16, 17, 18, 19, 20, 21, 22] rfl
  refine vx_calli (vx_runSX (As := [.ref h0, .int sy2, .ref out]) (rest := []) ⟨hx, hb, hml, hown, ht⟩ (k_L_waiting l hL d0 cO dC dI H.size h0 ca t0 t2 t3 t4 t5 tH ch0 ch1 ch2 ch3 ch4 ch5 ch6 ch7 ch8 ch9 lc0 lc1 lc2 lc3 lc4 lc5 lc6 lc7 lc8 lc9 lm0 lm1 lm2 lm3 lm4 lm5 lm6 lm7 lm8 lm9 le0 le1 le2 le3 le4 le5 le6 le7 le8 le9 sy2 out tO fo) (my_SW ht M_L_waiting q1626 q1625 (Nat.le_of_ble_eq_true rfl) (Nat.le_of_ble_eq_true rfl)) ⟨PRE.fb, fun U hU hW => ⟨rfl, PRE.mk' hE hS hFc hPc hKc hDc U hU hW⟩⟩ rfl rfl hl.1 rfl (lv_room (Nat.le_of_ble_eq_true rfl)) dL_law_1243 ⟨(Nat.le_of_ble_eq_true rfl), (Nat.le_of_ble_eq_true rfl)⟩) hS (fun q _ h => hFc q h) hFc (fun q _ h => hFc q h) (fun E ce q9 ux t H1 locs htt hvm hw hB hz1 hk1 hS hcell hv9 hcl9 => ?_) (fun r4 u3 t H1 locs htt hvm hw hB hz1 hk1 hS => ?_)
  · skip
    exact hB.elim
  · skip
    obtain ⟨g5, rfl⟩ : ∃ z, z = u3 := ⟨_, rfl⟩
    try dsimp only at hw hB
    obtain ⟨hP1, hK1, hD1⟩ := hB
    rw [htt] at hP1
    have hK1 := va_K.moved hvm.symm hK1
    obtain ⟨hP, hD⟩ := va_join (wr := [(mo, .inr (13, fs)), (rw_, .inl (tW, 10, .inl ((fun _ => 0))))]) (w1 := [(out, .inl (tO, 1, .inr (.inl g5)))]) hP hD [0, 1, 2, 3, 4, 5, 6, 7, 8, 9, 10, 11, 12, 13, 14, 15, 16, 17, 18, 19, 20, 21, 22] [23, 24] rfl rfl (by decide) (by decide) hk1 hFc hP1 hD1
    have hK := (hK.sub (tys' := [(tH, .object RX1), (tO, .long), (tW, .int)]) [0, 1, 2] rfl).app hK1
    generalize H1 = H at hP hS ⊢
    have hP : va_P (dC, dI) vwCl [(mo, .inr (13, fs)), (rw_, .inl (tW, 10, .inl ((fun _ => 0)))), (out, .inl (tO, 1, .inr (.inl g5)))] H := hP
    have hD : va_D A [(mo, .inr (13, fs)), (rw_, .inl (tW, 10, .inl ((fun _ => 0)))), (out, .inl (tO, 1, .inr (.inl g5)))] := hD
    have hK : va_K (dC, dI) vwCl [(tH, .object RX1), (tO, .long), (tW, .int), (tO, .long)] s := hK
    refine W.widen (k := 268) (n := 364939) (Nat.le_of_ble_eq_true rfl) (Nat.le_of_ble_eq_true rfl) ?_
    by_cases hI6 : (0 ≤ sy2 ∧ sy2 ≤ 9)
    · obtain ⟨hw, hg7⟩ := hw.1 hI6
      subst hw
      refine lv_istore (lv' := [(5, .int 0), (4, .int 0), (3, .ref out), (2, .ref mo), (1, .ref h0), (0, .ref b)]) hx hb dL_law_1246 hl (by decide) rfl (fun ls hl => ?_)
      refine lv_aload_n hx hb dL_law_1248 rfl (lv_at hl 3 rfl) ?_
      refine lv_aload_n hx hb dL_law_1249 rfl (lv_at hl 5 rfl) ?_
      refine lv_iload hx hb dL_law_1250 (lv_at hl 1 rfl) ?_
      refine lv_iconst (v := 1) hx hb dL_law_1252 (by decide) ?_
      refine lv_iadd hx hb dL_law_1253 ?_
      refine lv_topi (fun x8 ex8 => ?_)
      obtain rfl : x8 = 1 := ex8.trans (by decide)
      refine va_sld hx hb hX hbl hbA hS (vp_in_nI (n := 1) (by decide) (by decide)) dL_law_1254 ?_
      refine lv_topi (fun sy9 esy9 => ?_)
      have hyy : sy2 = sy9 := esy2.trans esy9.symm
      subst hyy
      have hPc := hP.sub (ws' := [(mo, .inr (13, fs)), (rw_, .inl (tW, 10, .inl ((fun _ => 0))))]) [0, 1] rfl
      have hDc := hD.sub (ws' := [(mo, .inr (13, fs)), (rw_, .inl (tW, 10, .inl ((fun _ => 0))))]) [0, 1] (by decide) rfl
      have hKc := hK.sub (tys' := [(tW, .int)]) [2] rfl
      have hFc := va_free (wc := [(mo, .inr (13, fs)), (rw_, .inl (tW, 10, .inl ((fun _ => 0))))]) hD hS hA [0, 1] rfl
      refine va_calli (va_runV (As := [.int sy2]) (rest := []) ⟨hx, hb, hml, hown, ht⟩ (k_X12_waiting l d0 cO dC dI H.size mo rw_ tW sy2 fs hlen hf_waits) (my_V ht M_X12_waiting q2339 q2340 q2338 (Nat.le_of_ble_eq_true rfl) (Nat.le_of_ble_eq_true rfl)) ⟨PRE.fb, va_recv hK hP (ci := 13) (q0 := 0) rfl rfl, fun U hU hW => ⟨rfl, PRE.mk' hE hS hFc hPc hKc hDc U hU hW⟩⟩ rfl rfl hl.1 rfl (lv_room (Nat.le_of_ble_eq_true rfl)) dL_law_1255 ⟨(Nat.le_of_ble_eq_true rfl), (Nat.le_of_ble_eq_true rfl)⟩) hS (fun q _ h => hFc q h) hFc (fun r11 u10 t H1 locs htt hvm hw hB hz1 hk1 hS => ?_)
      obtain ⟨th212, rfl⟩ : ∃ z, z = u10 := ⟨_, rfl⟩
      try dsimp only at hw hB
      obtain ⟨fs213, hx_14, hP1, hK1, hD1⟩ := hB
      rw [htt] at hP1
      have hK1 := va_K.moved hvm.symm hK1
      obtain ⟨hP, hD⟩ := va_join (wr := [(out, .inl (tO, 1, .inr (.inl g5)))]) (w1 := [(mo, .inr (13, fs213))]) hP hD [0, 1] [2] rfl rfl (by decide) (by decide) hk1 hFc hP1 hD1
      have hK := (hK.sub (tys' := [(tH, .object RX1), (tO, .long), (tW, .int), (tO, .long)]) [0, 1, 2, 3] rfl).app hK1
      generalize H1 = H at hP hS ⊢
      have hP : va_P (dC, dI) vwCl [(out, .inl (tO, 1, .inr (.inl g5))), (mo, .inr (13, fs213))] H := hP
      have hD : va_D A [(out, .inl (tO, 1, .inr (.inl g5))), (mo, .inr (13, fs213))] := hD
      have hK : va_K (dC, dI) vwCl [(tH, .object RX1), (tO, .long), (tW, .int), (tO, .long)] s := hK
      refine W.widen (k := 268) (n := 364939) (Nat.le_of_ble_eq_true rfl) (Nat.le_of_ble_eq_true rfl) ?_
      obtain ⟨hwa, hwb⟩ := hw.1 hI6
      subst hwa
      subst hwb
      refine lv_istore (lv' := [(6, .int 0), (5, .int 0), (4, .int 0), (3, .ref out), (2, .ref mo), (1, .ref h0), (0, .ref b)]) hx hb dL_law_1258 hl (by decide) rfl (fun ls hl => ?_)
      refine lv_aload_n hx hb dL_law_1260 rfl (lv_at hl 4 rfl) ?_
      have hPc := hP.sub (ws' := [(mo, .inr (13, fs213))]) [1] rfl
      have hDc := hD.sub (ws' := [(mo, .inr (13, fs213))]) [1] (by decide) rfl
      have hKc := hK.sub (tys' := []) [] rfl
      have hFc := freeNil hS hA
      refine va_calli (va_runV (As := []) (rest := []) ⟨hx, hb, hml, hown, ht⟩ (k2_thrown l d0 cO dC dI H.size mo 0 fs213 hx_14) (my_V ht M_X12_thrown q1976 q1977 q1975 (Nat.le_of_ble_eq_true rfl) (Nat.le_of_ble_eq_true rfl)) ⟨PREp.fb, va_recv hK hP (ci := 13) (q0 := 1) rfl rfl, fun U hU hW => ⟨rfl, PREp.mk' hE hS hFc hPc hKc U hU hW⟩⟩ rfl rfl hl.1 rfl (lv_room (Nat.le_of_ble_eq_true rfl)) dL_law_1261 ⟨(Nat.le_of_ble_eq_true rfl), (Nat.le_of_ble_eq_true rfl)⟩) hS (fun q _ h => hFc q h) hFc (fun r16 u15 t H1 locs htt hvm hw hB hz1 hk1 hS => ?_)
      try dsimp only at hw hB
      have hP1 := hB
      have hP := keepAll hP hk1
      generalize H1 = H at hP hS ⊢
      have hP : va_P (dC, dI) vwCl [(out, .inl (tO, 1, .inr (.inl g5))), (mo, .inr (13, fs213))] H := hP
      have hD : va_D A [(out, .inl (tO, 1, .inr (.inl g5))), (mo, .inr (13, fs213))] := hD
      have hK : va_K (dC, dI) vwCl [(tH, .object RX1), (tO, .long), (tW, .int), (tO, .long)] s := hK
      refine W.widen (k := 268) (n := 364939) (Nat.le_of_ble_eq_true rfl) (Nat.le_of_ble_eq_true rfl) ?_
      subst hw
      refine lv_iload hx hb dL_law_1264 (lv_at hl 1 rfl) ?_
      refine lv_icmp_eq (tgt := 1271) hx hb dL_law_1266 (by decide) (fun c17 => ?_) (fun c17 => False.elim (by revert c17; decide))
      refine lv_iload hx hb dL_law_1271 (lv_at hl 1 rfl) ?_
      refine lv_if_ne (tgt := 1288) hx hb dL_law_1273 (by decide) (fun c18 => False.elim (by revert c18; decide)) (fun c18 => ?_)
      refine lv_aload_n hx hb dL_law_1276 rfl (lv_at hl 3 rfl) ?_
      refine lv_iconst (v := 0) hx hb dL_law_1277 (by decide) ?_
      refine va_lald hx hb hK hP 0 1 rfl rfl (vp_in_nI (n := 0) (by decide) (by decide)) dL_law_1278 ?_
      refine lv_iload hx hb dL_law_1279 (lv_at hl 0 rfl) ?_
      refine lv_i2l (v := (0).toInt64) hx hb dL_law_1281 rfl ?_
      have hz : lg_cmp (g5 0) ((0).toInt64) = 0 := by rw [hg7]; decide
      refine W.lcmp hx hb dL_law_1282 ?_
      refine lv_topi (fun x19 ex19 => ?_)
      obtain rfl : x19 = 0 := ex19.trans hz
      refine lv_if_eq (tgt := 1288) hx hb dL_law_1283 (by decide) (fun c20 => ?_) (fun c20 => False.elim (by revert c20; decide))
      refine lv_goto (tgt := 2038) hx hb dL_law_1288 (by decide) ?_
      refine lv_iinc (v := 8) (lv' := [(4, .int 8), (6, .int 0), (5, .int 0), (3, .ref out), (2, .ref mo), (1, .ref h0), (0, .ref b)]) hx hb dL_law_2038 hl (k := 2) rfl (by decide) (by decide) rfl (fun ls hl => ?_)
      refine lv_goto (tgt := 23) hx hb dL_law_2041 (by decide) ?_
      refine lv_iload hx hb dL_law_23 (lv_at hl 0 rfl) ?_
      refine lv_aload_n hx hb dL_law_25 rfl (lv_at hl 6 rfl) ?_
      refine va_slen hx hb hX hbl hbA hS dL_law_26 ?_
      refine W.eq (g2 := F0 m 27 ls [.int 8, .int 8]) rfl ?_
      refine lv_bipush (v := 8) hx hb dL_law_27 (by decide) ?_
      refine lv_isub hx hb dL_law_29 ?_
      refine lv_topi (fun x21 ex21 => ?_)
      obtain rfl : x21 = 0 := ex21.trans (by decide)
      refine lv_icmp_gt (tgt := 2044) hx hb dL_law_30 (by decide) (fun c22 => ?_) (fun c22 => False.elim (by revert c22; decide))
      refine lv_iconst (v := 1) hx hb dL_law_2044 (by decide) ?_
      refine W.widen (k := 600002) (n := 7302232) (Nat.le_of_ble_eq_true rfl) (Nat.le_of_ble_eq_true rfl) ?_
      refine va_forget (by have h := hS.2.2; rw [hAd] at h; exact h) ?_
      exact lw_ret hx hb hr hlocks dL_law_2045
    · have hw := hw.2 hI6
      subst hw
      refine lv_istore (lv' := [(5, .int 1), (4, .int 0), (3, .ref out), (2, .ref mo), (1, .ref h0), (0, .ref b)]) hx hb dL_law_1246 hl (by decide) rfl (fun ls hl => ?_)
      refine lv_aload_n hx hb dL_law_1248 rfl (lv_at hl 3 rfl) ?_
      refine lv_aload_n hx hb dL_law_1249 rfl (lv_at hl 5 rfl) ?_
      refine lv_iload hx hb dL_law_1250 (lv_at hl 1 rfl) ?_
      refine lv_iconst (v := 1) hx hb dL_law_1252 (by decide) ?_
      refine lv_iadd hx hb dL_law_1253 ?_
      refine lv_topi (fun x23 ex23 => ?_)
      obtain rfl : x23 = 1 := ex23.trans (by decide)
      refine va_sld hx hb hX hbl hbA hS (vp_in_nI (n := 1) (by decide) (by decide)) dL_law_1254 ?_
      refine lv_topi (fun sy24 esy24 => ?_)
      have hyy : sy2 = sy24 := esy2.trans esy24.symm
      subst hyy
      have hPc := hP.sub (ws' := [(mo, .inr (13, fs)), (rw_, .inl (tW, 10, .inl ((fun _ => 0))))]) [0, 1] rfl
      have hDc := hD.sub (ws' := [(mo, .inr (13, fs)), (rw_, .inl (tW, 10, .inl ((fun _ => 0))))]) [0, 1] (by decide) rfl
      have hKc := hK.sub (tys' := [(tW, .int)]) [2] rfl
      have hFc := va_free (wc := [(mo, .inr (13, fs)), (rw_, .inl (tW, 10, .inl ((fun _ => 0))))]) hD hS hA [0, 1] rfl
      refine va_calli (va_runV (As := [.int sy2]) (rest := []) ⟨hx, hb, hml, hown, ht⟩ (k_X12_waiting l d0 cO dC dI H.size mo rw_ tW sy2 fs hlen hf_waits) (my_V ht M_X12_waiting q2339 q2340 q2338 (Nat.le_of_ble_eq_true rfl) (Nat.le_of_ble_eq_true rfl)) ⟨PRE.fb, va_recv hK hP (ci := 13) (q0 := 0) rfl rfl, fun U hU hW => ⟨rfl, PRE.mk' hE hS hFc hPc hKc hDc U hU hW⟩⟩ rfl rfl hl.1 rfl (lv_room (Nat.le_of_ble_eq_true rfl)) dL_law_1255 ⟨(Nat.le_of_ble_eq_true rfl), (Nat.le_of_ble_eq_true rfl)⟩) hS (fun q _ h => hFc q h) hFc (fun r26 u25 t H1 locs htt hvm hw hB hz1 hk1 hS => ?_)
      obtain ⟨th227, rfl⟩ : ∃ z, z = u25 := ⟨_, rfl⟩
      try dsimp only at hw hB
      obtain ⟨fs228, hx_29, hP1, hK1, hD1⟩ := hB
      rw [htt] at hP1
      have hK1 := va_K.moved hvm.symm hK1
      obtain ⟨hP, hD⟩ := va_join (wr := [(out, .inl (tO, 1, .inr (.inl g5)))]) (w1 := [(mo, .inr (13, fs228))]) hP hD [0, 1] [2] rfl rfl (by decide) (by decide) hk1 hFc hP1 hD1
      have hK := (hK.sub (tys' := [(tH, .object RX1), (tO, .long), (tW, .int), (tO, .long)]) [0, 1, 2, 3] rfl).app hK1
      generalize H1 = H at hP hS ⊢
      have hP : va_P (dC, dI) vwCl [(out, .inl (tO, 1, .inr (.inl g5))), (mo, .inr (13, fs228))] H := hP
      have hD : va_D A [(out, .inl (tO, 1, .inr (.inl g5))), (mo, .inr (13, fs228))] := hD
      have hK : va_K (dC, dI) vwCl [(tH, .object RX1), (tO, .long), (tW, .int), (tO, .long)] s := hK
      refine W.widen (k := 268) (n := 364939) (Nat.le_of_ble_eq_true rfl) (Nat.le_of_ble_eq_true rfl) ?_
      have hw := hw.2 hI6
      subst hw
      refine lv_istore (lv' := [(6, .int r26), (5, .int 1), (4, .int 0), (3, .ref out), (2, .ref mo), (1, .ref h0), (0, .ref b)]) hx hb dL_law_1258 hl (by decide) rfl (fun ls hl => ?_)
      refine lv_aload_n hx hb dL_law_1260 rfl (lv_at hl 4 rfl) ?_
      have hPc := hP.sub (ws' := [(mo, .inr (13, fs228))]) [1] rfl
      have hDc := hD.sub (ws' := [(mo, .inr (13, fs228))]) [1] (by decide) rfl
      have hKc := hK.sub (tys' := []) [] rfl
      have hFc := freeNil hS hA
      refine va_calli (va_runV (As := []) (rest := []) ⟨hx, hb, hml, hown, ht⟩ (k2_thrown l d0 cO dC dI H.size mo 1 fs228 hx_29) (my_V ht M_X12_thrown q1976 q1977 q1975 (Nat.le_of_ble_eq_true rfl) (Nat.le_of_ble_eq_true rfl)) ⟨PREp.fb, va_recv hK hP (ci := 13) (q0 := 1) rfl rfl, fun U hU hW => ⟨rfl, PREp.mk' hE hS hFc hPc hKc U hU hW⟩⟩ rfl rfl hl.1 rfl (lv_room (Nat.le_of_ble_eq_true rfl)) dL_law_1261 ⟨(Nat.le_of_ble_eq_true rfl), (Nat.le_of_ble_eq_true rfl)⟩) hS (fun q _ h => hFc q h) hFc (fun r31 u30 t H1 locs htt hvm hw hB hz1 hk1 hS => ?_)
      try dsimp only at hw hB
      have hP1 := hB
      have hP := keepAll hP hk1
      generalize H1 = H at hP hS ⊢
      have hP : va_P (dC, dI) vwCl [(out, .inl (tO, 1, .inr (.inl g5))), (mo, .inr (13, fs228))] H := hP
      have hD : va_D A [(out, .inl (tO, 1, .inr (.inl g5))), (mo, .inr (13, fs228))] := hD
      have hK : va_K (dC, dI) vwCl [(tH, .object RX1), (tO, .long), (tW, .int), (tO, .long)] s := hK
      refine W.widen (k := 268) (n := 364939) (Nat.le_of_ble_eq_true rfl) (Nat.le_of_ble_eq_true rfl) ?_
      subst hw
      refine lv_iload hx hb dL_law_1264 (lv_at hl 1 rfl) ?_
      refine lv_icmp_eq (tgt := 1271) hx hb dL_law_1266 (by decide) (fun c32 => ?_) (fun c32 => False.elim (by revert c32; decide))
      refine lv_iload hx hb dL_law_1271 (lv_at hl 1 rfl) ?_
      refine lv_if_ne (tgt := 1288) hx hb dL_law_1273 (by decide) (fun c33 => ?_) (fun c33 => False.elim (by revert c33; decide))
      refine lv_goto (tgt := 2038) hx hb dL_law_1288 (by decide) ?_
      refine lv_iinc (v := 8) (lv' := [(4, .int 8), (6, .int r26), (5, .int 1), (3, .ref out), (2, .ref mo), (1, .ref h0), (0, .ref b)]) hx hb dL_law_2038 hl (k := 2) rfl (by decide) (by decide) rfl (fun ls hl => ?_)
      refine lv_goto (tgt := 23) hx hb dL_law_2041 (by decide) ?_
      refine lv_iload hx hb dL_law_23 (lv_at hl 0 rfl) ?_
      refine lv_aload_n hx hb dL_law_25 rfl (lv_at hl 6 rfl) ?_
      refine va_slen hx hb hX hbl hbA hS dL_law_26 ?_
      refine W.eq (g2 := F0 m 27 ls [.int 8, .int 8]) rfl ?_
      refine lv_bipush (v := 8) hx hb dL_law_27 (by decide) ?_
      refine lv_isub hx hb dL_law_29 ?_
      refine lv_topi (fun x34 ex34 => ?_)
      obtain rfl : x34 = 0 := ex34.trans (by decide)
      refine lv_icmp_gt (tgt := 2044) hx hb dL_law_30 (by decide) (fun c35 => ?_) (fun c35 => False.elim (by revert c35; decide))
      refine lv_iconst (v := 1) hx hb dL_law_2044 (by decide) ?_
      refine W.widen (k := 600002) (n := 7302232) (Nat.le_of_ble_eq_true rfl) (Nat.le_of_ble_eq_true rfl) ?_
      refine va_forget (by have h := hS.2.2; rw [hAd] at h; exact h) ?_
      exact lw_ret hx hb hr hlocks dL_law_2045
set_option maxHeartbeats 4000000 in
set_option maxRecDepth 100000 in
theorem law_deliverAll (l : Launch) (hL : l.stackTraces = false) {p : Program} {e : Env} {s : State} {m : MethodId} {below : List Frame} {meth : Method} {c : Code} {b : Nat} {xs : Nat → Int32} {d0 : Nat} {cO : ClassId} {dC : Nat → ClassId} {dI : Nat → Nat → Nat} {H : Heap} {locs : List Loc} {ls : Array Slot} {h0 mo out : Nat} {ca : Nat} {t0 t2 t3 t4 t5 : Value} {tH : ClassId} {ch0 ch1 ch2 ch3 ch4 ch5 ch6 ch7 ch8 ch9 : Nat} {lc0 lc1 lc2 lc3 lc4 lc5 lc6 lc7 lc8 lc9 : Nat} {lm0 lm1 lm2 lm3 lm4 lm5 lm6 lm7 lm8 lm9 : Int32} {le0 le1 le2 le3 le4 le5 le6 le7 le8 le9 : Value} {rf : Nat} {tF : ClassId} {fr : Nat → Int32} {fs : List Value} (hfr : ∀ j : Nat, j < 10 → fr j = -1) (hlen : fs.length = 75) (hf_front : fs[56]? = some (.ref rf)) (C0 : lw_At p s m meth c b 8 xs) (hE : EN d0 cO (fun q : Nat => s.heap.size ≤ q) s s.heap) (hS : va_S (fun q : Nat => s.heap.size ≤ q) s.heap H locs) (hP : va_P (dC, dI) vwCl [(h0, .inr (12, [t0, .ref ca, t2, t3, t4, t5])), (ca, .inl (tH, 10, .inr (.inr (.inr (.inr ((va_up (va_up (va_up (va_up (va_up (va_up (va_up (va_up (va_up (va_up (fun _ => none) 0 (some ch0)) 1 (some ch1)) 2 (some ch2)) 3 (some ch3)) 4 (some ch4)) 5 (some ch5)) 6 (some ch6)) 7 (some ch7)) 8 (some ch8)) 9 (some ch9)))))))), (ch0, .inr (2, [.ref lc0])), (ch1, .inr (2, [.ref lc1])), (ch2, .inr (2, [.ref lc2])), (ch3, .inr (2, [.ref lc3])), (ch4, .inr (2, [.ref lc4])), (ch5, .inr (2, [.ref lc5])), (ch6, .inr (2, [.ref lc6])), (ch7, .inr (2, [.ref lc7])), (ch8, .inr (2, [.ref lc8])), (ch9, .inr (2, [.ref lc9])), (lc0, .inr (0, [.int lm0, le0, .int 0])), (lc1, .inr (0, [.int lm1, le1, .int 0])), (lc2, .inr (0, [.int lm2, le2, .int 0])), (lc3, .inr (0, [.int lm3, le3, .int 0])), (lc4, .inr (0, [.int lm4, le4, .int 0])), (lc5, .inr (0, [.int lm5, le5, .int 0])), (lc6, .inr (0, [.int lm6, le6, .int 0])), (lc7, .inr (0, [.int lm7, le7, .int 0])), (lc8, .inr (0, [.int lm8, le8, .int 0])), (lc9, .inr (0, [.int lm9, le9, .int 0])), (mo, .inr (13, fs)), (rf, .inl (tF, 10, .inl fr))] H) (hD : va_D (fun q : Nat => s.heap.size ≤ q) [(h0, .inr (12, [t0, .ref ca, t2, t3, t4, t5])), (ca, .inl (tH, 10, .inr (.inr (.inr (.inr ((va_up (va_up (va_up (va_up (va_up (va_up (va_up (va_up (va_up (va_up (fun _ => none) 0 (some ch0)) 1 (some ch1)) 2 (some ch2)) 3 (some ch3)) 4 (some ch4)) 5 (some ch5)) 6 (some ch6)) 7 (some ch7)) 8 (some ch8)) 9 (some ch9)))))))), (ch0, .inr (2, [.ref lc0])), (ch1, .inr (2, [.ref lc1])), (ch2, .inr (2, [.ref lc2])), (ch3, .inr (2, [.ref lc3])), (ch4, .inr (2, [.ref lc4])), (ch5, .inr (2, [.ref lc5])), (ch6, .inr (2, [.ref lc6])), (ch7, .inr (2, [.ref lc7])), (ch8, .inr (2, [.ref lc8])), (ch9, .inr (2, [.ref lc9])), (lc0, .inr (0, [.int lm0, le0, .int 0])), (lc1, .inr (0, [.int lm1, le1, .int 0])), (lc2, .inr (0, [.int lm2, le2, .int 0])), (lc3, .inr (0, [.int lm3, le3, .int 0])), (lc4, .inr (0, [.int lm4, le4, .int 0])), (lc5, .inr (0, [.int lm5, le5, .int 0])), (lc6, .inr (0, [.int lm6, le6, .int 0])), (lc7, .inr (0, [.int lm7, le7, .int 0])), (lc8, .inr (0, [.int lm8, le8, .int 0])), (lc9, .inr (0, [.int lm9, le9, .int 0])), (mo, .inr (13, fs)), (rf, .inl (tF, 10, .inl fr))]) (hK : va_K (dC, dI) vwCl [(tH, .object RX1), (tF, .int)] s) (hl : lv_has ls 7 [(4, .int 0), (3, .ref out), (2, .ref mo), (1, .ref h0), (0, .ref b)]) : W p l e room_1 s m #[Value.ref b] below meth c H locs 267 364933 (lw_Z below #[Value.ref b] s) (F0 m 1222 ls []) := by
  obtain ⟨hx, hb, hr, hml, hown0, hts, hX, hbl, hlocks, hgv⟩ := id C0
  have hown : s.vm.findClass RL = some m.cls := hown0
  have ht : ∀ w ∈ GT, w.before #[Value.ref b] s = true := fun w h => hts w (gt_tbl h)
  obtain ⟨A, hAd⟩ : ∃ A : Nat → Prop, A = (fun q : Nat => s.heap.size ≤ q) := ⟨_, rfl⟩
  rw [← hAd] at hE hS hD
  have hA : ∀ q : Nat, s.heap.size ≤ q → A q := fun q h => by rw [hAd]; exact h
  have hbA : ¬ A b := by rw [hAd]; exact Nat.not_le.mpr hbl
  refine lv_aload_n hx hb dL_law_1222 rfl (lv_at hl 3 rfl) ?_
  have hPc := hP.sub (ws' := [(h0, .inr (12, [t0, .ref ca, t2, t3, t4, t5])), (ca, .inl (tH, 10, .inr (.inr (.inr (.inr ((va_up (va_up (va_up (va_up (va_up (va_up (va_up (va_up (va_up (va_up (fun _ => none) 0 (some ch0)) 1 (some ch1)) 2 (some ch2)) 3 (some ch3)) 4 (some ch4)) 5 (some ch5)) 6 (some ch6)) 7 (some ch7)) 8 (some ch8)) 9 (some ch9)))))))), (ch0, .inr (2, [.ref lc0])), (ch1, .inr (2, [.ref lc1])), (ch2, .inr (2, [.ref lc2])), (ch3, .inr (2, [.ref lc3])), (ch4, .inr (2, [.ref lc4])), (ch5, .inr (2, [.ref lc5])), (ch6, .inr (2, [.ref lc6])), (ch7, .inr (2, [.ref lc7])), (ch8, .inr (2, [.ref lc8])), (ch9, .inr (2, [.ref lc9])), (lc0, .inr (0, [.int lm0, le0, .int 0])), (lc1, .inr (0, [.int lm1, le1, .int 0])), (lc2, .inr (0, [.int lm2, le2, .int 0])), (lc3, .inr (0, [.int lm3, le3, .int 0])), (lc4, .inr (0, [.int lm4, le4, .int 0])), (lc5, .inr (0, [.int lm5, le5, .int 0])), (lc6, .inr (0, [.int lm6, le6, .int 0])), (lc7, .inr (0, [.int lm7, le7, .int 0])), (lc8, .inr (0, [.int lm8, le8, .int 0])), (lc9, .inr (0, [.int lm9, le9, .int 0]))]) [0, 1, 2, 3, 4, 5, 6, 7, 8, 9, 10, 11, 12, 13, 14, 15, 16, 17, 18, 19, 20, 21] rfl
  have hDc := hD.sub (ws' := [(h0, .inr (12, [t0, .ref ca, t2, t3, t4, t5])), (ca, .inl (tH, 10, .inr (.inr (.inr (.inr ((va_up (va_up (va_up (va_up (va_up (va_up (va_up (va_up (va_up (va_up (fun _ => none) 0 (some ch0)) 1 (some ch1)) 2 (some ch2)) 3 (some ch3)) 4 (some ch4)) 5 (some ch5)) 6 (some ch6)) 7 (some ch7)) 8 (some ch8)) 9 (some ch9)))))))), (ch0, .inr (2, [.ref lc0])), (ch1, .inr (2, [.ref lc1])), (ch2, .inr (2, [.ref lc2])), (ch3, .inr (2, [.ref lc3])), (ch4, .inr (2, [.ref lc4])), (ch5, .inr (2, [.ref lc5])), (ch6, .inr (2, [.ref lc6])), (ch7, .inr (2, [.ref lc7])), (ch8, .inr (2, [.ref lc8])), (ch9, .inr (2, [.ref lc9])), (lc0, .inr (0, [.int lm0, le0, .int 0])), (lc1, .inr (0, [.int lm1, le1, .int 0])), (lc2, .inr (0, [.int lm2, le2, .int 0])), (lc3, .inr (0, [.int lm3, le3, .int 0])), (lc4, .inr (0, [.int lm4, le4, .int 0])), (lc5, .inr (0, [.int lm5, le5, .int 0])), (lc6, .inr (0, [.int lm6, le6, .int 0])), (lc7, .inr (0, [.int lm7, le7, .int 0])), (lc8, .inr (0, [.int lm8, le8, .int 0])), (lc9, .inr (0, [.int lm9, le9, .int 0]))]) [0, 1, 2, 3, 4, 5, 6, 7, 8, 9, 10, 11, 12, 13, 14, 15, 16, 17, 18, 19, 20, 21] (by decide) rfl
  have hKc := hK.sub (tys' := [(tH, .object RX1)]) [0] rfl
  have hFc := freeNil hS hA
  refine va_calli (va_runV (As := []) (rest := []) ⟨hx, hb, hml, hown, ht⟩ (k_X11_deliverAll l d0 cO dC dI H.size h0 ca t0 t2 t3 t4 t5 tH ch0 ch1 ch2 ch3 ch4 ch5 ch6 ch7 ch8 ch9 lc0 lc1 lc2 lc3 lc4 lc5 lc6 lc7 lc8 lc9 lm0 lm1 lm2 lm3 lm4 lm5 lm6 lm7 lm8 lm9 le0 le1 le2 le3 le4 le5 le6 le7 le8 le9) (my_V ht M_X11_deliverAll q411 q412 q410 (Nat.le_of_ble_eq_true rfl) (Nat.le_of_ble_eq_true rfl)) ⟨PREp.fb, va_recv hK hP (ci := 12) (q0 := 0) rfl rfl, fun U hU hW => ⟨rfl, PREp.mk' hE hS hFc hPc hKc U hU hW⟩⟩ rfl rfl hl.1 rfl (lv_room (Nat.le_of_ble_eq_true rfl)) dL_law_1223 ⟨(Nat.le_of_ble_eq_true rfl), (Nat.le_of_ble_eq_true rfl)⟩) hS (fun q _ h => hFc q h) hFc (fun r2 u1 t H1 locs htt hvm hw hB hz1 hk1 hS => ?_)
  try dsimp only at hw hB
  have hP1 := hB
  have hP := keepAll hP hk1
  generalize H1 = H at hP hS ⊢
  have hP : va_P (dC, dI) vwCl [(h0, .inr (12, [t0, .ref ca, t2, t3, t4, t5])), (ca, .inl (tH, 10, .inr (.inr (.inr (.inr ((va_up (va_up (va_up (va_up (va_up (va_up (va_up (va_up (va_up (va_up (fun _ => none) 0 (some ch0)) 1 (some ch1)) 2 (some ch2)) 3 (some ch3)) 4 (some ch4)) 5 (some ch5)) 6 (some ch6)) 7 (some ch7)) 8 (some ch8)) 9 (some ch9)))))))), (ch0, .inr (2, [.ref lc0])), (ch1, .inr (2, [.ref lc1])), (ch2, .inr (2, [.ref lc2])), (ch3, .inr (2, [.ref lc3])), (ch4, .inr (2, [.ref lc4])), (ch5, .inr (2, [.ref lc5])), (ch6, .inr (2, [.ref lc6])), (ch7, .inr (2, [.ref lc7])), (ch8, .inr (2, [.ref lc8])), (ch9, .inr (2, [.ref lc9])), (lc0, .inr (0, [.int lm0, le0, .int 0])), (lc1, .inr (0, [.int lm1, le1, .int 0])), (lc2, .inr (0, [.int lm2, le2, .int 0])), (lc3, .inr (0, [.int lm3, le3, .int 0])), (lc4, .inr (0, [.int lm4, le4, .int 0])), (lc5, .inr (0, [.int lm5, le5, .int 0])), (lc6, .inr (0, [.int lm6, le6, .int 0])), (lc7, .inr (0, [.int lm7, le7, .int 0])), (lc8, .inr (0, [.int lm8, le8, .int 0])), (lc9, .inr (0, [.int lm9, le9, .int 0])), (mo, .inr (13, fs)), (rf, .inl (tF, 10, .inl fr))] H := hP
  have hD : va_D A [(h0, .inr (12, [t0, .ref ca, t2, t3, t4, t5])), (ca, .inl (tH, 10, .inr (.inr (.inr (.inr ((va_up (va_up (va_up (va_up (va_up (va_up (va_up (va_up (va_up (va_up (fun _ => none) 0 (some ch0)) 1 (some ch1)) 2 (some ch2)) 3 (some ch3)) 4 (some ch4)) 5 (some ch5)) 6 (some ch6)) 7 (some ch7)) 8 (some ch8)) 9 (some ch9)))))))), (ch0, .inr (2, [.ref lc0])), (ch1, .inr (2, [.ref lc1])), (ch2, .inr (2, [.ref lc2])), (ch3, .inr (2, [.ref lc3])), (ch4, .inr (2, [.ref lc4])), (ch5, .inr (2, [.ref lc5])), (ch6, .inr (2, [.ref lc6])), (ch7, .inr (2, [.ref lc7])), (ch8, .inr (2, [.ref lc8])), (ch9, .inr (2, [.ref lc9])), (lc0, .inr (0, [.int lm0, le0, .int 0])), (lc1, .inr (0, [.int lm1, le1, .int 0])), (lc2, .inr (0, [.int lm2, le2, .int 0])), (lc3, .inr (0, [.int lm3, le3, .int 0])), (lc4, .inr (0, [.int lm4, le4, .int 0])), (lc5, .inr (0, [.int lm5, le5, .int 0])), (lc6, .inr (0, [.int lm6, le6, .int 0])), (lc7, .inr (0, [.int lm7, le7, .int 0])), (lc8, .inr (0, [.int lm8, le8, .int 0])), (lc9, .inr (0, [.int lm9, le9, .int 0])), (mo, .inr (13, fs)), (rf, .inl (tF, 10, .inl fr))] := hD
  have hK : va_K (dC, dI) vwCl [(tH, .object RX1), (tF, .int)] s := hK
  refine W.widen (k := 267) (n := 364933) (Nat.le_of_ble_eq_true rfl) (Nat.le_of_ble_eq_true rfl) ?_
  subst hw
  refine lv_aload_n hx hb dL_law_1226 rfl (lv_at hl 2 rfl) ?_
  have hPc := hP.sub (ws' := [(mo, .inr (13, fs)), (rf, .inl (tF, 10, .inl fr))]) [22, 23] rfl
  have hDc := hD.sub (ws' := [(mo, .inr (13, fs)), (rf, .inl (tF, 10, .inl fr))]) [22, 23] (by decide) rfl
  have hKc := hK.sub (tys' := [(tF, .int)]) [1] rfl
  have hFc := va_free (wc := [(mo, .inr (13, fs)), (rf, .inl (tF, 10, .inl fr))]) hD hS hA [22, 23] rfl
  refine va_calli (va_runV (As := []) (rest := [.int 0]) ⟨hx, hb, hml, hown, ht⟩ (k_X12_deliverAll l d0 cO dC dI H.size mo rf tF fr hfr fs hlen hf_front) (my_V ht M_X12_deliverAll q2335 q2336 q2334 (Nat.le_of_ble_eq_true rfl) (Nat.le_of_ble_eq_true rfl)) ⟨PRE.fb, va_recv hK hP (ci := 13) (q0 := 22) rfl rfl, fun U hU hW => ⟨rfl, PRE.mk' hE hS hFc hPc hKc hDc U hU hW⟩⟩ rfl rfl hl.1 rfl (lv_room (Nat.le_of_ble_eq_true rfl)) dL_law_1227 ⟨(Nat.le_of_ble_eq_true rfl), (Nat.le_of_ble_eq_true rfl)⟩) hS (fun q _ h => hFc q h) hFc (fun r4 u3 t H1 locs htt hvm hw hB hz1 hk1 hS => ?_)
  obtain ⟨th25, rfl⟩ : ∃ z, z = u3 := ⟨_, rfl⟩
  try dsimp only at hw hB
  obtain ⟨fs26, hx_7, hP1, hK1, hD1⟩ := hB
  rw [htt] at hP1
  have hK1 := va_K.moved hvm.symm hK1
  obtain ⟨hP, hD⟩ := va_join (wr := [(h0, .inr (12, [t0, .ref ca, t2, t3, t4, t5])), (ca, .inl (tH, 10, .inr (.inr (.inr (.inr ((va_up (va_up (va_up (va_up (va_up (va_up (va_up (va_up (va_up (va_up (fun _ => none) 0 (some ch0)) 1 (some ch1)) 2 (some ch2)) 3 (some ch3)) 4 (some ch4)) 5 (some ch5)) 6 (some ch6)) 7 (some ch7)) 8 (some ch8)) 9 (some ch9)))))))), (ch0, .inr (2, [.ref lc0])), (ch1, .inr (2, [.ref lc1])), (ch2, .inr (2, [.ref lc2])), (ch3, .inr (2, [.ref lc3])), (ch4, .inr (2, [.ref lc4])), (ch5, .inr (2, [.ref lc5])), (ch6, .inr (2, [.ref lc6])), (ch7, .inr (2, [.ref lc7])), (ch8, .inr (2, [.ref lc8])), (ch9, .inr (2, [.ref lc9])), (lc0, .inr (0, [.int lm0, le0, .int 0])), (lc1, .inr (0, [.int lm1, le1, .int 0])), (lc2, .inr (0, [.int lm2, le2, .int 0])), (lc3, .inr (0, [.int lm3, le3, .int 0])), (lc4, .inr (0, [.int lm4, le4, .int 0])), (lc5, .inr (0, [.int lm5, le5, .int 0])), (lc6, .inr (0, [.int lm6, le6, .int 0])), (lc7, .inr (0, [.int lm7, le7, .int 0])), (lc8, .inr (0, [.int lm8, le8, .int 0])), (lc9, .inr (0, [.int lm9, le9, .int 0]))]) (w1 := [(mo, .inr (13, fs26))]) hP hD [22, 23] [0, 1, 2, 3, 4, 5, 6, 7, 8, 9, 10, 11, 12, 13, 14, 15, 16, 17, 18, 19, 20, 21] rfl rfl (by decide) (by decide) hk1 hFc hP1 hD1
  have hK := (hK.sub (tys' := [(tH, .object RX1), (tF, .int)]) [0, 1] rfl).app hK1
  generalize H1 = H at hP hS ⊢
  have hP : va_P (dC, dI) vwCl [(h0, .inr (12, [t0, .ref ca, t2, t3, t4, t5])), (ca, .inl (tH, 10, .inr (.inr (.inr (.inr ((va_up (va_up (va_up (va_up (va_up (va_up (va_up (va_up (va_up (va_up (fun _ => none) 0 (some ch0)) 1 (some ch1)) 2 (some ch2)) 3 (some ch3)) 4 (some ch4)) 5 (some ch5)) 6 (some ch6)) 7 (some ch7)) 8 (some ch8)) 9 (some ch9)))))))), (ch0, .inr (2, [.ref lc0])), (ch1, .inr (2, [.ref lc1])), (ch2, .inr (2, [.ref lc2])), (ch3, .inr (2, [.ref lc3])), (ch4, .inr (2, [.ref lc4])), (ch5, .inr (2, [.ref lc5])), (ch6, .inr (2, [.ref lc6])), (ch7, .inr (2, [.ref lc7])), (ch8, .inr (2, [.ref lc8])), (ch9, .inr (2, [.ref lc9])), (lc0, .inr (0, [.int lm0, le0, .int 0])), (lc1, .inr (0, [.int lm1, le1, .int 0])), (lc2, .inr (0, [.int lm2, le2, .int 0])), (lc3, .inr (0, [.int lm3, le3, .int 0])), (lc4, .inr (0, [.int lm4, le4, .int 0])), (lc5, .inr (0, [.int lm5, le5, .int 0])), (lc6, .inr (0, [.int lm6, le6, .int 0])), (lc7, .inr (0, [.int lm7, le7, .int 0])), (lc8, .inr (0, [.int lm8, le8, .int 0])), (lc9, .inr (0, [.int lm9, le9, .int 0])), (mo, .inr (13, fs26))] H := hP
  have hD : va_D A [(h0, .inr (12, [t0, .ref ca, t2, t3, t4, t5])), (ca, .inl (tH, 10, .inr (.inr (.inr (.inr ((va_up (va_up (va_up (va_up (va_up (va_up (va_up (va_up (va_up (va_up (fun _ => none) 0 (some ch0)) 1 (some ch1)) 2 (some ch2)) 3 (some ch3)) 4 (some ch4)) 5 (some ch5)) 6 (some ch6)) 7 (some ch7)) 8 (some ch8)) 9 (some ch9)))))))), (ch0, .inr (2, [.ref lc0])), (ch1, .inr (2, [.ref lc1])), (ch2, .inr (2, [.ref lc2])), (ch3, .inr (2, [.ref lc3])), (ch4, .inr (2, [.ref lc4])), (ch5, .inr (2, [.ref lc5])), (ch6, .inr (2, [.ref lc6])), (ch7, .inr (2, [.ref lc7])), (ch8, .inr (2, [.ref lc8])), (ch9, .inr (2, [.ref lc9])), (lc0, .inr (0, [.int lm0, le0, .int 0])), (lc1, .inr (0, [.int lm1, le1, .int 0])), (lc2, .inr (0, [.int lm2, le2, .int 0])), (lc3, .inr (0, [.int lm3, le3, .int 0])), (lc4, .inr (0, [.int lm4, le4, .int 0])), (lc5, .inr (0, [.int lm5, le5, .int 0])), (lc6, .inr (0, [.int lm6, le6, .int 0])), (lc7, .inr (0, [.int lm7, le7, .int 0])), (lc8, .inr (0, [.int lm8, le8, .int 0])), (lc9, .inr (0, [.int lm9, le9, .int 0])), (mo, .inr (13, fs26))] := hD
  have hK : va_K (dC, dI) vwCl [(tH, .object RX1), (tF, .int)] s := hK
  refine W.widen (k := 267) (n := 364933) (Nat.le_of_ble_eq_true rfl) (Nat.le_of_ble_eq_true rfl) ?_
  subst hw
  refine lv_icmp_eq (tgt := 2038) hx hb dL_law_1230 (by decide) (fun c8 => ?_) (fun c8 => False.elim (by revert c8; decide))
  refine lv_iinc (v := 8) (lv' := [(4, .int 8), (3, .ref out), (2, .ref mo), (1, .ref h0), (0, .ref b)]) hx hb dL_law_2038 hl (k := 0) rfl (by decide) (by decide) rfl (fun ls hl => ?_)
  refine lv_goto (tgt := 23) hx hb dL_law_2041 (by decide) ?_
  refine lv_iload hx hb dL_law_23 (lv_at hl 0 rfl) ?_
  refine lv_aload_n hx hb dL_law_25 rfl (lv_at hl 4 rfl) ?_
  refine va_slen hx hb hX hbl hbA hS dL_law_26 ?_
  refine W.eq (g2 := F0 m 27 ls [.int 8, .int 8]) rfl ?_
  refine lv_bipush (v := 8) hx hb dL_law_27 (by decide) ?_
  refine lv_isub hx hb dL_law_29 ?_
  refine lv_topi (fun x9 ex9 => ?_)
  obtain rfl : x9 = 0 := ex9.trans (by decide)
  refine lv_icmp_gt (tgt := 2044) hx hb dL_law_30 (by decide) (fun c10 => ?_) (fun c10 => False.elim (by revert c10; decide))
  refine lv_iconst (v := 1) hx hb dL_law_2044 (by decide) ?_
  refine W.widen (k := 600002) (n := 7302232) (Nat.le_of_ble_eq_true rfl) (Nat.le_of_ble_eq_true rfl) ?_
  refine va_forget (by have h := hS.2.2; rw [hAd] at h; exact h) ?_
  exact lw_ret hx hb hr hlocks dL_law_2045
