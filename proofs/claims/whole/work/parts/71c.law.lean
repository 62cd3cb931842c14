theorem dL_law_370 : decode code 370 = .ok (.invokevirtual 41, 3) := by decide +kernel
theorem dL_law_373 : decode code 373 = .ok (.aload_n 2, 1) := by decide +kernel
theorem dL_law_374 : decode code 374 = .ok (.aload_n 0, 1) := by decide +kernel
theorem dL_law_375 : decode code 375 = .ok (.iload_n 3, 1) := by decide +kernel
theorem dL_law_376 : decode code 376 = .ok (.iconst 1, 1) := by decide +kernel
theorem dL_law_377 : decode code 377 = .ok (.iadd, 1) := by decide +kernel
theorem dL_law_378 : decode code 378 = .ok (.iaload, 1) := by decide +kernel
theorem dL_law_379 : decode code 379 = .ok (.invokevirtual 45, 3) := by decide +kernel
theorem dL_law_382 : decode code 382 = .ok (.if_icmp .eq 514, 3) := by decide +kernel
theorem dL_law_385 : decode code 385 = .ok (.iconst 0, 1) := by decide +kernel
theorem dL_law_386 : decode code 386 = .ok (.ireturn, 1) := by decide +kernel
theorem dL_law_387 : decode code 387 = .ok (.aload_n 1, 1) := by decide +kernel
theorem dL_law_388 : decode code 388 = .ok (.aload_n 0, 1) := by decide +kernel
theorem dL_law_389 : decode code 389 = .ok (.iload_n 3, 1) := by decide +kernel
theorem dL_law_390 : decode code 390 = .ok (.iconst 1, 1) := by decide +kernel
theorem dL_law_391 : decode code 391 = .ok (.iadd, 1) := by decide +kernel
theorem dL_law_392 : decode code 392 = .ok (.iaload, 1) := by decide +kernel
theorem dL_law_393 : decode code 393 = .ok (.invokevirtual 46, 3) := by decide +kernel
theorem dL_law_396 : decode code 396 = .ok (.aload_n 2, 1) := by decide +kernel
theorem dL_law_397 : decode code 397 = .ok (.aload_n 0, 1) := by decide +kernel
theorem dL_law_398 : decode code 398 = .ok (.iload_n 3, 1) := by decide +kernel
theorem dL_law_399 : decode code 399 = .ok (.iconst 1, 1) := by decide +kernel
theorem dL_law_400 : decode code 400 = .ok (.iadd, 1) := by decide +kernel
theorem dL_law_401 : decode code 401 = .ok (.iaload, 1) := by decide +kernel
theorem dL_law_402 : decode code 402 = .ok (.invokevirtual 49, 3) := by decide +kernel
theorem dL_law_405 : decode code 405 = .ok (.if_icmp .eq 491, 3) := by decide +kernel
theorem dL_law_408 : decode code 408 = .ok (.iconst 0, 1) := by decide +kernel
theorem dL_law_409 : decode code 409 = .ok (.ireturn, 1) := by decide +kernel
theorem dL_law_410 : decode code 410 = .ok (.aload_n 1, 1) := by decide +kernel
theorem dL_law_411 : decode code 411 = .ok (.aload_n 0, 1) := by decide +kernel
theorem dL_law_412 : decode code 412 = .ok (.iload_n 3, 1) := by decide +kernel
theorem dL_law_413 : decode code 413 = .ok (.iconst 1, 1) := by decide +kernel
theorem dL_law_414 : decode code 414 = .ok (.iadd, 1) := by decide +kernel
theorem dL_law_415 : decode code 415 = .ok (.iaload, 1) := by decide +kernel
theorem dL_law_416 : decode code 416 = .ok (.aload_n 0, 1) := by decide +kernel
theorem dL_law_417 : decode code 417 = .ok (.iload_n 3, 1) := by decide +kernel
theorem dL_law_418 : decode code 418 = .ok (.iconst 2, 1) := by decide +kernel
theorem dL_law_419 : decode code 419 = .ok (.iadd, 1) := by decide +kernel
theorem dL_law_420 : decode code 420 = .ok (.iaload, 1) := by decide +kernel
theorem dL_law_421 : decode code 421 = .ok (.invokevirtual 50, 3) := by decide +kernel
theorem dL_law_424 : decode code 424 = .ok (.aload_n 2, 1) := by decide +kernel
theorem dL_law_425 : decode code 425 = .ok (.aload_n 0, 1) := by decide +kernel
theorem dL_law_426 : decode code 426 = .ok (.iload_n 3, 1) := by decide +kernel
theorem dL_law_427 : decode code 427 = .ok (.iconst 1, 1) := by decide +kernel
theorem dL_law_428 : decode code 428 = .ok (.iadd, 1) := by decide +kernel
theorem dL_law_429 : decode code 429 = .ok (.iaload, 1) := by decide +kernel
theorem dL_law_430 : decode code 430 = .ok (.aload_n 0, 1) := by decide +kernel
theorem dL_law_431 : decode code 431 = .ok (.iload_n 3, 1) := by decide +kernel
theorem dL_law_432 : decode code 432 = .ok (.iconst 2, 1) := by decide +kernel
theorem dL_law_433 : decode code 433 = .ok (.iadd, 1) := by decide +kernel
theorem dL_law_434 : decode code 434 = .ok (.iaload, 1) := by decide +kernel
theorem dL_law_435 : decode code 435 = .ok (.invokevirtual 53, 3) := by decide +kernel
theorem dL_law_438 : decode code 438 = .ok (.if_icmp .eq 458, 3) := by decide +kernel
theorem dL_law_441 : decode code 441 = .ok (.iconst 0, 1) := by decide +kernel
theorem dL_law_442 : decode code 442 = .ok (.ireturn, 1) := by decide +kernel
theorem dL_law_443 : decode code 443 = .ok (.aload_n 1, 1) := by decide +kernel
theorem dL_law_444 : decode code 444 = .ok (.aload_n 0, 1) := by decide +kernel
theorem dL_law_445 : decode code 445 = .ok (.iload_n 3, 1) := by decide +kernel
theorem dL_law_446 : decode code 446 = .ok (.iconst 1, 1) := by decide +kernel
theorem dL_law_447 : decode code 447 = .ok (.iadd, 1) := by decide +kernel
theorem dL_law_448 : decode code 448 = .ok (.iaload, 1) := by decide +kernel
theorem dL_law_449 : decode code 449 = .ok (.invokevirtual 54, 3) := by decide +kernel
theorem dL_law_452 : decode code 452 = .ok (.aload_n 2, 1) := by decide +kernel
theorem dL_law_453 : decode code 453 = .ok (.aload_n 0, 1) := by decide +kernel
theorem dL_law_454 : decode code 454 = .ok (.iload_n 3, 1) := by decide +kernel
theorem dL_law_455 : decode code 455 = .ok (.iconst 1, 1) := by decide +kernel
theorem dL_law_456 : decode code 456 = .ok (.iadd, 1) := by decide +kernel
theorem dL_law_457 : decode code 457 = .ok (.iaload, 1) := by decide +kernel
theorem dL_law_458 : decode code 458 = .ok (.invokevirtual 57, 3) := by decide +kernel
theorem dL_law_461 : decode code 461 = .ok (.if_icmp .eq 435, 3) := by decide +kernel
theorem dL_law_464 : decode code 464 = .ok (.iconst 0, 1) := by decide +kernel
theorem dL_law_465 : decode code 465 = .ok (.ireturn, 1) := by decide +kernel
theorem dL_law_466 : decode code 466 = .ok (.aload_n 1, 1) := by decide +kernel
theorem dL_law_467 : decode code 467 = .ok (.aload_n 0, 1) := by decide +kernel
theorem dL_law_468 : decode code 468 = .ok (.iload_n 3, 1) := by decide +kernel
theorem dL_law_469 : decode code 469 = .ok (.iconst 1, 1) := by decide +kernel
theorem dL_law_470 : decode code 470 = .ok (.iadd, 1) := by decide +kernel
theorem dL_law_471 : decode code 471 = .ok (.iaload, 1) := by decide +kernel
theorem dL_law_472 : decode code 472 = .ok (.aload_n 0, 1) := by decide +kernel
theorem dL_law_473 : decode code 473 = .ok (.iload_n 3, 1) := by decide +kernel
theorem dL_law_474 : decode code 474 = .ok (.iconst 2, 1) := by decide +kernel
theorem dL_law_475 : decode code 475 = .ok (.iadd, 1) := by decide +kernel
theorem dL_law_476 : decode code 476 = .ok (.iaload, 1) := by decide +kernel
theorem dL_law_477 : decode code 477 = .ok (.aload_n 0, 1) := by decide +kernel
theorem dL_law_478 : decode code 478 = .ok (.iload_n 3, 1) := by decide +kernel
theorem dL_law_479 : decode code 479 = .ok (.iconst 3, 1) := by decide +kernel
theorem dL_law_480 : decode code 480 = .ok (.iadd, 1) := by decide +kernel
theorem dL_law_481 : decode code 481 = .ok (.iaload, 1) := by decide +kernel
theorem dL_law_482 : decode code 482 = .ok (.invokevirtual 58, 3) := by decide +kernel
theorem dL_law_485 : decode code 485 = .ok (.aload_n 2, 1) := by decide +kernel
theorem dL_law_486 : decode code 486 = .ok (.aload_n 0, 1) := by decide +kernel
theorem dL_law_487 : decode code 487 = .ok (.iload_n 3, 1) := by decide +kernel
theorem dL_law_488 : decode code 488 = .ok (.iconst 1, 1) := by decide +kernel
theorem dL_law_489 : decode code 489 = .ok (.iadd, 1) := by decide +kernel
theorem dL_law_490 : decode code 490 = .ok (.iaload, 1) := by decide +kernel
theorem dL_law_491 : decode code 491 = .ok (.aload_n 0, 1) := by decide +kernel
theorem dL_law_492 : decode code 492 = .ok (.iload_n 3, 1) := by decide +kernel
theorem dL_law_493 : decode code 493 = .ok (.iconst 2, 1) := by decide +kernel
theorem dL_law_494 : decode code 494 = .ok (.iadd, 1) := by decide +kernel
theorem dL_law_495 : decode code 495 = .ok (.iaload, 1) := by decide +kernel
theorem dL_law_496 : decode code 496 = .ok (.aload_n 0, 1) := by decide +kernel
theorem dL_law_497 : decode code 497 = .ok (.iload_n 3, 1) := by decide +kernel
theorem dL_law_498 : decode code 498 = .ok (.iconst 3, 1) := by decide +kernel
theorem dL_law_499 : decode code 499 = .ok (.iadd, 1) := by decide +kernel
theorem dL_law_500 : decode code 500 = .ok (.iaload, 1) := by decide +kernel
theorem dL_law_501 : decode code 501 = .ok (.invokevirtual 61, 3) := by decide +kernel
theorem dL_law_504 : decode code 504 = .ok (.if_icmp .eq 392, 3) := by decide +kernel
theorem dL_law_507 : decode code 507 = .ok (.iconst 0, 1) := by decide +kernel
theorem dL_law_508 : decode code 508 = .ok (.ireturn, 1) := by decide +kernel
theorem dL_law_509 : decode code 509 = .ok (.aload_n 1, 1) := by decide +kernel
theorem dL_law_510 : decode code 510 = .ok (.aload_n 0, 1) := by decide +kernel
theorem dL_law_511 : decode code 511 = .ok (.iload_n 3, 1) := by decide +kernel
theorem dL_law_512 : decode code 512 = .ok (.iconst 1, 1) := by decide +kernel
theorem dL_law_513 : decode code 513 = .ok (.iadd, 1) := by decide +kernel
theorem dL_law_514 : decode code 514 = .ok (.iaload, 1) := by decide +kernel
theorem dL_law_515 : decode code 515 = .ok (.aload_n 0, 1) := by decide +kernel
theorem dL_law_516 : decode code 516 = .ok (.iload_n 3, 1) := by decide +kernel
theorem dL_law_517 : decode code 517 = .ok (.iconst 2, 1) := by decide +kernel
theorem dL_law_518 : decode code 518 = .ok (.iadd, 1) := by decide +kernel
theorem dL_law_519 : decode code 519 = .ok (.iaload, 1) := by decide +kernel
theorem dL_law_520 : decode code 520 = .ok (.aload_n 0, 1) := by decide +kernel
theorem dL_law_521 : decode code 521 = .ok (.iload_n 3, 1) := by decide +kernel
theorem dL_law_522 : decode code 522 = .ok (.iconst 3, 1) := by decide +kernel
theorem dL_law_523 : decode code 523 = .ok (.iadd, 1) := by decide +kernel
theorem dL_law_524 : decode code 524 = .ok (.iaload, 1) := by decide +kernel
theorem dL_law_525 : decode code 525 = .ok (.invokevirtual 62, 3) := by decide +kernel
theorem dL_law_528 : decode code 528 = .ok (.aload_n 2, 1) := by decide +kernel
theorem dL_law_529 : decode code 529 = .ok (.aload_n 0, 1) := by decide +kernel
theorem dL_law_530 : decode code 530 = .ok (.iload_n 3, 1) := by decide +kernel
theorem dL_law_531 : decode code 531 = .ok (.iconst 1, 1) := by decide +kernel
theorem dL_law_532 : decode code 532 = .ok (.iadd, 1) := by decide +kernel
theorem dL_law_533 : decode code 533 = .ok (.iaload, 1) := by decide +kernel
theorem dL_law_534 : decode code 534 = .ok (.aload_n 0, 1) := by decide +kernel
theorem dL_law_535 : decode code 535 = .ok (.iload_n 3, 1) := by decide +kernel
theorem dL_law_536 : decode code 536 = .ok (.iconst 2, 1) := by decide +kernel
theorem dL_law_537 : decode code 537 = .ok (.iadd, 1) := by decide +kernel
theorem dL_law_538 : decode code 538 = .ok (.iaload, 1) := by decide +kernel
theorem dL_law_539 : decode code 539 = .ok (.aload_n 0, 1) := by decide +kernel
theorem dL_law_540 : decode code 540 = .ok (.iload_n 3, 1) := by decide +kernel
theorem dL_law_541 : decode code 541 = .ok (.iconst 3, 1) := by decide +kernel
theorem dL_law_542 : decode code 542 = .ok (.iadd, 1) := by decide +kernel
theorem dL_law_543 : decode code 543 = .ok (.iaload, 1) := by decide +kernel
theorem dL_law_544 : decode code 544 = .ok (.invokevirtual 66, 3) := by decide +kernel
theorem dL_law_547 : decode code 547 = .ok (.lcmp, 1) := by decide +kernel
theorem dL_law_548 : decode code 548 = .ok (.ifCond .eq 348, 3) := by decide +kernel
theorem dL_law_551 : decode code 551 = .ok (.iconst 0, 1) := by decide +kernel
theorem dL_law_552 : decode code 552 = .ok (.ireturn, 1) := by decide +kernel
theorem dL_law_553 : decode code 553 = .ok (.aload_n 1, 1) := by decide +kernel
theorem dL_law_554 : decode code 554 = .ok (.aload_n 0, 1) := by decide +kernel
theorem dL_law_555 : decode code 555 = .ok (.iload_n 3, 1) := by decide +kernel
theorem dL_law_556 : decode code 556 = .ok (.iconst 1, 1) := by decide +kernel
theorem dL_law_557 : decode code 557 = .ok (.iadd, 1) := by decide +kernel
theorem dL_law_558 : decode code 558 = .ok (.iaload, 1) := by decide +kernel
theorem dL_law_559 : decode code 559 = .ok (.aload_n 0, 1) := by decide +kernel
theorem dL_law_560 : decode code 560 = .ok (.iload_n 3, 1) := by decide +kernel
theorem dL_law_561 : decode code 561 = .ok (.iconst 2, 1) := by decide +kernel
theorem dL_law_562 : decode code 562 = .ok (.iadd, 1) := by decide +kernel
theorem dL_law_563 : decode code 563 = .ok (.iaload, 1) := by decide +kernel
theorem dL_law_564 : decode code 564 = .ok (.aload_n 0, 1) := by decide +kernel
theorem dL_law_565 : decode code 565 = .ok (.iload_n 3, 1) := by decide +kernel
theorem dL_law_566 : decode code 566 = .ok (.iconst 3, 1) := by decide +kernel
theorem dL_law_567 : decode code 567 = .ok (.iadd, 1) := by decide +kernel
theorem dL_law_568 : decode code 568 = .ok (.iaload, 1) := by decide +kernel
theorem dL_law_569 : decode code 569 = .ok (.aload_n 0, 1) := by decide +kernel
theorem dL_law_570 : decode code 570 = .ok (.iload_n 3, 1) := by decide +kernel
theorem dL_law_571 : decode code 571 = .ok (.iconst 4, 1) := by decide +kernel
theorem dL_law_572 : decode code 572 = .ok (.iadd, 1) := by decide +kernel
theorem dL_law_573 : decode code 573 = .ok (.iaload, 1) := by decide +kernel
theorem dL_law_574 : decode code 574 = .ok (.aload_n 0, 1) := by decide +kernel
theorem dL_law_575 : decode code 575 = .ok (.iload_n 3, 1) := by decide +kernel
theorem dL_law_576 : decode code 576 = .ok (.iconst 5, 1) := by decide +kernel
theorem dL_law_577 : decode code 577 = .ok (.iadd, 1) := by decide +kernel
theorem dL_law_578 : decode code 578 = .ok (.iaload, 1) := by decide +kernel
theorem dL_law_579 : decode code 579 = .ok (.invokevirtual 67, 3) := by decide +kernel
theorem dL_law_582 : decode code 582 = .ok (.aload_n 2, 1) := by decide +kernel
theorem dL_law_583 : decode code 583 = .ok (.aload_n 0, 1) := by decide +kernel
theorem dL_law_584 : decode code 584 = .ok (.iload_n 3, 1) := by decide +kernel
theorem dL_law_585 : decode code 585 = .ok (.iconst 1, 1) := by decide +kernel
theorem dL_law_586 : decode code 586 = .ok (.iadd, 1) := by decide +kernel
theorem dL_law_587 : decode code 587 = .ok (.iaload, 1) := by decide +kernel
theorem dL_law_588 : decode code 588 = .ok (.aload_n 0, 1) := by decide +kernel
theorem dL_law_589 : decode code 589 = .ok (.iload_n 3, 1) := by decide +kernel
theorem dL_law_590 : decode code 590 = .ok (.iconst 2, 1) := by decide +kernel
theorem dL_law_591 : decode code 591 = .ok (.iadd, 1) := by decide +kernel
theorem dL_law_592 : decode code 592 = .ok (.iaload, 1) := by decide +kernel
theorem dL_law_593 : decode code 593 = .ok (.aload_n 0, 1) := by decide +kernel
theorem dL_law_594 : decode code 594 = .ok (.iload_n 3, 1) := by decide +kernel
theorem dL_law_595 : decode code 595 = .ok (.iconst 3, 1) := by decide +kernel
theorem dL_law_596 : decode code 596 = .ok (.iadd, 1) := by decide +kernel
theorem dL_law_597 : decode code 597 = .ok (.iaload, 1) := by decide +kernel
theorem dL_law_598 : decode code 598 = .ok (.aload_n 0, 1) := by decide +kernel
theorem dL_law_599 : decode code 599 = .ok (.iload_n 3, 1) := by decide +kernel
theorem dL_law_600 : decode code 600 = .ok (.iconst 4, 1) := by decide +kernel
theorem dL_law_601 : decode code 601 = .ok (.iadd, 1) := by decide +kernel
theorem dL_law_602 : decode code 602 = .ok (.iaload, 1) := by decide +kernel
theorem dL_law_603 : decode code 603 = .ok (.aload_n 0, 1) := by decide +kernel
theorem dL_law_604 : decode code 604 = .ok (.iload_n 3, 1) := by decide +kernel
theorem dL_law_605 : decode code 605 = .ok (.iconst 5, 1) := by decide +kernel
theorem dL_law_606 : decode code 606 = .ok (.iadd, 1) := by decide +kernel
theorem dL_law_607 : decode code 607 = .ok (.iaload, 1) := by decide +kernel
theorem dL_law_608 : decode code 608 = .ok (.invokevirtual 70, 3) := by decide +kernel
theorem dL_law_611 : decode code 611 = .ok (.if_icmp .eq 285, 3) := by decide +kernel
theorem dL_law_614 : decode code 614 = .ok (.iconst 0, 1) := by decide +kernel
theorem dL_law_615 : decode code 615 = .ok (.ireturn, 1) := by decide +kernel
theorem dL_law_616 : decode code 616 = .ok (.aload_n 1, 1) := by decide +kernel
theorem dL_law_617 : decode code 617 = .ok (.aload_n 0, 1) := by decide +kernel
theorem dL_law_618 : decode code 618 = .ok (.iload_n 3, 1) := by decide +kernel
theorem dL_law_619 : decode code 619 = .ok (.iconst 1, 1) := by decide +kernel
theorem dL_law_620 : decode code 620 = .ok (.iadd, 1) := by decide +kernel
theorem dL_law_621 : decode code 621 = .ok (.iaload, 1) := by decide +kernel
theorem dL_law_622 : decode code 622 = .ok (.aload_n 0, 1) := by decide +kernel
theorem dL_law_623 : decode code 623 = .ok (.iload_n 3, 1) := by decide +kernel
theorem dL_law_624 : decode code 624 = .ok (.iconst 2, 1) := by decide +kernel
theorem dL_law_625 : decode code 625 = .ok (.iadd, 1) := by decide +kernel
theorem dL_law_626 : decode code 626 = .ok (.iaload, 1) := by decide +kernel
theorem dL_law_627 : decode code 627 = .ok (.invokevirtual 71, 3) := by decide +kernel
theorem dL_law_630 : decode code 630 = .ok (.aload_n 2, 1) := by decide +kernel
theorem dL_law_631 : decode code 631 = .ok (.aload_n 0, 1) := by decide +kernel
theorem dL_law_632 : decode code 632 = .ok (.iload_n 3, 1) := by decide +kernel
theorem dL_law_633 : decode code 633 = .ok (.iconst 1, 1) := by decide +kernel
set_option maxRecDepth 20000 in
theorem oL_law_220 (b L : Nat) (xs : Nat → Int32) : q_LX b L xs pL_law 220 (q_invV [(9, q_call kX10_run 3)] 1) := q_LX.of (fun _ => q_OK_invV (idx := 41) (q_m1 ⟨_, _, _, _, _, _, _, _, _, rfl, rfl, mX10_run, Or.inl ⟨dL_law_370, rfl, w_609, w_610, w_611, w_134, ⟨by decide, by decide, by decide +kernel⟩⟩, w_612, by decide, by decide⟩) rfl)
set_option maxRecDepth 20000 in
theorem oL_law_221 (b L : Nat) (xs : Nat → Int32) : q_LX b L xs pL_law 221 (q_aload 2) := q_LX.of (fun _ => q_OK_aload_n dL_law_373 rfl rfl)
set_option maxRecDepth 20000 in
theorem oL_law_222 (b L : Nat) (xs : Nat → Int32) : q_LX b L xs pL_law 222 (q_aloadX 0) := q_LX_aload dL_law_374 rfl rfl
set_option maxRecDepth 20000 in
theorem oL_law_223 (b L : Nat) (xs : Nat → Int32) : q_LX b L xs pL_law 223 (q_iload 3) := q_LX.of (fun _ => q_OK_iload_n dL_law_375 rfl rfl)
set_option maxRecDepth 20000 in
theorem oL_law_224 (b L : Nat) (xs : Nat → Int32) : q_LX b L xs pL_law 224 (q_push (.int 1)) := q_LX.of (fun _ => q_OK_iconst dL_law_376 rfl rfl)
set_option maxRecDepth 20000 in
theorem oL_law_225 (b L : Nat) (xs : Nat → Int32) : q_LX b L xs pL_law 225 (q_bin (fun x y => x + y)) := q_LX.of (fun _ => q_OK_iadd dL_law_377 rfl)
set_option maxRecDepth 20000 in
theorem oL_law_226 (b L : Nat) (xs : Nat → Int32) : q_LX b L xs pL_law 226 (q_sld b L xs) := q_LX_sld dL_law_378 rfl
set_option maxRecDepth 20000 in
theorem oL_law_227 (b L : Nat) (xs : Nat → Int32) : q_LX b L xs pL_law 227 (q_invV [(10, q_call kX11_run 6)] 1) := q_LX.of (fun _ => q_OK_invV (idx := 45) (q_m1 ⟨_, _, _, _, _, _, _, _, _, rfl, rfl, mX11_run, Or.inl ⟨dL_law_379, rfl, w_613, w_614, w_615, w_427, ⟨by decide, by decide, by decide +kernel⟩⟩, w_616, by decide, by decide⟩) rfl)
set_option maxRecDepth 20000 in
theorem oL_law_228 (b L : Nat) (xs : Nat → Int32) : q_LX b L xs pL_law 228 (q_cmpeq 650) := q_LX.of (fun _ => q_OK_cmpeq dL_law_382 rfl rfl)
set_option maxRecDepth 20000 in
theorem oL_law_229 (b L : Nat) (xs : Nat → Int32) : q_LX b L xs pL_law 229 (q_push (.int 0)) := q_LX.of (fun _ => q_OK_iconst dL_law_385 rfl rfl)
set_option maxRecDepth 20000 in
theorem oL_law_230 (b L : Nat) (xs : Nat → Int32) : q_LX b L xs pL_law 230 (q_zret) := q_LX.of (fun _ => q_OK_zret dL_law_386 rfl)
set_option maxRecDepth 20000 in
theorem oL_law_231 (b L : Nat) (xs : Nat → Int32) : q_LX b L xs pL_law 231 (q_aload 1) := q_LX.of (fun _ => q_OK_aload_n dL_law_387 rfl rfl)
set_option maxRecDepth 20000 in
theorem oL_law_232 (b L : Nat) (xs : Nat → Int32) : q_LX b L xs pL_law 232 (q_aloadX 0) := q_LX_aload dL_law_388 rfl rfl
set_option maxRecDepth 20000 in
theorem oL_law_233 (b L : Nat) (xs : Nat → Int32) : q_LX b L xs pL_law 233 (q_iload 3) := q_LX.of (fun _ => q_OK_iload_n dL_law_389 rfl rfl)
set_option maxRecDepth 20000 in
theorem oL_law_234 (b L : Nat) (xs : Nat → Int32) : q_LX b L xs pL_law 234 (q_push (.int 1)) := q_LX.of (fun _ => q_OK_iconst dL_law_390 rfl rfl)
set_option maxRecDepth 20000 in
theorem oL_law_235 (b L : Nat) (xs : Nat → Int32) : q_LX b L xs pL_law 235 (q_bin (fun x y => x + y)) := q_LX.of (fun _ => q_OK_iadd dL_law_391 rfl)
set_option maxRecDepth 20000 in
theorem oL_law_236 (b L : Nat) (xs : Nat → Int32) : q_LX b L xs pL_law 236 (q_sld b L xs) := q_LX_sld dL_law_392 rfl
set_option maxRecDepth 20000 in
theorem oL_law_237 (b L : Nat) (xs : Nat → Int32) : q_LX b L xs pL_law 237 (q_invV [(9, q_call kX10_lose 3)] 1) := q_LX.of (fun _ => q_OK_invV (idx := 46) (q_m1 ⟨_, _, _, _, _, _, _, _, _, rfl, rfl, mX10_lose, Or.inl ⟨dL_law_393, rfl, w_617, w_618, w_619, w_134, ⟨by decide, by decide, by decide +kernel⟩⟩, w_620, by decide, by decide⟩) rfl)
set_option maxRecDepth 20000 in
theorem oL_law_238 (b L : Nat) (xs : Nat → Int32) : q_LX b L xs pL_law 238 (q_aload 2) := q_LX.of (fun _ => q_OK_aload_n dL_law_396 rfl rfl)
set_option maxRecDepth 20000 in
theorem oL_law_239 (b L : Nat) (xs : Nat → Int32) : q_LX b L xs pL_law 239 (q_aloadX 0) := q_LX_aload dL_law_397 rfl rfl
set_option maxRecDepth 20000 in
theorem oL_law_240 (b L : Nat) (xs : Nat → Int32) : q_LX b L xs pL_law 240 (q_iload 3) := q_LX.of (fun _ => q_OK_iload_n dL_law_398 rfl rfl)
set_option maxRecDepth 20000 in
theorem oL_law_241 (b L : Nat) (xs : Nat → Int32) : q_LX b L xs pL_law 241 (q_push (.int 1)) := q_LX.of (fun _ => q_OK_iconst dL_law_399 rfl rfl)
set_option maxRecDepth 20000 in
theorem oL_law_242 (b L : Nat) (xs : Nat → Int32) : q_LX b L xs pL_law 242 (q_bin (fun x y => x + y)) := q_LX.of (fun _ => q_OK_iadd dL_law_400 rfl)
set_option maxRecDepth 20000 in
theorem oL_law_243 (b L : Nat) (xs : Nat → Int32) : q_LX b L xs pL_law 243 (q_sld b L xs) := q_LX_sld dL_law_401 rfl
set_option maxRecDepth 20000 in
theorem oL_law_244 (b L : Nat) (xs : Nat → Int32) : q_LX b L xs pL_law 244 (q_invV [(10, q_call kX11_lose 2)] 1) := q_LX.of (fun _ => q_OK_invV (idx := 49) (q_m1 ⟨_, _, _, _, _, _, _, _, _, rfl, rfl, mX11_lose, Or.inl ⟨dL_law_402, rfl, w_621, w_622, w_623, w_427, ⟨by decide, by decide, by decide +kernel⟩⟩, w_624, by decide, by decide⟩) rfl)
set_option maxRecDepth 20000 in
theorem oL_law_245 (b L : Nat) (xs : Nat → Int32) : q_LX b L xs pL_law 245 (q_cmpeq 650) := q_LX.of (fun _ => q_OK_cmpeq dL_law_405 rfl rfl)
set_option maxRecDepth 20000 in
theorem oL_law_246 (b L : Nat) (xs : Nat → Int32) : q_LX b L xs pL_law 246 (q_push (.int 0)) := q_LX.of (fun _ => q_OK_iconst dL_law_408 rfl rfl)
set_option maxRecDepth 20000 in
theorem oL_law_247 (b L : Nat) (xs : Nat → Int32) : q_LX b L xs pL_law 247 (q_zret) := q_LX.of (fun _ => q_OK_zret dL_law_409 rfl)
set_option maxRecDepth 20000 in
theorem oL_law_248 (b L : Nat) (xs : Nat → Int32) : q_LX b L xs pL_law 248 (q_aload 1) := q_LX.of (fun _ => q_OK_aload_n dL_law_410 rfl rfl)
set_option maxRecDepth 20000 in
theorem oL_law_249 (b L : Nat) (xs : Nat → Int32) : q_LX b L xs pL_law 249 (q_aloadX 0) := q_LX_aload dL_law_411 rfl rfl
set_option maxRecDepth 20000 in
theorem oL_law_250 (b L : Nat) (xs : Nat → Int32) : q_LX b L xs pL_law 250 (q_iload 3) := q_LX.of (fun _ => q_OK_iload_n dL_law_412 rfl rfl)
set_option maxRecDepth 20000 in
theorem oL_law_251 (b L : Nat) (xs : Nat → Int32) : q_LX b L xs pL_law 251 (q_push (.int 1)) := q_LX.of (fun _ => q_OK_iconst dL_law_413 rfl rfl)
set_option maxRecDepth 20000 in
theorem oL_law_252 (b L : Nat) (xs : Nat → Int32) : q_LX b L xs pL_law 252 (q_bin (fun x y => x + y)) := q_LX.of (fun _ => q_OK_iadd dL_law_414 rfl)
set_option maxRecDepth 20000 in
theorem oL_law_253 (b L : Nat) (xs : Nat → Int32) : q_LX b L xs pL_law 253 (q_sld b L xs) := q_LX_sld dL_law_415 rfl
set_option maxRecDepth 20000 in
theorem oL_law_254 (b L : Nat) (xs : Nat → Int32) : q_LX b L xs pL_law 254 (q_aloadX 0) := q_LX_aload dL_law_416 rfl rfl
set_option maxRecDepth 20000 in
theorem oL_law_255 (b L : Nat) (xs : Nat → Int32) : q_LX b L xs pL_law 255 (q_iload 3) := q_LX.of (fun _ => q_OK_iload_n dL_law_417 rfl rfl)
set_option maxRecDepth 20000 in
theorem oL_law_256 (b L : Nat) (xs : Nat → Int32) : q_LX b L xs pL_law 256 (q_push (.int 2)) := q_LX.of (fun _ => q_OK_iconst dL_law_418 rfl rfl)
set_option maxRecDepth 20000 in
theorem oL_law_257 (b L : Nat) (xs : Nat → Int32) : q_LX b L xs pL_law 257 (q_bin (fun x y => x + y)) := q_LX.of (fun _ => q_OK_iadd dL_law_419 rfl)
set_option maxRecDepth 20000 in
theorem oL_law_258 (b L : Nat) (xs : Nat → Int32) : q_LX b L xs pL_law 258 (q_sld b L xs) := q_LX_sld dL_law_420 rfl
set_option maxRecDepth 20000 in
theorem oL_law_259 (b L : Nat) (xs : Nat → Int32) : q_LX b L xs pL_law 259 (q_invV [(9, q_call kX10_at 3)] 2) := q_LX.of (fun _ => q_OK_invV (idx := 50) (q_m1 ⟨_, _, _, _, _, _, _, _, _, rfl, rfl, mX10_at, Or.inl ⟨dL_law_421, rfl, w_625, w_626, w_627, w_134, ⟨by decide, by decide, by decide +kernel⟩⟩, w_628, by decide, by decide⟩) rfl)
set_option maxRecDepth 20000 in
theorem oL_law_260 (b L : Nat) (xs : Nat → Int32) : q_LX b L xs pL_law 260 (q_aload 2) := q_LX.of (fun _ => q_OK_aload_n dL_law_424 rfl rfl)
set_option maxRecDepth 20000 in
theorem oL_law_261 (b L : Nat) (xs : Nat → Int32) : q_LX b L xs pL_law 261 (q_aloadX 0) := q_LX_aload dL_law_425 rfl rfl
set_option maxRecDepth 20000 in
theorem oL_law_262 (b L : Nat) (xs : Nat → Int32) : q_LX b L xs pL_law 262 (q_iload 3) := q_LX.of (fun _ => q_OK_iload_n dL_law_426 rfl rfl)
set_option maxRecDepth 20000 in
theorem oL_law_263 (b L : Nat) (xs : Nat → Int32) : q_LX b L xs pL_law 263 (q_push (.int 1)) := q_LX.of (fun _ => q_OK_iconst dL_law_427 rfl rfl)
set_option maxRecDepth 20000 in
theorem oL_law_264 (b L : Nat) (xs : Nat → Int32) : q_LX b L xs pL_law 264 (q_bin (fun x y => x + y)) := q_LX.of (fun _ => q_OK_iadd dL_law_428 rfl)
set_option maxRecDepth 20000 in
theorem oL_law_265 (b L : Nat) (xs : Nat → Int32) : q_LX b L xs pL_law 265 (q_sld b L xs) := q_LX_sld dL_law_429 rfl
set_option maxRecDepth 20000 in
theorem oL_law_266 (b L : Nat) (xs : Nat → Int32) : q_LX b L xs pL_law 266 (q_aloadX 0) := q_LX_aload dL_law_430 rfl rfl
set_option maxRecDepth 20000 in
theorem oL_law_267 (b L : Nat) (xs : Nat → Int32) : q_LX b L xs pL_law 267 (q_iload 3) := q_LX.of (fun _ => q_OK_iload_n dL_law_431 rfl rfl)
set_option maxRecDepth 20000 in
theorem oL_law_268 (b L : Nat) (xs : Nat → Int32) : q_LX b L xs pL_law 268 (q_push (.int 2)) := q_LX.of (fun _ => q_OK_iconst dL_law_432 rfl rfl)
set_option maxRecDepth 20000 in
theorem oL_law_269 (b L : Nat) (xs : Nat → Int32) : q_LX b L xs pL_law 269 (q_bin (fun x y => x + y)) := q_LX.of (fun _ => q_OK_iadd dL_law_433 rfl)
set_option maxRecDepth 20000 in
theorem oL_law_270 (b L : Nat) (xs : Nat → Int32) : q_LX b L xs pL_law 270 (q_sld b L xs) := q_LX_sld dL_law_434 rfl
set_option maxRecDepth 20000 in
theorem oL_law_271 (b L : Nat) (xs : Nat → Int32) : q_LX b L xs pL_law 271 (q_invV [(10, q_call kX11_at 3)] 2) := q_LX.of (fun _ => q_OK_invV (idx := 53) (q_m1 ⟨_, _, _, _, _, _, _, _, _, rfl, rfl, mX11_at, Or.inl ⟨dL_law_435, rfl, w_629, w_630, w_631, w_427, ⟨by decide, by decide, by decide +kernel⟩⟩, w_632, by decide, by decide⟩) rfl)
set_option maxRecDepth 20000 in
theorem oL_law_272 (b L : Nat) (xs : Nat → Int32) : q_LX b L xs pL_law 272 (q_cmpeq 650) := q_LX.of (fun _ => q_OK_cmpeq dL_law_438 rfl rfl)
set_option maxRecDepth 20000 in
theorem oL_law_273 (b L : Nat) (xs : Nat → Int32) : q_LX b L xs pL_law 273 (q_push (.int 0)) := q_LX.of (fun _ => q_OK_iconst dL_law_441 rfl rfl)
set_option maxRecDepth 20000 in
theorem oL_law_274 (b L : Nat) (xs : Nat → Int32) : q_LX b L xs pL_law 274 (q_zret) := q_LX.of (fun _ => q_OK_zret dL_law_442 rfl)
set_option maxRecDepth 20000 in
theorem oL_law_275 (b L : Nat) (xs : Nat → Int32) : q_LX b L xs pL_law 275 (q_aload 1) := q_LX.of (fun _ => q_OK_aload_n dL_law_443 rfl rfl)
set_option maxRecDepth 20000 in
theorem oL_law_276 (b L : Nat) (xs : Nat → Int32) : q_LX b L xs pL_law 276 (q_aloadX 0) := q_LX_aload dL_law_444 rfl rfl
set_option maxRecDepth 20000 in
theorem oL_law_277 (b L : Nat) (xs : Nat → Int32) : q_LX b L xs pL_law 277 (q_iload 3) := q_LX.of (fun _ => q_OK_iload_n dL_law_445 rfl rfl)
set_option maxRecDepth 20000 in
theorem oL_law_278 (b L : Nat) (xs : Nat → Int32) : q_LX b L xs pL_law 278 (q_push (.int 1)) := q_LX.of (fun _ => q_OK_iconst dL_law_446 rfl rfl)
set_option maxRecDepth 20000 in
theorem oL_law_279 (b L : Nat) (xs : Nat → Int32) : q_LX b L xs pL_law 279 (q_bin (fun x y => x + y)) := q_LX.of (fun _ => q_OK_iadd dL_law_447 rfl)
set_option maxRecDepth 20000 in
theorem oL_law_280 (b L : Nat) (xs : Nat → Int32) : q_LX b L xs pL_law 280 (q_sld b L xs) := q_LX_sld dL_law_448 rfl
set_option maxRecDepth 20000 in
theorem oL_law_281 (b L : Nat) (xs : Nat → Int32) : q_LX b L xs pL_law 281 (q_invV [(9, q_call kX10_about 2)] 1) := q_LX.of (fun _ => q_OK_invV (idx := 54) (q_m1 ⟨_, _, _, _, _, _, _, _, _, rfl, rfl, mX10_about, Or.inl ⟨dL_law_449, rfl, w_633, w_634, w_635, w_134, ⟨by decide, by decide, by decide +kernel⟩⟩, w_636, by decide, by decide⟩) rfl)
set_option maxRecDepth 20000 in
theorem oL_law_282 (b L : Nat) (xs : Nat → Int32) : q_LX b L xs pL_law 282 (q_aload 2) := q_LX.of (fun _ => q_OK_aload_n dL_law_452 rfl rfl)
set_option maxRecDepth 20000 in
theorem oL_law_283 (b L : Nat) (xs : Nat → Int32) : q_LX b L xs pL_law 283 (q_aloadX 0) := q_LX_aload dL_law_453 rfl rfl
set_option maxRecDepth 20000 in
theorem oL_law_284 (b L : Nat) (xs : Nat → Int32) : q_LX b L xs pL_law 284 (q_iload 3) := q_LX.of (fun _ => q_OK_iload_n dL_law_454 rfl rfl)
set_option maxRecDepth 20000 in
theorem oL_law_285 (b L : Nat) (xs : Nat → Int32) : q_LX b L xs pL_law 285 (q_push (.int 1)) := q_LX.of (fun _ => q_OK_iconst dL_law_455 rfl rfl)
set_option maxRecDepth 20000 in
theorem oL_law_286 (b L : Nat) (xs : Nat → Int32) : q_LX b L xs pL_law 286 (q_bin (fun x y => x + y)) := q_LX.of (fun _ => q_OK_iadd dL_law_456 rfl)
set_option maxRecDepth 20000 in
theorem oL_law_287 (b L : Nat) (xs : Nat → Int32) : q_LX b L xs pL_law 287 (q_sld b L xs) := q_LX_sld dL_law_457 rfl
set_option maxRecDepth 20000 in
theorem oL_law_288 (b L : Nat) (xs : Nat → Int32) : q_LX b L xs pL_law 288 (q_invV [(10, q_call kX11_about 2)] 1) := q_LX.of (fun _ => q_OK_invV (idx := 57) (q_m1 ⟨_, _, _, _, _, _, _, _, _, rfl, rfl, mX11_about, Or.inl ⟨dL_law_458, rfl, w_637, w_638, w_639, w_427, ⟨by decide, by decide, by decide +kernel⟩⟩, w_640, by decide, by decide⟩) rfl)
set_option maxRecDepth 20000 in
theorem oL_law_289 (b L : Nat) (xs : Nat → Int32) : q_LX b L xs pL_law 289 (q_cmpeq 650) := q_LX.of (fun _ => q_OK_cmpeq dL_law_461 rfl rfl)
set_option maxRecDepth 20000 in
theorem oL_law_290 (b L : Nat) (xs : Nat → Int32) : q_LX b L xs pL_law 290 (q_push (.int 0)) := q_LX.of (fun _ => q_OK_iconst dL_law_464 rfl rfl)
set_option maxRecDepth 20000 in
theorem oL_law_291 (b L : Nat) (xs : Nat → Int32) : q_LX b L xs pL_law 291 (q_zret) := q_LX.of (fun _ => q_OK_zret dL_law_465 rfl)
set_option maxRecDepth 20000 in
theorem oL_law_292 (b L : Nat) (xs : Nat → Int32) : q_LX b L xs pL_law 292 (q_aload 1) := q_LX.of (fun _ => q_OK_aload_n dL_law_466 rfl rfl)
set_option maxRecDepth 20000 in
theorem oL_law_293 (b L : Nat) (xs : Nat → Int32) : q_LX b L xs pL_law 293 (q_aloadX 0) := q_LX_aload dL_law_467 rfl rfl
set_option maxRecDepth 20000 in
theorem oL_law_294 (b L : Nat) (xs : Nat → Int32) : q_LX b L xs pL_law 294 (q_iload 3) := q_LX.of (fun _ => q_OK_iload_n dL_law_468 rfl rfl)
set_option maxRecDepth 20000 in
theorem oL_law_295 (b L : Nat) (xs : Nat → Int32) : q_LX b L xs pL_law 295 (q_push (.int 1)) := q_LX.of (fun _ => q_OK_iconst dL_law_469 rfl rfl)
set_option maxRecDepth 20000 in
theorem oL_law_296 (b L : Nat) (xs : Nat → Int32) : q_LX b L xs pL_law 296 (q_bin (fun x y => x + y)) := q_LX.of (fun _ => q_OK_iadd dL_law_470 rfl)
set_option maxRecDepth 20000 in
theorem oL_law_297 (b L : Nat) (xs : Nat → Int32) : q_LX b L xs pL_law 297 (q_sld b L xs) := q_LX_sld dL_law_471 rfl
set_option maxRecDepth 20000 in
theorem oL_law_298 (b L : Nat) (xs : Nat → Int32) : q_LX b L xs pL_law 298 (q_aloadX 0) := q_LX_aload dL_law_472 rfl rfl
set_option maxRecDepth 20000 in
theorem oL_law_299 (b L : Nat) (xs : Nat → Int32) : q_LX b L xs pL_law 299 (q_iload 3) := q_LX.of (fun _ => q_OK_iload_n dL_law_473 rfl rfl)
set_option maxRecDepth 20000 in
theorem oL_law_300 (b L : Nat) (xs : Nat → Int32) : q_LX b L xs pL_law 300 (q_push (.int 2)) := q_LX.of (fun _ => q_OK_iconst dL_law_474 rfl rfl)
set_option maxRecDepth 20000 in
theorem oL_law_301 (b L : Nat) (xs : Nat → Int32) : q_LX b L xs pL_law 301 (q_bin (fun x y => x + y)) := q_LX.of (fun _ => q_OK_iadd dL_law_475 rfl)
set_option maxRecDepth 20000 in
theorem oL_law_302 (b L : Nat) (xs : Nat → Int32) : q_LX b L xs pL_law 302 (q_sld b L xs) := q_LX_sld dL_law_476 rfl
set_option maxRecDepth 20000 in
theorem oL_law_303 (b L : Nat) (xs : Nat → Int32) : q_LX b L xs pL_law 303 (q_aloadX 0) := q_LX_aload dL_law_477 rfl rfl
set_option maxRecDepth 20000 in
theorem oL_law_304 (b L : Nat) (xs : Nat → Int32) : q_LX b L xs pL_law 304 (q_iload 3) := q_LX.of (fun _ => q_OK_iload_n dL_law_478 rfl rfl)
set_option maxRecDepth 20000 in
theorem oL_law_305 (b L : Nat) (xs : Nat → Int32) : q_LX b L xs pL_law 305 (q_push (.int 3)) := q_LX.of (fun _ => q_OK_iconst dL_law_479 rfl rfl)
set_option maxRecDepth 20000 in
theorem oL_law_306 (b L : Nat) (xs : Nat → Int32) : q_LX b L xs pL_law 306 (q_bin (fun x y => x + y)) := q_LX.of (fun _ => q_OK_iadd dL_law_480 rfl)
set_option maxRecDepth 20000 in
theorem oL_law_307 (b L : Nat) (xs : Nat → Int32) : q_LX b L xs pL_law 307 (q_sld b L xs) := q_LX_sld dL_law_481 rfl
set_option maxRecDepth 20000 in
theorem oL_law_308 (b L : Nat) (xs : Nat → Int32) : q_LX b L xs pL_law 308 (q_invV [(9, q_call kX10_steady 6)] 3) := q_LX.of (fun _ => q_OK_invV (idx := 58) (q_m1 ⟨_, _, _, _, _, _, _, _, _, rfl, rfl, mX10_steady, Or.inl ⟨dL_law_482, rfl, w_641, w_642, w_643, w_134, ⟨by decide, by decide, by decide +kernel⟩⟩, w_644, by decide, by decide⟩) rfl)
set_option maxRecDepth 20000 in
theorem oL_law_309 (b L : Nat) (xs : Nat → Int32) : q_LX b L xs pL_law 309 (q_aload 2) := q_LX.of (fun _ => q_OK_aload_n dL_law_485 rfl rfl)
set_option maxRecDepth 20000 in
theorem oL_law_310 (b L : Nat) (xs : Nat → Int32) : q_LX b L xs pL_law 310 (q_aloadX 0) := q_LX_aload dL_law_486 rfl rfl
set_option maxRecDepth 20000 in
theorem oL_law_311 (b L : Nat) (xs : Nat → Int32) : q_LX b L xs pL_law 311 (q_iload 3) := q_LX.of (fun _ => q_OK_iload_n dL_law_487 rfl rfl)
set_option maxRecDepth 20000 in
theorem oL_law_312 (b L : Nat) (xs : Nat → Int32) : q_LX b L xs pL_law 312 (q_push (.int 1)) := q_LX.of (fun _ => q_OK_iconst dL_law_488 rfl rfl)
set_option maxRecDepth 20000 in
theorem oL_law_313 (b L : Nat) (xs : Nat → Int32) : q_LX b L xs pL_law 313 (q_bin (fun x y => x + y)) := q_LX.of (fun _ => q_OK_iadd dL_law_489 rfl)
set_option maxRecDepth 20000 in
theorem oL_law_314 (b L : Nat) (xs : Nat → Int32) : q_LX b L xs pL_law 314 (q_sld b L xs) := q_LX_sld dL_law_490 rfl
set_option maxRecDepth 20000 in
theorem oL_law_315 (b L : Nat) (xs : Nat → Int32) : q_LX b L xs pL_law 315 (q_aloadX 0) := q_LX_aload dL_law_491 rfl rfl
set_option maxRecDepth 20000 in
theorem oL_law_316 (b L : Nat) (xs : Nat → Int32) : q_LX b L xs pL_law 316 (q_iload 3) := q_LX.of (fun _ => q_OK_iload_n dL_law_492 rfl rfl)
set_option maxRecDepth 20000 in
theorem oL_law_317 (b L : Nat) (xs : Nat → Int32) : q_LX b L xs pL_law 317 (q_push (.int 2)) := q_LX.of (fun _ => q_OK_iconst dL_law_493 rfl rfl)
set_option maxRecDepth 20000 in
theorem oL_law_318 (b L : Nat) (xs : Nat → Int32) : q_LX b L xs pL_law 318 (q_bin (fun x y => x + y)) := q_LX.of (fun _ => q_OK_iadd dL_law_494 rfl)
set_option maxRecDepth 20000 in
theorem oL_law_319 (b L : Nat) (xs : Nat → Int32) : q_LX b L xs pL_law 319 (q_sld b L xs) := q_LX_sld dL_law_495 rfl
set_option maxRecDepth 20000 in
theorem oL_law_320 (b L : Nat) (xs : Nat → Int32) : q_LX b L xs pL_law 320 (q_aloadX 0) := q_LX_aload dL_law_496 rfl rfl
set_option maxRecDepth 20000 in
theorem oL_law_321 (b L : Nat) (xs : Nat → Int32) : q_LX b L xs pL_law 321 (q_iload 3) := q_LX.of (fun _ => q_OK_iload_n dL_law_497 rfl rfl)
set_option maxRecDepth 20000 in
theorem oL_law_322 (b L : Nat) (xs : Nat → Int32) : q_LX b L xs pL_law 322 (q_push (.int 3)) := q_LX.of (fun _ => q_OK_iconst dL_law_498 rfl rfl)
set_option maxRecDepth 20000 in
theorem oL_law_323 (b L : Nat) (xs : Nat → Int32) : q_LX b L xs pL_law 323 (q_bin (fun x y => x + y)) := q_LX.of (fun _ => q_OK_iadd dL_law_499 rfl)
set_option maxRecDepth 20000 in
theorem oL_law_324 (b L : Nat) (xs : Nat → Int32) : q_LX b L xs pL_law 324 (q_sld b L xs) := q_LX_sld dL_law_500 rfl
set_option maxRecDepth 20000 in
theorem oL_law_325 (b L : Nat) (xs : Nat → Int32) : q_LX b L xs pL_law 325 (q_invV [(10, q_call kX11_steady 9)] 3) := q_LX.of (fun _ => q_OK_invV (idx := 61) (q_m1 ⟨_, _, _, _, _, _, _, _, _, rfl, rfl, mX11_steady, Or.inl ⟨dL_law_501, rfl, w_645, w_646, w_647, w_427, ⟨by decide, by decide, by decide +kernel⟩⟩, w_648, by decide, by decide⟩) rfl)
set_option maxRecDepth 20000 in
theorem oL_law_326 (b L : Nat) (xs : Nat → Int32) : q_LX b L xs pL_law 326 (q_cmpeq 650) := q_LX.of (fun _ => q_OK_cmpeq dL_law_504 rfl rfl)
set_option maxRecDepth 20000 in
theorem oL_law_327 (b L : Nat) (xs : Nat → Int32) : q_LX b L xs pL_law 327 (q_push (.int 0)) := q_LX.of (fun _ => q_OK_iconst dL_law_507 rfl rfl)
set_option maxRecDepth 20000 in
theorem oL_law_328 (b L : Nat) (xs : Nat → Int32) : q_LX b L xs pL_law 328 (q_zret) := q_LX.of (fun _ => q_OK_zret dL_law_508 rfl)
set_option maxRecDepth 20000 in
theorem oL_law_329 (b L : Nat) (xs : Nat → Int32) : q_LX b L xs pL_law 329 (q_aload 1) := q_LX.of (fun _ => q_OK_aload_n dL_law_509 rfl rfl)
set_option maxRecDepth 20000 in
theorem oL_law_330 (b L : Nat) (xs : Nat → Int32) : q_LX b L xs pL_law 330 (q_aloadX 0) := q_LX_aload dL_law_510 rfl rfl
set_option maxRecDepth 20000 in
theorem oL_law_331 (b L : Nat) (xs : Nat → Int32) : q_LX b L xs pL_law 331 (q_iload 3) := q_LX.of (fun _ => q_OK_iload_n dL_law_511 rfl rfl)
set_option maxRecDepth 20000 in
theorem oL_law_332 (b L : Nat) (xs : Nat → Int32) : q_LX b L xs pL_law 332 (q_push (.int 1)) := q_LX.of (fun _ => q_OK_iconst dL_law_512 rfl rfl)
set_option maxRecDepth 20000 in
theorem oL_law_333 (b L : Nat) (xs : Nat → Int32) : q_LX b L xs pL_law 333 (q_bin (fun x y => x + y)) := q_LX.of (fun _ => q_OK_iadd dL_law_513 rfl)
set_option maxRecDepth 20000 in
theorem oL_law_334 (b L : Nat) (xs : Nat → Int32) : q_LX b L xs pL_law 334 (q_sld b L xs) := q_LX_sld dL_law_514 rfl
set_option maxRecDepth 20000 in
theorem oL_law_335 (b L : Nat) (xs : Nat → Int32) : q_LX b L xs pL_law 335 (q_aloadX 0) := q_LX_aload dL_law_515 rfl rfl
set_option maxRecDepth 20000 in
theorem oL_law_336 (b L : Nat) (xs : Nat → Int32) : q_LX b L xs pL_law 336 (q_iload 3) := q_LX.of (fun _ => q_OK_iload_n dL_law_516 rfl rfl)
set_option maxRecDepth 20000 in
theorem oL_law_337 (b L : Nat) (xs : Nat → Int32) : q_LX b L xs pL_law 337 (q_push (.int 2)) := q_LX.of (fun _ => q_OK_iconst dL_law_517 rfl rfl)
set_option maxRecDepth 20000 in
theorem oL_law_338 (b L : Nat) (xs : Nat → Int32) : q_LX b L xs pL_law 338 (q_bin (fun x y => x + y)) := q_LX.of (fun _ => q_OK_iadd dL_law_518 rfl)
set_option maxRecDepth 20000 in
theorem oL_law_339 (b L : Nat) (xs : Nat → Int32) : q_LX b L xs pL_law 339 (q_sld b L xs) := q_LX_sld dL_law_519 rfl
set_option maxRecDepth 20000 in
theorem oL_law_340 (b L : Nat) (xs : Nat → Int32) : q_LX b L xs pL_law 340 (q_aloadX 0) := q_LX_aload dL_law_520 rfl rfl
set_option maxRecDepth 20000 in
theorem oL_law_341 (b L : Nat) (xs : Nat → Int32) : q_LX b L xs pL_law 341 (q_iload 3) := q_LX.of (fun _ => q_OK_iload_n dL_law_521 rfl rfl)
set_option maxRecDepth 20000 in
theorem oL_law_342 (b L : Nat) (xs : Nat → Int32) : q_LX b L xs pL_law 342 (q_push (.int 3)) := q_LX.of (fun _ => q_OK_iconst dL_law_522 rfl rfl)
set_option maxRecDepth 20000 in
theorem oL_law_343 (b L : Nat) (xs : Nat → Int32) : q_LX b L xs pL_law 343 (q_bin (fun x y => x + y)) := q_LX.of (fun _ => q_OK_iadd dL_law_523 rfl)
set_option maxRecDepth 20000 in
theorem oL_law_344 (b L : Nat) (xs : Nat → Int32) : q_LX b L xs pL_law 344 (q_sld b L xs) := q_LX_sld dL_law_524 rfl
set_option maxRecDepth 20000 in
theorem oL_law_345 (b L : Nat) (xs : Nat → Int32) : q_LX b L xs pL_law 345 (q_invV [(9, q_call kX10_miss 4)] 3) := q_LX.of (fun _ => q_OK_invV (idx := 62) (q_m1 ⟨_, _, _, _, _, _, _, _, _, rfl, rfl, mX10_miss, Or.inl ⟨dL_law_525, rfl, w_649, w_650, w_651, w_134, ⟨by decide, by decide, by decide +kernel⟩⟩, w_652, by decide, by decide⟩) rfl)
set_option maxRecDepth 20000 in
theorem oL_law_346 (b L : Nat) (xs : Nat → Int32) : q_LX b L xs pL_law 346 (q_aload 2) := q_LX.of (fun _ => q_OK_aload_n dL_law_528 rfl rfl)
set_option maxRecDepth 20000 in
theorem oL_law_347 (b L : Nat) (xs : Nat → Int32) : q_LX b L xs pL_law 347 (q_aloadX 0) := q_LX_aload dL_law_529 rfl rfl
set_option maxRecDepth 20000 in
theorem oL_law_348 (b L : Nat) (xs : Nat → Int32) : q_LX b L xs pL_law 348 (q_iload 3) := q_LX.of (fun _ => q_OK_iload_n dL_law_530 rfl rfl)
set_option maxRecDepth 20000 in
theorem oL_law_349 (b L : Nat) (xs : Nat → Int32) : q_LX b L xs pL_law 349 (q_push (.int 1)) := q_LX.of (fun _ => q_OK_iconst dL_law_531 rfl rfl)
set_option maxRecDepth 20000 in
theorem oL_law_350 (b L : Nat) (xs : Nat → Int32) : q_LX b L xs pL_law 350 (q_bin (fun x y => x + y)) := q_LX.of (fun _ => q_OK_iadd dL_law_532 rfl)
set_option maxRecDepth 20000 in
theorem oL_law_351 (b L : Nat) (xs : Nat → Int32) : q_LX b L xs pL_law 351 (q_sld b L xs) := q_LX_sld dL_law_533 rfl
set_option maxRecDepth 20000 in
theorem oL_law_352 (b L : Nat) (xs : Nat → Int32) : q_LX b L xs pL_law 352 (q_aloadX 0) := q_LX_aload dL_law_534 rfl rfl
set_option maxRecDepth 20000 in
theorem oL_law_353 (b L : Nat) (xs : Nat → Int32) : q_LX b L xs pL_law 353 (q_iload 3) := q_LX.of (fun _ => q_OK_iload_n dL_law_535 rfl rfl)
set_option maxRecDepth 20000 in
theorem oL_law_354 (b L : Nat) (xs : Nat → Int32) : q_LX b L xs pL_law 354 (q_push (.int 2)) := q_LX.of (fun _ => q_OK_iconst dL_law_536 rfl rfl)
set_option maxRecDepth 20000 in
theorem oL_law_355 (b L : Nat) (xs : Nat → Int32) : q_LX b L xs pL_law 355 (q_bin (fun x y => x + y)) := q_LX.of (fun _ => q_OK_iadd dL_law_537 rfl)
set_option maxRecDepth 20000 in
theorem oL_law_356 (b L : Nat) (xs : Nat → Int32) : q_LX b L xs pL_law 356 (q_sld b L xs) := q_LX_sld dL_law_538 rfl
set_option maxRecDepth 20000 in
theorem oL_law_357 (b L : Nat) (xs : Nat → Int32) : q_LX b L xs pL_law 357 (q_aloadX 0) := q_LX_aload dL_law_539 rfl rfl
set_option maxRecDepth 20000 in
theorem oL_law_358 (b L : Nat) (xs : Nat → Int32) : q_LX b L xs pL_law 358 (q_iload 3) := q_LX.of (fun _ => q_OK_iload_n dL_law_540 rfl rfl)
set_option maxRecDepth 20000 in
theorem oL_law_359 (b L : Nat) (xs : Nat → Int32) : q_LX b L xs pL_law 359 (q_push (.int 3)) := q_LX.of (fun _ => q_OK_iconst dL_law_541 rfl rfl)
set_option maxRecDepth 20000 in
theorem oL_law_360 (b L : Nat) (xs : Nat → Int32) : q_LX b L xs pL_law 360 (q_bin (fun x y => x + y)) := q_LX.of (fun _ => q_OK_iadd dL_law_542 rfl)
set_option maxRecDepth 20000 in
theorem oL_law_361 (b L : Nat) (xs : Nat → Int32) : q_LX b L xs pL_law 361 (q_sld b L xs) := q_LX_sld dL_law_543 rfl
set_option maxRecDepth 20000 in
theorem oL_law_362 (b L : Nat) (xs : Nat → Int32) : q_LX b L xs pL_law 362 (q_invV [(10, q_call kX11_miss 10)] 3) := q_LX.of (fun _ => q_OK_invV (idx := 66) (q_m1 ⟨_, _, _, _, _, _, _, _, _, rfl, rfl, mX11_miss, Or.inl ⟨dL_law_544, rfl, w_653, w_654, w_655, w_427, ⟨by decide, by decide, by decide +kernel⟩⟩, w_656, by decide, by decide⟩) rfl)
set_option maxRecDepth 20000 in
theorem oL_law_363 (b L : Nat) (xs : Nat → Int32) : q_LX b L xs pL_law 363 (q_lcmp) := q_LX.of (fun _ => q_OK_lcmp dL_law_547 rfl)
set_option maxRecDepth 20000 in
theorem oL_law_364 (b L : Nat) (xs : Nat → Int32) : q_LX b L xs pL_law 364 (q_ifeq 650) := q_LX.of (fun _ => q_OK_ifeq dL_law_548 rfl rfl)
set_option maxRecDepth 20000 in
theorem oL_law_365 (b L : Nat) (xs : Nat → Int32) : q_LX b L xs pL_law 365 (q_push (.int 0)) := q_LX.of (fun _ => q_OK_iconst dL_law_551 rfl rfl)
set_option maxRecDepth 20000 in
theorem oL_law_366 (b L : Nat) (xs : Nat → Int32) : q_LX b L xs pL_law 366 (q_zret) := q_LX.of (fun _ => q_OK_zret dL_law_552 rfl)
set_option maxRecDepth 20000 in
theorem oL_law_367 (b L : Nat) (xs : Nat → Int32) : q_LX b L xs pL_law 367 (q_aload 1) := q_LX.of (fun _ => q_OK_aload_n dL_law_553 rfl rfl)
set_option maxRecDepth 20000 in
theorem oL_law_368 (b L : Nat) (xs : Nat → Int32) : q_LX b L xs pL_law 368 (q_aloadX 0) := q_LX_aload dL_law_554 rfl rfl
set_option maxRecDepth 20000 in
theorem oL_law_369 (b L : Nat) (xs : Nat → Int32) : q_LX b L xs pL_law 369 (q_iload 3) := q_LX.of (fun _ => q_OK_iload_n dL_law_555 rfl rfl)
set_option maxRecDepth 20000 in
theorem oL_law_370 (b L : Nat) (xs : Nat → Int32) : q_LX b L xs pL_law 370 (q_push (.int 1)) := q_LX.of (fun _ => q_OK_iconst dL_law_556 rfl rfl)
set_option maxRecDepth 20000 in
theorem oL_law_371 (b L : Nat) (xs : Nat → Int32) : q_LX b L xs pL_law 371 (q_bin (fun x y => x + y)) := q_LX.of (fun _ => q_OK_iadd dL_law_557 rfl)
set_option maxRecDepth 20000 in
theorem oL_law_372 (b L : Nat) (xs : Nat → Int32) : q_LX b L xs pL_law 372 (q_sld b L xs) := q_LX_sld dL_law_558 rfl
set_option maxRecDepth 20000 in
theorem oL_law_373 (b L : Nat) (xs : Nat → Int32) : q_LX b L xs pL_law 373 (q_aloadX 0) := q_LX_aload dL_law_559 rfl rfl
set_option maxRecDepth 20000 in
theorem oL_law_374 (b L : Nat) (xs : Nat → Int32) : q_LX b L xs pL_law 374 (q_iload 3) := q_LX.of (fun _ => q_OK_iload_n dL_law_560 rfl rfl)
set_option maxRecDepth 20000 in
theorem oL_law_375 (b L : Nat) (xs : Nat → Int32) : q_LX b L xs pL_law 375 (q_push (.int 2)) := q_LX.of (fun _ => q_OK_iconst dL_law_561 rfl rfl)
set_option maxRecDepth 20000 in
theorem oL_law_376 (b L : Nat) (xs : Nat → Int32) : q_LX b L xs pL_law 376 (q_bin (fun x y => x + y)) := q_LX.of (fun _ => q_OK_iadd dL_law_562 rfl)
set_option maxRecDepth 20000 in
theorem oL_law_377 (b L : Nat) (xs : Nat → Int32) : q_LX b L xs pL_law 377 (q_sld b L xs) := q_LX_sld dL_law_563 rfl
set_option maxRecDepth 20000 in
theorem oL_law_378 (b L : Nat) (xs : Nat → Int32) : q_LX b L xs pL_law 378 (q_aloadX 0) := q_LX_aload dL_law_564 rfl rfl
set_option maxRecDepth 20000 in
theorem oL_law_379 (b L : Nat) (xs : Nat → Int32) : q_LX b L xs pL_law 379 (q_iload 3) := q_LX.of (fun _ => q_OK_iload_n dL_law_565 rfl rfl)
set_option maxRecDepth 20000 in
theorem oL_law_380 (b L : Nat) (xs : Nat → Int32) : q_LX b L xs pL_law 380 (q_push (.int 3)) := q_LX.of (fun _ => q_OK_iconst dL_law_566 rfl rfl)
set_option maxRecDepth 20000 in
theorem oL_law_381 (b L : Nat) (xs : Nat → Int32) : q_LX b L xs pL_law 381 (q_bin (fun x y => x + y)) := q_LX.of (fun _ => q_OK_iadd dL_law_567 rfl)
set_option maxRecDepth 20000 in
theorem oL_law_382 (b L : Nat) (xs : Nat → Int32) : q_LX b L xs pL_law 382 (q_sld b L xs) := q_LX_sld dL_law_568 rfl
set_option maxRecDepth 20000 in
theorem oL_law_383 (b L : Nat) (xs : Nat → Int32) : q_LX b L xs pL_law 383 (q_aloadX 0) := q_LX_aload dL_law_569 rfl rfl
set_option maxRecDepth 20000 in
theorem oL_law_384 (b L : Nat) (xs : Nat → Int32) : q_LX b L xs pL_law 384 (q_iload 3) := q_LX.of (fun _ => q_OK_iload_n dL_law_570 rfl rfl)
set_option maxRecDepth 20000 in
theorem oL_law_385 (b L : Nat) (xs : Nat → Int32) : q_LX b L xs pL_law 385 (q_push (.int 4)) := q_LX.of (fun _ => q_OK_iconst dL_law_571 rfl rfl)
set_option maxRecDepth 20000 in
theorem oL_law_386 (b L : Nat) (xs : Nat → Int32) : q_LX b L xs pL_law 386 (q_bin (fun x y => x + y)) := q_LX.of (fun _ => q_OK_iadd dL_law_572 rfl)
set_option maxRecDepth 20000 in
theorem oL_law_387 (b L : Nat) (xs : Nat → Int32) : q_LX b L xs pL_law 387 (q_sld b L xs) := q_LX_sld dL_law_573 rfl
set_option maxRecDepth 20000 in
theorem oL_law_388 (b L : Nat) (xs : Nat → Int32) : q_LX b L xs pL_law 388 (q_aloadX 0) := q_LX_aload dL_law_574 rfl rfl
set_option maxRecDepth 20000 in
theorem oL_law_389 (b L : Nat) (xs : Nat → Int32) : q_LX b L xs pL_law 389 (q_iload 3) := q_LX.of (fun _ => q_OK_iload_n dL_law_575 rfl rfl)
set_option maxRecDepth 20000 in
theorem oL_law_390 (b L : Nat) (xs : Nat → Int32) : q_LX b L xs pL_law 390 (q_push (.int 5)) := q_LX.of (fun _ => q_OK_iconst dL_law_576 rfl rfl)
set_option maxRecDepth 20000 in
theorem oL_law_391 (b L : Nat) (xs : Nat → Int32) : q_LX b L xs pL_law 391 (q_bin (fun x y => x + y)) := q_LX.of (fun _ => q_OK_iadd dL_law_577 rfl)
set_option maxRecDepth 20000 in
theorem oL_law_392 (b L : Nat) (xs : Nat → Int32) : q_LX b L xs pL_law 392 (q_sld b L xs) := q_LX_sld dL_law_578 rfl
set_option maxRecDepth 20000 in
theorem oL_law_393 (b L : Nat) (xs : Nat → Int32) : q_LX b L xs pL_law 393 (q_invV [(9, q_call kX10_beside 6)] 5) := q_LX.of (fun _ => q_OK_invV (idx := 67) (q_m1 ⟨_, _, _, _, _, _, _, _, _, rfl, rfl, mX10_beside, Or.inl ⟨dL_law_579, rfl, w_657, w_658, w_659, w_134, ⟨by decide, by decide, by decide +kernel⟩⟩, w_660, by decide, by decide⟩) rfl)
set_option maxRecDepth 20000 in
theorem oL_law_394 (b L : Nat) (xs : Nat → Int32) : q_LX b L xs pL_law 394 (q_aload 2) := q_LX.of (fun _ => q_OK_aload_n dL_law_582 rfl rfl)
set_option maxRecDepth 20000 in
theorem oL_law_395 (b L : Nat) (xs : Nat → Int32) : q_LX b L xs pL_law 395 (q_aloadX 0) := q_LX_aload dL_law_583 rfl rfl
set_option maxRecDepth 20000 in
theorem oL_law_396 (b L : Nat) (xs : Nat → Int32) : q_LX b L xs pL_law 396 (q_iload 3) := q_LX.of (fun _ => q_OK_iload_n dL_law_584 rfl rfl)
set_option maxRecDepth 20000 in
theorem oL_law_397 (b L : Nat) (xs : Nat → Int32) : q_LX b L xs pL_law 397 (q_push (.int 1)) := q_LX.of (fun _ => q_OK_iconst dL_law_585 rfl rfl)
set_option maxRecDepth 20000 in
theorem oL_law_398 (b L : Nat) (xs : Nat → Int32) : q_LX b L xs pL_law 398 (q_bin (fun x y => x + y)) := q_LX.of (fun _ => q_OK_iadd dL_law_586 rfl)
set_option maxRecDepth 20000 in
theorem oL_law_399 (b L : Nat) (xs : Nat → Int32) : q_LX b L xs pL_law 399 (q_sld b L xs) := q_LX_sld dL_law_587 rfl
set_option maxRecDepth 20000 in
theorem oL_law_400 (b L : Nat) (xs : Nat → Int32) : q_LX b L xs pL_law 400 (q_aloadX 0) := q_LX_aload dL_law_588 rfl rfl
set_option maxRecDepth 20000 in
theorem oL_law_401 (b L : Nat) (xs : Nat → Int32) : q_LX b L xs pL_law 401 (q_iload 3) := q_LX.of (fun _ => q_OK_iload_n dL_law_589 rfl rfl)
set_option maxRecDepth 20000 in
theorem oL_law_402 (b L : Nat) (xs : Nat → Int32) : q_LX b L xs pL_law 402 (q_push (.int 2)) := q_LX.of (fun _ => q_OK_iconst dL_law_590 rfl rfl)
set_option maxRecDepth 20000 in
theorem oL_law_403 (b L : Nat) (xs : Nat → Int32) : q_LX b L xs pL_law 403 (q_bin (fun x y => x + y)) := q_LX.of (fun _ => q_OK_iadd dL_law_591 rfl)
set_option maxRecDepth 20000 in
theorem oL_law_404 (b L : Nat) (xs : Nat → Int32) : q_LX b L xs pL_law 404 (q_sld b L xs) := q_LX_sld dL_law_592 rfl
set_option maxRecDepth 20000 in
theorem oL_law_405 (b L : Nat) (xs : Nat → Int32) : q_LX b L xs pL_law 405 (q_aloadX 0) := q_LX_aload dL_law_593 rfl rfl
set_option maxRecDepth 20000 in
theorem oL_law_406 (b L : Nat) (xs : Nat → Int32) : q_LX b L xs pL_law 406 (q_iload 3) := q_LX.of (fun _ => q_OK_iload_n dL_law_594 rfl rfl)
set_option maxRecDepth 20000 in
theorem oL_law_407 (b L : Nat) (xs : Nat → Int32) : q_LX b L xs pL_law 407 (q_push (.int 3)) := q_LX.of (fun _ => q_OK_iconst dL_law_595 rfl rfl)
set_option maxRecDepth 20000 in
theorem oL_law_408 (b L : Nat) (xs : Nat → Int32) : q_LX b L xs pL_law 408 (q_bin (fun x y => x + y)) := q_LX.of (fun _ => q_OK_iadd dL_law_596 rfl)
set_option maxRecDepth 20000 in
theorem oL_law_409 (b L : Nat) (xs : Nat → Int32) : q_LX b L xs pL_law 409 (q_sld b L xs) := q_LX_sld dL_law_597 rfl
set_option maxRecDepth 20000 in
theorem oL_law_410 (b L : Nat) (xs : Nat → Int32) : q_LX b L xs pL_law 410 (q_aloadX 0) := q_LX_aload dL_law_598 rfl rfl
set_option maxRecDepth 20000 in
theorem oL_law_411 (b L : Nat) (xs : Nat → Int32) : q_LX b L xs pL_law 411 (q_iload 3) := q_LX.of (fun _ => q_OK_iload_n dL_law_599 rfl rfl)
set_option maxRecDepth 20000 in
theorem oL_law_412 (b L : Nat) (xs : Nat → Int32) : q_LX b L xs pL_law 412 (q_push (.int 4)) := q_LX.of (fun _ => q_OK_iconst dL_law_600 rfl rfl)
set_option maxRecDepth 20000 in
theorem oL_law_413 (b L : Nat) (xs : Nat → Int32) : q_LX b L xs pL_law 413 (q_bin (fun x y => x + y)) := q_LX.of (fun _ => q_OK_iadd dL_law_601 rfl)
set_option maxRecDepth 20000 in
theorem oL_law_414 (b L : Nat) (xs : Nat → Int32) : q_LX b L xs pL_law 414 (q_sld b L xs) := q_LX_sld dL_law_602 rfl
set_option maxRecDepth 20000 in
theorem oL_law_415 (b L : Nat) (xs : Nat → Int32) : q_LX b L xs pL_law 415 (q_aloadX 0) := q_LX_aload dL_law_603 rfl rfl
set_option maxRecDepth 20000 in
theorem oL_law_416 (b L : Nat) (xs : Nat → Int32) : q_LX b L xs pL_law 416 (q_iload 3) := q_LX.of (fun _ => q_OK_iload_n dL_law_604 rfl rfl)
set_option maxRecDepth 20000 in
theorem oL_law_417 (b L : Nat) (xs : Nat → Int32) : q_LX b L xs pL_law 417 (q_push (.int 5)) := q_LX.of (fun _ => q_OK_iconst dL_law_605 rfl rfl)
set_option maxRecDepth 20000 in
theorem oL_law_418 (b L : Nat) (xs : Nat → Int32) : q_LX b L xs pL_law 418 (q_bin (fun x y => x + y)) := q_LX.of (fun _ => q_OK_iadd dL_law_606 rfl)
set_option maxRecDepth 20000 in
theorem oL_law_419 (b L : Nat) (xs : Nat → Int32) : q_LX b L xs pL_law 419 (q_sld b L xs) := q_LX_sld dL_law_607 rfl
set_option maxRecDepth 20000 in
theorem oL_law_420 (b L : Nat) (xs : Nat → Int32) : q_LX b L xs pL_law 420 (q_invV [(10, q_call kX11_beside 11)] 5) := q_LX.of (fun _ => q_OK_invV (idx := 70) (q_m1 ⟨_, _, _, _, _, _, _, _, _, rfl, rfl, mX11_beside, Or.inl ⟨dL_law_608, rfl, w_661, w_662, w_663, w_427, ⟨by decide, by decide, by decide +kernel⟩⟩, w_664, by decide, by decide⟩) rfl)
set_option maxRecDepth 20000 in
theorem oL_law_421 (b L : Nat) (xs : Nat → Int32) : q_LX b L xs pL_law 421 (q_cmpeq 650) := q_LX.of (fun _ => q_OK_cmpeq dL_law_611 rfl rfl)
set_option maxRecDepth 20000 in
theorem oL_law_422 (b L : Nat) (xs : Nat → Int32) : q_LX b L xs pL_law 422 (q_push (.int 0)) := q_LX.of (fun _ => q_OK_iconst dL_law_614 rfl rfl)
set_option maxRecDepth 20000 in
theorem oL_law_423 (b L : Nat) (xs : Nat → Int32) : q_LX b L xs pL_law 423 (q_zret) := q_LX.of (fun _ => q_OK_zret dL_law_615 rfl)
set_option maxRecDepth 20000 in
theorem oL_law_424 (b L : Nat) (xs : Nat → Int32) : q_LX b L xs pL_law 424 (q_aload 1) := q_LX.of (fun _ => q_OK_aload_n dL_law_616 rfl rfl)
set_option maxRecDepth 20000 in
theorem oL_law_425 (b L : Nat) (xs : Nat → Int32) : q_LX b L xs pL_law 425 (q_aloadX 0) := q_LX_aload dL_law_617 rfl rfl
set_option maxRecDepth 20000 in
theorem oL_law_426 (b L : Nat) (xs : Nat → Int32) : q_LX b L xs pL_law 426 (q_iload 3) := q_LX.of (fun _ => q_OK_iload_n dL_law_618 rfl rfl)
set_option maxRecDepth 20000 in
theorem oL_law_427 (b L : Nat) (xs : Nat → Int32) : q_LX b L xs pL_law 427 (q_push (.int 1)) := q_LX.of (fun _ => q_OK_iconst dL_law_619 rfl rfl)
set_option maxRecDepth 20000 in
theorem oL_law_428 (b L : Nat) (xs : Nat → Int32) : q_LX b L xs pL_law 428 (q_bin (fun x y => x + y)) := q_LX.of (fun _ => q_OK_iadd dL_law_620 rfl)
set_option maxRecDepth 20000 in
theorem oL_law_429 (b L : Nat) (xs : Nat → Int32) : q_LX b L xs pL_law 429 (q_sld b L xs) := q_LX_sld dL_law_621 rfl
set_option maxRecDepth 20000 in
theorem oL_law_430 (b L : Nat) (xs : Nat → Int32) : q_LX b L xs pL_law 430 (q_aloadX 0) := q_LX_aload dL_law_622 rfl rfl
set_option maxRecDepth 20000 in
theorem oL_law_431 (b L : Nat) (xs : Nat → Int32) : q_LX b L xs pL_law 431 (q_iload 3) := q_LX.of (fun _ => q_OK_iload_n dL_law_623 rfl rfl)
set_option maxRecDepth 20000 in
theorem oL_law_432 (b L : Nat) (xs : Nat → Int32) : q_LX b L xs pL_law 432 (q_push (.int 2)) := q_LX.of (fun _ => q_OK_iconst dL_law_624 rfl rfl)
set_option maxRecDepth 20000 in
theorem oL_law_433 (b L : Nat) (xs : Nat → Int32) : q_LX b L xs pL_law 433 (q_bin (fun x y => x + y)) := q_LX.of (fun _ => q_OK_iadd dL_law_625 rfl)
set_option maxRecDepth 20000 in
theorem oL_law_434 (b L : Nat) (xs : Nat → Int32) : q_LX b L xs pL_law 434 (q_sld b L xs) := q_LX_sld dL_law_626 rfl
set_option maxRecDepth 20000 in
theorem oL_law_435 (b L : Nat) (xs : Nat → Int32) : q_LX b L xs pL_law 435 (q_invV [(9, q_call kX10_swing 10)] 2) := q_LX.of (fun _ => q_OK_invV (idx := 71) (q_m1 ⟨_, _, _, _, _, _, _, _, _, rfl, rfl, mX10_swing, Or.inl ⟨dL_law_627, rfl, w_665, w_666, w_667, w_134, ⟨by decide, by decide, by decide +kernel⟩⟩, w_668, by decide, by decide⟩) rfl)
set_option maxRecDepth 20000 in
theorem oL_law_436 (b L : Nat) (xs : Nat → Int32) : q_LX b L xs pL_law 436 (q_aload 2) := q_LX.of (fun _ => q_OK_aload_n dL_law_630 rfl rfl)
set_option maxRecDepth 20000 in
theorem oL_law_437 (b L : Nat) (xs : Nat → Int32) : q_LX b L xs pL_law 437 (q_aloadX 0) := q_LX_aload dL_law_631 rfl rfl
set_option maxRecDepth 20000 in
theorem oL_law_438 (b L : Nat) (xs : Nat → Int32) : q_LX b L xs pL_law 438 (q_iload 3) := q_LX.of (fun _ => q_OK_iload_n dL_law_632 rfl rfl)
set_option maxRecDepth 20000 in
theorem oL_law_439 (b L : Nat) (xs : Nat → Int32) : q_LX b L xs pL_law 439 (q_push (.int 1)) := q_LX.of (fun _ => q_OK_iconst dL_law_633 rfl rfl)
