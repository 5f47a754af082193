theorem d_Law_law_397 : decode code 397 = .ok (.aload_n 0, 1) := by decide +kernel
theorem d_Law_law_398 : decode code 398 = .ok (.iload 4, 2) := by decide +kernel
theorem d_Law_law_400 : decode code 400 = .ok (.iconst 4, 1) := by decide +kernel
theorem d_Law_law_401 : decode code 401 = .ok (.iadd, 1) := by decide +kernel
theorem d_Law_law_402 : decode code 402 = .ok (.iaload, 1) := by decide +kernel
theorem d_Law_law_403 : decode code 403 = .ok (.i2l, 1) := by decide +kernel
theorem d_Law_law_404 : decode code 404 = .ok (.bipush 32, 2) := by decide +kernel
theorem d_Law_law_406 : decode code 406 = .ok (.lshl, 1) := by decide +kernel
theorem d_Law_law_407 : decode code 407 = .ok (.aload_n 0, 1) := by decide +kernel
theorem d_Law_law_408 : decode code 408 = .ok (.iload 4, 2) := by decide +kernel
theorem d_Law_law_410 : decode code 410 = .ok (.iconst 5, 1) := by decide +kernel
theorem d_Law_law_411 : decode code 411 = .ok (.iadd, 1) := by decide +kernel
theorem d_Law_law_412 : decode code 412 = .ok (.iaload, 1) := by decide +kernel
theorem d_Law_law_413 : decode code 413 = .ok (.i2l, 1) := by decide +kernel
theorem d_Law_law_414 : decode code 414 = .ok (.ldc2_w 19, 3) := by decide +kernel
theorem d_Law_law_417 : decode code 417 = .ok (.land, 1) := by decide +kernel
theorem d_Law_law_418 : decode code 418 = .ok (.lor, 1) := by decide +kernel
theorem d_Law_law_419 : decode code 419 = .ok (.invokevirtual 31, 3) := by decide +kernel
theorem d_Law_law_422 : decode code 422 = .ok (.aload_n 2, 1) := by decide +kernel
theorem d_Law_law_423 : decode code 423 = .ok (.aload_n 0, 1) := by decide +kernel
theorem d_Law_law_424 : decode code 424 = .ok (.iload 4, 2) := by decide +kernel
theorem d_Law_law_426 : decode code 426 = .ok (.iconst 1, 1) := by decide +kernel
theorem d_Law_law_427 : decode code 427 = .ok (.iadd, 1) := by decide +kernel
theorem d_Law_law_428 : decode code 428 = .ok (.iaload, 1) := by decide +kernel
theorem d_Law_law_429 : decode code 429 = .ok (.aload_n 0, 1) := by decide +kernel
theorem d_Law_law_430 : decode code 430 = .ok (.iload 4, 2) := by decide +kernel
theorem d_Law_law_432 : decode code 432 = .ok (.iconst 2, 1) := by decide +kernel
theorem d_Law_law_433 : decode code 433 = .ok (.iadd, 1) := by decide +kernel
theorem d_Law_law_434 : decode code 434 = .ok (.iaload, 1) := by decide +kernel
theorem d_Law_law_435 : decode code 435 = .ok (.i2l, 1) := by decide +kernel
theorem d_Law_law_436 : decode code 436 = .ok (.bipush 32, 2) := by decide +kernel
theorem d_Law_law_438 : decode code 438 = .ok (.lshl, 1) := by decide +kernel
theorem d_Law_law_439 : decode code 439 = .ok (.aload_n 0, 1) := by decide +kernel
theorem d_Law_law_440 : decode code 440 = .ok (.iload 4, 2) := by decide +kernel
theorem d_Law_law_442 : decode code 442 = .ok (.iconst 3, 1) := by decide +kernel
theorem d_Law_law_443 : decode code 443 = .ok (.iadd, 1) := by decide +kernel
theorem d_Law_law_444 : decode code 444 = .ok (.iaload, 1) := by decide +kernel
theorem d_Law_law_445 : decode code 445 = .ok (.i2l, 1) := by decide +kernel
theorem d_Law_law_446 : decode code 446 = .ok (.ldc2_w 19, 3) := by decide +kernel
theorem d_Law_law_449 : decode code 449 = .ok (.land, 1) := by decide +kernel
theorem d_Law_law_450 : decode code 450 = .ok (.lor, 1) := by decide +kernel
theorem d_Law_law_451 : decode code 451 = .ok (.aload_n 0, 1) := by decide +kernel
theorem d_Law_law_452 : decode code 452 = .ok (.iload 4, 2) := by decide +kernel
theorem d_Law_law_454 : decode code 454 = .ok (.iconst 4, 1) := by decide +kernel
theorem d_Law_law_455 : decode code 455 = .ok (.iadd, 1) := by decide +kernel
theorem d_Law_law_456 : decode code 456 = .ok (.iaload, 1) := by decide +kernel
theorem d_Law_law_457 : decode code 457 = .ok (.i2l, 1) := by decide +kernel
theorem d_Law_law_458 : decode code 458 = .ok (.bipush 32, 2) := by decide +kernel
theorem d_Law_law_460 : decode code 460 = .ok (.lshl, 1) := by decide +kernel
theorem d_Law_law_461 : decode code 461 = .ok (.aload_n 0, 1) := by decide +kernel
theorem d_Law_law_462 : decode code 462 = .ok (.iload 4, 2) := by decide +kernel
theorem d_Law_law_464 : decode code 464 = .ok (.iconst 5, 1) := by decide +kernel
theorem d_Law_law_465 : decode code 465 = .ok (.iadd, 1) := by decide +kernel
theorem d_Law_law_466 : decode code 466 = .ok (.iaload, 1) := by decide +kernel
theorem d_Law_law_467 : decode code 467 = .ok (.i2l, 1) := by decide +kernel
theorem d_Law_law_468 : decode code 468 = .ok (.ldc2_w 19, 3) := by decide +kernel
theorem d_Law_law_471 : decode code 471 = .ok (.land, 1) := by decide +kernel
theorem d_Law_law_472 : decode code 472 = .ok (.lor, 1) := by decide +kernel
theorem d_Law_law_473 : decode code 473 = .ok (.invokevirtual 35, 3) := by decide +kernel
theorem d_Law_law_476 : decode code 476 = .ok (.if_icmp .eq 851, 3) := by decide +kernel
theorem d_Law_law_479 : decode code 479 = .ok (.iconst 0, 1) := by decide +kernel
theorem d_Law_law_480 : decode code 480 = .ok (.ireturn, 1) := by decide +kernel
theorem d_Law_law_481 : decode code 481 = .ok (.aload_n 1, 1) := by decide +kernel
theorem d_Law_law_482 : decode code 482 = .ok (.aload_n 0, 1) := by decide +kernel
theorem d_Law_law_483 : decode code 483 = .ok (.iload 4, 2) := by decide +kernel
theorem d_Law_law_485 : decode code 485 = .ok (.iconst 1, 1) := by decide +kernel
theorem d_Law_law_486 : decode code 486 = .ok (.iadd, 1) := by decide +kernel
theorem d_Law_law_487 : decode code 487 = .ok (.iaload, 1) := by decide +kernel
theorem d_Law_law_488 : decode code 488 = .ok (.aload_n 0, 1) := by decide +kernel
theorem d_Law_law_489 : decode code 489 = .ok (.iload 4, 2) := by decide +kernel
theorem d_Law_law_491 : decode code 491 = .ok (.iconst 2, 1) := by decide +kernel
theorem d_Law_law_492 : decode code 492 = .ok (.iadd, 1) := by decide +kernel
theorem d_Law_law_493 : decode code 493 = .ok (.iaload, 1) := by decide +kernel
theorem d_Law_law_494 : decode code 494 = .ok (.aload_n 0, 1) := by decide +kernel
theorem d_Law_law_495 : decode code 495 = .ok (.iload 4, 2) := by decide +kernel
theorem d_Law_law_497 : decode code 497 = .ok (.iconst 3, 1) := by decide +kernel
theorem d_Law_law_498 : decode code 498 = .ok (.iadd, 1) := by decide +kernel
theorem d_Law_law_499 : decode code 499 = .ok (.iaload, 1) := by decide +kernel
theorem d_Law_law_500 : decode code 500 = .ok (.ifCond .eq 7, 3) := by decide +kernel
theorem d_Law_law_503 : decode code 503 = .ok (.iconst 1, 1) := by decide +kernel
theorem d_Law_law_504 : decode code 504 = .ok (.goto 4, 3) := by decide +kernel
theorem d_Law_law_507 : decode code 507 = .ok (.iconst 0, 1) := by decide +kernel
theorem d_Law_law_508 : decode code 508 = .ok (.invokevirtual 36, 3) := by decide +kernel
theorem d_Law_law_511 : decode code 511 = .ok (.aload_n 2, 1) := by decide +kernel
theorem d_Law_law_512 : decode code 512 = .ok (.aload_n 0, 1) := by decide +kernel
theorem d_Law_law_513 : decode code 513 = .ok (.iload 4, 2) := by decide +kernel
theorem d_Law_law_515 : decode code 515 = .ok (.iconst 1, 1) := by decide +kernel
theorem d_Law_law_516 : decode code 516 = .ok (.iadd, 1) := by decide +kernel
theorem d_Law_law_517 : decode code 517 = .ok (.iaload, 1) := by decide +kernel
theorem d_Law_law_518 : decode code 518 = .ok (.aload_n 0, 1) := by decide +kernel
theorem d_Law_law_519 : decode code 519 = .ok (.iload 4, 2) := by decide +kernel
theorem d_Law_law_521 : decode code 521 = .ok (.iconst 2, 1) := by decide +kernel
theorem d_Law_law_522 : decode code 522 = .ok (.iadd, 1) := by decide +kernel
theorem d_Law_law_523 : decode code 523 = .ok (.iaload, 1) := by decide +kernel
theorem d_Law_law_524 : decode code 524 = .ok (.aload_n 0, 1) := by decide +kernel
theorem d_Law_law_525 : decode code 525 = .ok (.iload 4, 2) := by decide +kernel
theorem d_Law_law_527 : decode code 527 = .ok (.iconst 3, 1) := by decide +kernel
theorem d_Law_law_528 : decode code 528 = .ok (.iadd, 1) := by decide +kernel
theorem d_Law_law_529 : decode code 529 = .ok (.iaload, 1) := by decide +kernel
theorem d_Law_law_530 : decode code 530 = .ok (.ifCond .eq 7, 3) := by decide +kernel
theorem d_Law_law_533 : decode code 533 = .ok (.iconst 1, 1) := by decide +kernel
theorem d_Law_law_534 : decode code 534 = .ok (.goto 4, 3) := by decide +kernel
theorem d_Law_law_537 : decode code 537 = .ok (.iconst 0, 1) := by decide +kernel
theorem d_Law_law_538 : decode code 538 = .ok (.invokevirtual 40, 3) := by decide +kernel
theorem d_Law_law_541 : decode code 541 = .ok (.if_icmp .eq 786, 3) := by decide +kernel
theorem d_Law_law_544 : decode code 544 = .ok (.iconst 0, 1) := by decide +kernel
theorem d_Law_law_545 : decode code 545 = .ok (.ireturn, 1) := by decide +kernel
theorem d_Law_law_546 : decode code 546 = .ok (.aload_n 1, 1) := by decide +kernel
theorem d_Law_law_547 : decode code 547 = .ok (.aload_n 0, 1) := by decide +kernel
theorem d_Law_law_548 : decode code 548 = .ok (.iload 4, 2) := by decide +kernel
theorem d_Law_law_550 : decode code 550 = .ok (.iconst 1, 1) := by decide +kernel
theorem d_Law_law_551 : decode code 551 = .ok (.iadd, 1) := by decide +kernel
theorem d_Law_law_552 : decode code 552 = .ok (.iaload, 1) := by decide +kernel
theorem d_Law_law_553 : decode code 553 = .ok (.i2l, 1) := by decide +kernel
theorem d_Law_law_554 : decode code 554 = .ok (.bipush 32, 2) := by decide +kernel
theorem d_Law_law_556 : decode code 556 = .ok (.lshl, 1) := by decide +kernel
theorem d_Law_law_557 : decode code 557 = .ok (.aload_n 0, 1) := by decide +kernel
theorem d_Law_law_558 : decode code 558 = .ok (.iload 4, 2) := by decide +kernel
theorem d_Law_law_560 : decode code 560 = .ok (.iconst 2, 1) := by decide +kernel
theorem d_Law_law_561 : decode code 561 = .ok (.iadd, 1) := by decide +kernel
theorem d_Law_law_562 : decode code 562 = .ok (.iaload, 1) := by decide +kernel
theorem d_Law_law_563 : decode code 563 = .ok (.i2l, 1) := by decide +kernel
theorem d_Law_law_564 : decode code 564 = .ok (.ldc2_w 19, 3) := by decide +kernel
theorem d_Law_law_567 : decode code 567 = .ok (.land, 1) := by decide +kernel
theorem d_Law_law_568 : decode code 568 = .ok (.lor, 1) := by decide +kernel
theorem d_Law_law_569 : decode code 569 = .ok (.aload_n 0, 1) := by decide +kernel
theorem d_Law_law_570 : decode code 570 = .ok (.iload 4, 2) := by decide +kernel
theorem d_Law_law_572 : decode code 572 = .ok (.iconst 3, 1) := by decide +kernel
theorem d_Law_law_573 : decode code 573 = .ok (.iadd, 1) := by decide +kernel
theorem d_Law_law_574 : decode code 574 = .ok (.iaload, 1) := by decide +kernel
theorem d_Law_law_575 : decode code 575 = .ok (.i2l, 1) := by decide +kernel
theorem d_Law_law_576 : decode code 576 = .ok (.bipush 32, 2) := by decide +kernel
theorem d_Law_law_578 : decode code 578 = .ok (.lshl, 1) := by decide +kernel
theorem d_Law_law_579 : decode code 579 = .ok (.aload_n 0, 1) := by decide +kernel
theorem d_Law_law_580 : decode code 580 = .ok (.iload 4, 2) := by decide +kernel
theorem d_Law_law_582 : decode code 582 = .ok (.iconst 4, 1) := by decide +kernel
theorem d_Law_law_583 : decode code 583 = .ok (.iadd, 1) := by decide +kernel
theorem d_Law_law_584 : decode code 584 = .ok (.iaload, 1) := by decide +kernel
theorem d_Law_law_585 : decode code 585 = .ok (.i2l, 1) := by decide +kernel
theorem d_Law_law_586 : decode code 586 = .ok (.ldc2_w 19, 3) := by decide +kernel
theorem d_Law_law_589 : decode code 589 = .ok (.land, 1) := by decide +kernel
theorem d_Law_law_590 : decode code 590 = .ok (.lor, 1) := by decide +kernel
theorem d_Law_law_591 : decode code 591 = .ok (.aload_n 0, 1) := by decide +kernel
theorem d_Law_law_592 : decode code 592 = .ok (.iload 4, 2) := by decide +kernel
theorem d_Law_law_594 : decode code 594 = .ok (.iconst 5, 1) := by decide +kernel
theorem d_Law_law_595 : decode code 595 = .ok (.iadd, 1) := by decide +kernel
theorem d_Law_law_596 : decode code 596 = .ok (.iaload, 1) := by decide +kernel
theorem d_Law_law_597 : decode code 597 = .ok (.i2l, 1) := by decide +kernel
theorem d_Law_law_598 : decode code 598 = .ok (.bipush 32, 2) := by decide +kernel
theorem d_Law_law_600 : decode code 600 = .ok (.lshl, 1) := by decide +kernel
theorem d_Law_law_601 : decode code 601 = .ok (.aload_n 0, 1) := by decide +kernel
theorem d_Law_law_602 : decode code 602 = .ok (.iload 4, 2) := by decide +kernel
theorem d_Law_law_604 : decode code 604 = .ok (.bipush 6, 2) := by decide +kernel
theorem d_Law_law_606 : decode code 606 = .ok (.iadd, 1) := by decide +kernel
theorem d_Law_law_607 : decode code 607 = .ok (.iaload, 1) := by decide +kernel
theorem d_Law_law_608 : decode code 608 = .ok (.i2l, 1) := by decide +kernel
theorem d_Law_law_609 : decode code 609 = .ok (.ldc2_w 19, 3) := by decide +kernel
theorem d_Law_law_612 : decode code 612 = .ok (.land, 1) := by decide +kernel
theorem d_Law_law_613 : decode code 613 = .ok (.lor, 1) := by decide +kernel
theorem d_Law_law_614 : decode code 614 = .ok (.invokevirtual 41, 3) := by decide +kernel
theorem d_Law_law_617 : decode code 617 = .ok (.aload_n 2, 1) := by decide +kernel
theorem d_Law_law_618 : decode code 618 = .ok (.aload_n 0, 1) := by decide +kernel
theorem d_Law_law_619 : decode code 619 = .ok (.iload 4, 2) := by decide +kernel
theorem d_Law_law_621 : decode code 621 = .ok (.iconst 1, 1) := by decide +kernel
theorem d_Law_law_622 : decode code 622 = .ok (.iadd, 1) := by decide +kernel
theorem d_Law_law_623 : decode code 623 = .ok (.iaload, 1) := by decide +kernel
theorem d_Law_law_624 : decode code 624 = .ok (.i2l, 1) := by decide +kernel
theorem d_Law_law_625 : decode code 625 = .ok (.bipush 32, 2) := by decide +kernel
theorem d_Law_law_627 : decode code 627 = .ok (.lshl, 1) := by decide +kernel
theorem d_Law_law_628 : decode code 628 = .ok (.aload_n 0, 1) := by decide +kernel
theorem d_Law_law_629 : decode code 629 = .ok (.iload 4, 2) := by decide +kernel
theorem d_Law_law_631 : decode code 631 = .ok (.iconst 2, 1) := by decide +kernel
theorem d_Law_law_632 : decode code 632 = .ok (.iadd, 1) := by decide +kernel
theorem d_Law_law_633 : decode code 633 = .ok (.iaload, 1) := by decide +kernel
theorem d_Law_law_634 : decode code 634 = .ok (.i2l, 1) := by decide +kernel
theorem d_Law_law_635 : decode code 635 = .ok (.ldc2_w 19, 3) := by decide +kernel
theorem d_Law_law_638 : decode code 638 = .ok (.land, 1) := by decide +kernel
theorem d_Law_law_639 : decode code 639 = .ok (.lor, 1) := by decide +kernel
theorem d_Law_law_640 : decode code 640 = .ok (.aload_n 0, 1) := by decide +kernel
theorem d_Law_law_641 : decode code 641 = .ok (.iload 4, 2) := by decide +kernel
theorem d_Law_law_643 : decode code 643 = .ok (.iconst 3, 1) := by decide +kernel
theorem d_Law_law_644 : decode code 644 = .ok (.iadd, 1) := by decide +kernel
theorem d_Law_law_645 : decode code 645 = .ok (.iaload, 1) := by decide +kernel
theorem d_Law_law_646 : decode code 646 = .ok (.i2l, 1) := by decide +kernel
theorem d_Law_law_647 : decode code 647 = .ok (.bipush 32, 2) := by decide +kernel
theorem d_Law_law_649 : decode code 649 = .ok (.lshl, 1) := by decide +kernel
theorem d_Law_law_650 : decode code 650 = .ok (.aload_n 0, 1) := by decide +kernel
theorem d_Law_law_651 : decode code 651 = .ok (.iload 4, 2) := by decide +kernel
theorem d_Law_law_653 : decode code 653 = .ok (.iconst 4, 1) := by decide +kernel
theorem d_Law_law_654 : decode code 654 = .ok (.iadd, 1) := by decide +kernel
theorem d_Law_law_655 : decode code 655 = .ok (.iaload, 1) := by decide +kernel
theorem d_Law_law_656 : decode code 656 = .ok (.i2l, 1) := by decide +kernel
theorem d_Law_law_657 : decode code 657 = .ok (.ldc2_w 19, 3) := by decide +kernel
theorem d_Law_law_660 : decode code 660 = .ok (.land, 1) := by decide +kernel
theorem d_Law_law_661 : decode code 661 = .ok (.lor, 1) := by decide +kernel
theorem d_Law_law_662 : decode code 662 = .ok (.aload_n 0, 1) := by decide +kernel
theorem d_Law_law_663 : decode code 663 = .ok (.iload 4, 2) := by decide +kernel
theorem d_Law_law_665 : decode code 665 = .ok (.iconst 5, 1) := by decide +kernel
theorem d_Law_law_666 : decode code 666 = .ok (.iadd, 1) := by decide +kernel
theorem d_Law_law_667 : decode code 667 = .ok (.iaload, 1) := by decide +kernel
theorem d_Law_law_668 : decode code 668 = .ok (.i2l, 1) := by decide +kernel
theorem d_Law_law_669 : decode code 669 = .ok (.bipush 32, 2) := by decide +kernel
theorem d_Law_law_671 : decode code 671 = .ok (.lshl, 1) := by decide +kernel
theorem d_Law_law_672 : decode code 672 = .ok (.aload_n 0, 1) := by decide +kernel
theorem d_Law_law_673 : decode code 673 = .ok (.iload 4, 2) := by decide +kernel
theorem d_Law_law_675 : decode code 675 = .ok (.bipush 6, 2) := by decide +kernel
theorem d_Law_law_677 : decode code 677 = .ok (.iadd, 1) := by decide +kernel
theorem d_Law_law_678 : decode code 678 = .ok (.iaload, 1) := by decide +kernel
theorem d_Law_law_679 : decode code 679 = .ok (.i2l, 1) := by decide +kernel
theorem d_Law_law_680 : decode code 680 = .ok (.ldc2_w 19, 3) := by decide +kernel
theorem d_Law_law_683 : decode code 683 = .ok (.land, 1) := by decide +kernel
theorem d_Law_law_684 : decode code 684 = .ok (.lor, 1) := by decide +kernel
theorem d_Law_law_685 : decode code 685 = .ok (.invokevirtual 45, 3) := by decide +kernel
theorem d_Law_law_688 : decode code 688 = .ok (.if_icmp .eq 639, 3) := by decide +kernel
theorem d_Law_law_691 : decode code 691 = .ok (.iconst 0, 1) := by decide +kernel
theorem d_Law_law_692 : decode code 692 = .ok (.ireturn, 1) := by decide +kernel
theorem d_Law_law_693 : decode code 693 = .ok (.aload_n 1, 1) := by decide +kernel
theorem d_Law_law_694 : decode code 694 = .ok (.aload_n 0, 1) := by decide +kernel
theorem d_Law_law_695 : decode code 695 = .ok (.iload 4, 2) := by decide +kernel
theorem d_Law_law_697 : decode code 697 = .ok (.iconst 1, 1) := by decide +kernel
theorem d_Law_law_698 : decode code 698 = .ok (.iadd, 1) := by decide +kernel
theorem d_Law_law_699 : decode code 699 = .ok (.iaload, 1) := by decide +kernel
theorem d_Law_law_700 : decode code 700 = .ok (.aload_n 0, 1) := by decide +kernel
theorem d_Law_law_701 : decode code 701 = .ok (.iload 4, 2) := by decide +kernel
theorem d_Law_law_703 : decode code 703 = .ok (.iconst 2, 1) := by decide +kernel
theorem d_Law_law_704 : decode code 704 = .ok (.iadd, 1) := by decide +kernel
theorem d_Law_law_705 : decode code 705 = .ok (.iaload, 1) := by decide +kernel
theorem d_Law_law_706 : decode code 706 = .ok (.aload_n 0, 1) := by decide +kernel
