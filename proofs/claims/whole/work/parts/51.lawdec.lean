/-! ===== 51: the law: decode rows (written by program) ===== -/
theorem zd_L_419 : decode code 419 = .ok (.iconst 3, 1) := by decide +kernel
theorem zd_L_420 : decode code 420 = .ok (.iadd, 1) := by decide +kernel
theorem zd_L_421 : decode code 421 = .ok (.iaload, 1) := by decide +kernel
theorem zd_L_422 : decode code 422 = .ok (.aload_n 0, 1) := by decide +kernel
theorem zd_L_423 : decode code 423 = .ok (.iload_n 3, 1) := by decide +kernel
theorem zd_L_424 : decode code 424 = .ok (.iconst 4, 1) := by decide +kernel
theorem zd_L_425 : decode code 425 = .ok (.iadd, 1) := by decide +kernel
theorem zd_L_426 : decode code 426 = .ok (.iaload, 1) := by decide +kernel
theorem zd_L_427 : decode code 427 = .ok (.aload_n 0, 1) := by decide +kernel
theorem zd_L_428 : decode code 428 = .ok (.iload_n 3, 1) := by decide +kernel
theorem zd_L_429 : decode code 429 = .ok (.iconst 5, 1) := by decide +kernel
theorem zd_L_430 : decode code 430 = .ok (.iadd, 1) := by decide +kernel
theorem zd_L_431 : decode code 431 = .ok (.iaload, 1) := by decide +kernel
theorem zd_L_432 : decode code 432 = .ok (.invokevirtual 57, 3) := by decide +kernel
theorem zd_L_435 : decode code 435 = .ok (.aload_n 2, 1) := by decide +kernel
theorem zd_L_436 : decode code 436 = .ok (.aload_n 0, 1) := by decide +kernel
theorem zd_L_437 : decode code 437 = .ok (.iload_n 3, 1) := by decide +kernel
theorem zd_L_438 : decode code 438 = .ok (.iconst 1, 1) := by decide +kernel
theorem zd_L_439 : decode code 439 = .ok (.iadd, 1) := by decide +kernel
theorem zd_L_440 : decode code 440 = .ok (.iaload, 1) := by decide +kernel
theorem zd_L_441 : decode code 441 = .ok (.aload_n 0, 1) := by decide +kernel
theorem zd_L_442 : decode code 442 = .ok (.iload_n 3, 1) := by decide +kernel
theorem zd_L_443 : decode code 443 = .ok (.iconst 2, 1) := by decide +kernel
theorem zd_L_444 : decode code 444 = .ok (.iadd, 1) := by decide +kernel
theorem zd_L_445 : decode code 445 = .ok (.iaload, 1) := by decide +kernel
theorem zd_L_446 : decode code 446 = .ok (.aload_n 0, 1) := by decide +kernel
theorem zd_L_447 : decode code 447 = .ok (.iload_n 3, 1) := by decide +kernel
theorem zd_L_448 : decode code 448 = .ok (.iconst 3, 1) := by decide +kernel
theorem zd_L_449 : decode code 449 = .ok (.iadd, 1) := by decide +kernel
theorem zd_L_450 : decode code 450 = .ok (.iaload, 1) := by decide +kernel
theorem zd_L_451 : decode code 451 = .ok (.aload_n 0, 1) := by decide +kernel
theorem zd_L_452 : decode code 452 = .ok (.iload_n 3, 1) := by decide +kernel
theorem zd_L_453 : decode code 453 = .ok (.iconst 4, 1) := by decide +kernel
theorem zd_L_454 : decode code 454 = .ok (.iadd, 1) := by decide +kernel
theorem zd_L_455 : decode code 455 = .ok (.iaload, 1) := by decide +kernel
theorem zd_L_456 : decode code 456 = .ok (.aload_n 0, 1) := by decide +kernel
theorem zd_L_457 : decode code 457 = .ok (.iload_n 3, 1) := by decide +kernel
theorem zd_L_458 : decode code 458 = .ok (.iconst 5, 1) := by decide +kernel
theorem zd_L_459 : decode code 459 = .ok (.iadd, 1) := by decide +kernel
theorem zd_L_460 : decode code 460 = .ok (.iaload, 1) := by decide +kernel
theorem zd_L_461 : decode code 461 = .ok (.invokevirtual 61, 3) := by decide +kernel
theorem zd_L_464 : decode code 464 = .ok (.if_icmp .eq 505, 3) := by decide +kernel
theorem zd_L_467 : decode code 467 = .ok (.iconst 0, 1) := by decide +kernel
theorem zd_L_468 : decode code 468 = .ok (.ireturn, 1) := by decide +kernel
theorem zd_L_469 : decode code 469 = .ok (.aload_n 1, 1) := by decide +kernel
theorem zd_L_470 : decode code 470 = .ok (.aload_n 0, 1) := by decide +kernel
theorem zd_L_471 : decode code 471 = .ok (.iload_n 3, 1) := by decide +kernel
theorem zd_L_472 : decode code 472 = .ok (.iconst 1, 1) := by decide +kernel
theorem zd_L_473 : decode code 473 = .ok (.iadd, 1) := by decide +kernel
theorem zd_L_474 : decode code 474 = .ok (.iaload, 1) := by decide +kernel
theorem zd_L_475 : decode code 475 = .ok (.aload_n 0, 1) := by decide +kernel
theorem zd_L_476 : decode code 476 = .ok (.iload_n 3, 1) := by decide +kernel
theorem zd_L_477 : decode code 477 = .ok (.iconst 2, 1) := by decide +kernel
theorem zd_L_478 : decode code 478 = .ok (.iadd, 1) := by decide +kernel
theorem zd_L_479 : decode code 479 = .ok (.iaload, 1) := by decide +kernel
theorem zd_L_480 : decode code 480 = .ok (.invokevirtual 62, 3) := by decide +kernel
theorem zd_L_483 : decode code 483 = .ok (.aload_n 2, 1) := by decide +kernel
theorem zd_L_484 : decode code 484 = .ok (.aload_n 0, 1) := by decide +kernel
theorem zd_L_485 : decode code 485 = .ok (.iload_n 3, 1) := by decide +kernel
theorem zd_L_486 : decode code 486 = .ok (.iconst 1, 1) := by decide +kernel
theorem zd_L_487 : decode code 487 = .ok (.iadd, 1) := by decide +kernel
theorem zd_L_488 : decode code 488 = .ok (.iaload, 1) := by decide +kernel
theorem zd_L_489 : decode code 489 = .ok (.aload_n 0, 1) := by decide +kernel
theorem zd_L_490 : decode code 490 = .ok (.iload_n 3, 1) := by decide +kernel
theorem zd_L_491 : decode code 491 = .ok (.iconst 2, 1) := by decide +kernel
theorem zd_L_492 : decode code 492 = .ok (.iadd, 1) := by decide +kernel
theorem zd_L_493 : decode code 493 = .ok (.iaload, 1) := by decide +kernel
theorem zd_L_494 : decode code 494 = .ok (.invokevirtual 65, 3) := by decide +kernel
theorem zd_L_497 : decode code 497 = .ok (.if_icmp .eq 472, 3) := by decide +kernel
theorem zd_L_500 : decode code 500 = .ok (.iconst 0, 1) := by decide +kernel
theorem zd_L_501 : decode code 501 = .ok (.ireturn, 1) := by decide +kernel
theorem zd_L_502 : decode code 502 = .ok (.aload_n 1, 1) := by decide +kernel
theorem zd_L_503 : decode code 503 = .ok (.aload_n 0, 1) := by decide +kernel
theorem zd_L_504 : decode code 504 = .ok (.iload_n 3, 1) := by decide +kernel
theorem zd_L_505 : decode code 505 = .ok (.iconst 1, 1) := by decide +kernel
theorem zd_L_506 : decode code 506 = .ok (.iadd, 1) := by decide +kernel
theorem zd_L_507 : decode code 507 = .ok (.iaload, 1) := by decide +kernel
theorem zd_L_508 : decode code 508 = .ok (.invokevirtual 66, 3) := by decide +kernel
theorem zd_L_511 : decode code 511 = .ok (.aload_n 2, 1) := by decide +kernel
theorem zd_L_512 : decode code 512 = .ok (.aload_n 0, 1) := by decide +kernel
theorem zd_L_513 : decode code 513 = .ok (.iload_n 3, 1) := by decide +kernel
theorem zd_L_514 : decode code 514 = .ok (.iconst 1, 1) := by decide +kernel
theorem zd_L_515 : decode code 515 = .ok (.iadd, 1) := by decide +kernel
theorem zd_L_516 : decode code 516 = .ok (.iaload, 1) := by decide +kernel
theorem zd_L_517 : decode code 517 = .ok (.invokevirtual 69, 3) := by decide +kernel
theorem zd_L_520 : decode code 520 = .ok (.if_icmp .eq 449, 3) := by decide +kernel
theorem zd_L_523 : decode code 523 = .ok (.iconst 0, 1) := by decide +kernel
theorem zd_L_524 : decode code 524 = .ok (.ireturn, 1) := by decide +kernel
theorem zd_L_525 : decode code 525 = .ok (.aload_n 1, 1) := by decide +kernel
theorem zd_L_526 : decode code 526 = .ok (.aload_n 0, 1) := by decide +kernel
theorem zd_L_527 : decode code 527 = .ok (.iload_n 3, 1) := by decide +kernel
theorem zd_L_528 : decode code 528 = .ok (.iconst 1, 1) := by decide +kernel
theorem zd_L_529 : decode code 529 = .ok (.iadd, 1) := by decide +kernel
theorem zd_L_530 : decode code 530 = .ok (.iaload, 1) := by decide +kernel
theorem zd_L_531 : decode code 531 = .ok (.invokevirtual 70, 3) := by decide +kernel
theorem zd_L_534 : decode code 534 = .ok (.aload_n 2, 1) := by decide +kernel
theorem zd_L_535 : decode code 535 = .ok (.aload_n 0, 1) := by decide +kernel
theorem zd_L_536 : decode code 536 = .ok (.iload_n 3, 1) := by decide +kernel
theorem zd_L_537 : decode code 537 = .ok (.iconst 1, 1) := by decide +kernel
theorem zd_L_538 : decode code 538 = .ok (.iadd, 1) := by decide +kernel
theorem zd_L_539 : decode code 539 = .ok (.iaload, 1) := by decide +kernel
theorem zd_L_540 : decode code 540 = .ok (.invokevirtual 73, 3) := by decide +kernel
theorem zd_L_543 : decode code 543 = .ok (.if_icmp .eq 426, 3) := by decide +kernel
theorem zd_L_546 : decode code 546 = .ok (.iconst 0, 1) := by decide +kernel
theorem zd_L_547 : decode code 547 = .ok (.ireturn, 1) := by decide +kernel
theorem zd_L_548 : decode code 548 = .ok (.aload_n 1, 1) := by decide +kernel
theorem zd_L_549 : decode code 549 = .ok (.aload_n 0, 1) := by decide +kernel
theorem zd_L_550 : decode code 550 = .ok (.iload_n 3, 1) := by decide +kernel
theorem zd_L_551 : decode code 551 = .ok (.iconst 1, 1) := by decide +kernel
theorem zd_L_552 : decode code 552 = .ok (.iadd, 1) := by decide +kernel
theorem zd_L_553 : decode code 553 = .ok (.iaload, 1) := by decide +kernel
theorem zd_L_554 : decode code 554 = .ok (.invokevirtual 74, 3) := by decide +kernel
theorem zd_L_557 : decode code 557 = .ok (.aload_n 2, 1) := by decide +kernel
theorem zd_L_558 : decode code 558 = .ok (.aload_n 0, 1) := by decide +kernel
theorem zd_L_559 : decode code 559 = .ok (.iload_n 3, 1) := by decide +kernel
theorem zd_L_560 : decode code 560 = .ok (.iconst 1, 1) := by decide +kernel
theorem zd_L_561 : decode code 561 = .ok (.iadd, 1) := by decide +kernel
theorem zd_L_562 : decode code 562 = .ok (.iaload, 1) := by decide +kernel
theorem zd_L_563 : decode code 563 = .ok (.invokevirtual 77, 3) := by decide +kernel
theorem zd_L_566 : decode code 566 = .ok (.if_icmp .eq 403, 3) := by decide +kernel
theorem zd_L_569 : decode code 569 = .ok (.iconst 0, 1) := by decide +kernel
theorem zd_L_570 : decode code 570 = .ok (.ireturn, 1) := by decide +kernel
theorem zd_L_571 : decode code 571 = .ok (.aload_n 1, 1) := by decide +kernel
theorem zd_L_572 : decode code 572 = .ok (.aload_n 0, 1) := by decide +kernel
theorem zd_L_573 : decode code 573 = .ok (.iload_n 3, 1) := by decide +kernel
theorem zd_L_574 : decode code 574 = .ok (.iconst 1, 1) := by decide +kernel
theorem zd_L_575 : decode code 575 = .ok (.iadd, 1) := by decide +kernel
theorem zd_L_576 : decode code 576 = .ok (.iaload, 1) := by decide +kernel
theorem zd_L_577 : decode code 577 = .ok (.aload_n 0, 1) := by decide +kernel
theorem zd_L_578 : decode code 578 = .ok (.iload_n 3, 1) := by decide +kernel
theorem zd_L_579 : decode code 579 = .ok (.iconst 2, 1) := by decide +kernel
theorem zd_L_580 : decode code 580 = .ok (.iadd, 1) := by decide +kernel
theorem zd_L_581 : decode code 581 = .ok (.iaload, 1) := by decide +kernel
theorem zd_L_582 : decode code 582 = .ok (.aload_n 0, 1) := by decide +kernel
theorem zd_L_583 : decode code 583 = .ok (.iload_n 3, 1) := by decide +kernel
theorem zd_L_584 : decode code 584 = .ok (.iconst 3, 1) := by decide +kernel
theorem zd_L_585 : decode code 585 = .ok (.iadd, 1) := by decide +kernel
theorem zd_L_586 : decode code 586 = .ok (.iaload, 1) := by decide +kernel
theorem zd_L_587 : decode code 587 = .ok (.aload_n 0, 1) := by decide +kernel
theorem zd_L_588 : decode code 588 = .ok (.iload_n 3, 1) := by decide +kernel
theorem zd_L_589 : decode code 589 = .ok (.iconst 4, 1) := by decide +kernel
theorem zd_L_590 : decode code 590 = .ok (.iadd, 1) := by decide +kernel
theorem zd_L_591 : decode code 591 = .ok (.iaload, 1) := by decide +kernel
theorem zd_L_592 : decode code 592 = .ok (.invokevirtual 78, 3) := by decide +kernel
theorem zd_L_595 : decode code 595 = .ok (.aload_n 2, 1) := by decide +kernel
theorem zd_L_596 : decode code 596 = .ok (.aload_n 0, 1) := by decide +kernel
theorem zd_L_597 : decode code 597 = .ok (.iload_n 3, 1) := by decide +kernel
theorem zd_L_598 : decode code 598 = .ok (.iconst 1, 1) := by decide +kernel
theorem zd_L_599 : decode code 599 = .ok (.iadd, 1) := by decide +kernel
theorem zd_L_600 : decode code 600 = .ok (.iaload, 1) := by decide +kernel
theorem zd_L_601 : decode code 601 = .ok (.aload_n 0, 1) := by decide +kernel
theorem zd_L_602 : decode code 602 = .ok (.iload_n 3, 1) := by decide +kernel
theorem zd_L_603 : decode code 603 = .ok (.iconst 2, 1) := by decide +kernel
theorem zd_L_604 : decode code 604 = .ok (.iadd, 1) := by decide +kernel
theorem zd_L_605 : decode code 605 = .ok (.iaload, 1) := by decide +kernel
theorem zd_L_606 : decode code 606 = .ok (.aload_n 0, 1) := by decide +kernel
theorem zd_L_607 : decode code 607 = .ok (.iload_n 3, 1) := by decide +kernel
theorem zd_L_608 : decode code 608 = .ok (.iconst 3, 1) := by decide +kernel
theorem zd_L_609 : decode code 609 = .ok (.iadd, 1) := by decide +kernel
theorem zd_L_610 : decode code 610 = .ok (.iaload, 1) := by decide +kernel
theorem zd_L_611 : decode code 611 = .ok (.aload_n 0, 1) := by decide +kernel
theorem zd_L_612 : decode code 612 = .ok (.iload_n 3, 1) := by decide +kernel
theorem zd_L_613 : decode code 613 = .ok (.iconst 4, 1) := by decide +kernel
theorem zd_L_614 : decode code 614 = .ok (.iadd, 1) := by decide +kernel
theorem zd_L_615 : decode code 615 = .ok (.iaload, 1) := by decide +kernel
theorem zd_L_616 : decode code 616 = .ok (.invokevirtual 82, 3) := by decide +kernel
theorem zd_L_619 : decode code 619 = .ok (.lcmp, 1) := by decide +kernel
theorem zd_L_620 : decode code 620 = .ok (.ifCond .eq 349, 3) := by decide +kernel
theorem zd_L_623 : decode code 623 = .ok (.iconst 0, 1) := by decide +kernel
theorem zd_L_624 : decode code 624 = .ok (.ireturn, 1) := by decide +kernel
theorem zd_L_625 : decode code 625 = .ok (.aload_n 1, 1) := by decide +kernel
theorem zd_L_626 : decode code 626 = .ok (.aload_n 0, 1) := by decide +kernel
theorem zd_L_627 : decode code 627 = .ok (.iload_n 3, 1) := by decide +kernel
theorem zd_L_628 : decode code 628 = .ok (.iconst 1, 1) := by decide +kernel
theorem zd_L_629 : decode code 629 = .ok (.iadd, 1) := by decide +kernel
theorem zd_L_630 : decode code 630 = .ok (.iaload, 1) := by decide +kernel
theorem zd_L_631 : decode code 631 = .ok (.aload_n 0, 1) := by decide +kernel
theorem zd_L_632 : decode code 632 = .ok (.iload_n 3, 1) := by decide +kernel
theorem zd_L_633 : decode code 633 = .ok (.iconst 2, 1) := by decide +kernel
theorem zd_L_634 : decode code 634 = .ok (.iadd, 1) := by decide +kernel
theorem zd_L_635 : decode code 635 = .ok (.iaload, 1) := by decide +kernel
theorem zd_L_636 : decode code 636 = .ok (.aload_n 0, 1) := by decide +kernel
theorem zd_L_637 : decode code 637 = .ok (.iload_n 3, 1) := by decide +kernel
theorem zd_L_638 : decode code 638 = .ok (.iconst 3, 1) := by decide +kernel
theorem zd_L_639 : decode code 639 = .ok (.iadd, 1) := by decide +kernel
theorem zd_L_640 : decode code 640 = .ok (.iaload, 1) := by decide +kernel
theorem zd_L_641 : decode code 641 = .ok (.invokevirtual 83, 3) := by decide +kernel
theorem zd_L_644 : decode code 644 = .ok (.aload_n 2, 1) := by decide +kernel
theorem zd_L_645 : decode code 645 = .ok (.aload_n 0, 1) := by decide +kernel
theorem zd_L_646 : decode code 646 = .ok (.iload_n 3, 1) := by decide +kernel
theorem zd_L_647 : decode code 647 = .ok (.iconst 1, 1) := by decide +kernel
theorem zd_L_648 : decode code 648 = .ok (.iadd, 1) := by decide +kernel
theorem zd_L_649 : decode code 649 = .ok (.iaload, 1) := by decide +kernel
theorem zd_L_650 : decode code 650 = .ok (.aload_n 0, 1) := by decide +kernel
theorem zd_L_651 : decode code 651 = .ok (.iload_n 3, 1) := by decide +kernel
theorem zd_L_652 : decode code 652 = .ok (.iconst 2, 1) := by decide +kernel
theorem zd_L_653 : decode code 653 = .ok (.iadd, 1) := by decide +kernel
theorem zd_L_654 : decode code 654 = .ok (.iaload, 1) := by decide +kernel
theorem zd_L_655 : decode code 655 = .ok (.aload_n 0, 1) := by decide +kernel
theorem zd_L_656 : decode code 656 = .ok (.iload_n 3, 1) := by decide +kernel
theorem zd_L_657 : decode code 657 = .ok (.iconst 3, 1) := by decide +kernel
theorem zd_L_658 : decode code 658 = .ok (.iadd, 1) := by decide +kernel
theorem zd_L_659 : decode code 659 = .ok (.iaload, 1) := by decide +kernel
theorem zd_L_660 : decode code 660 = .ok (.invokevirtual 87, 3) := by decide +kernel
theorem zd_L_663 : decode code 663 = .ok (.if_icmp .eq 306, 3) := by decide +kernel
theorem zd_L_666 : decode code 666 = .ok (.iconst 0, 1) := by decide +kernel
theorem zd_L_667 : decode code 667 = .ok (.ireturn, 1) := by decide +kernel
theorem zd_L_668 : decode code 668 = .ok (.aload_n 1, 1) := by decide +kernel
theorem zd_L_669 : decode code 669 = .ok (.aload_n 0, 1) := by decide +kernel
theorem zd_L_670 : decode code 670 = .ok (.iload_n 3, 1) := by decide +kernel
theorem zd_L_671 : decode code 671 = .ok (.iconst 1, 1) := by decide +kernel
theorem zd_L_672 : decode code 672 = .ok (.iadd, 1) := by decide +kernel
theorem zd_L_673 : decode code 673 = .ok (.iaload, 1) := by decide +kernel
theorem zd_L_674 : decode code 674 = .ok (.invokevirtual 88, 3) := by decide +kernel
theorem zd_L_677 : decode code 677 = .ok (.aload_n 2, 1) := by decide +kernel
theorem zd_L_678 : decode code 678 = .ok (.aload_n 0, 1) := by decide +kernel
theorem zd_L_679 : decode code 679 = .ok (.iload_n 3, 1) := by decide +kernel
theorem zd_L_680 : decode code 680 = .ok (.iconst 1, 1) := by decide +kernel
theorem zd_L_681 : decode code 681 = .ok (.iadd, 1) := by decide +kernel
theorem zd_L_682 : decode code 682 = .ok (.iaload, 1) := by decide +kernel
theorem zd_L_683 : decode code 683 = .ok (.invokevirtual 91, 3) := by decide +kernel
theorem zd_L_686 : decode code 686 = .ok (.if_icmp .eq 283, 3) := by decide +kernel
theorem zd_L_689 : decode code 689 = .ok (.iconst 0, 1) := by decide +kernel
theorem zd_L_690 : decode code 690 = .ok (.ireturn, 1) := by decide +kernel
theorem zd_L_691 : decode code 691 = .ok (.aload_n 1, 1) := by decide +kernel
