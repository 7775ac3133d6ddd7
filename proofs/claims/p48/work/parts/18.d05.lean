theorem dL_law_535 : decode cL_law 535 = .ok (.bipush (-2), 2) := by decide +kernel
theorem dL_law_537 : decode cL_law 537 = .ok (.if_icmp .ne 77, 3) := by decide +kernel
theorem dL_law_540 : decode cL_law 540 = .ok (.aload_n 1, 1) := by decide +kernel
theorem dL_law_541 : decode cL_law 541 = .ok (.iconst (-1), 1) := by decide +kernel
theorem dL_law_542 : decode cL_law 542 = .ok (.invokestatic 145, 3) := by decide +kernel
theorem dL_law_545 : decode cL_law 545 = .ok (.bipush (-2), 2) := by decide +kernel
theorem dL_law_547 : decode cL_law 547 = .ok (.if_icmp .ne 67, 3) := by decide +kernel
theorem dL_law_550 : decode cL_law 550 = .ok (.aload_n 1, 1) := by decide +kernel
theorem dL_law_551 : decode cL_law 551 = .ok (.aload_n 1, 1) := by decide +kernel
theorem dL_law_552 : decode cL_law 552 = .ok (.invokevirtual 101, 3) := by decide +kernel
theorem dL_law_555 : decode cL_law 555 = .ok (.invokestatic 152, 3) := by decide +kernel
theorem dL_law_558 : decode cL_law 558 = .ok (.ldc2_w 29, 3) := by decide +kernel
theorem dL_law_561 : decode cL_law 561 = .ok (.lcmp, 1) := by decide +kernel
theorem dL_law_562 : decode cL_law 562 = .ok (.ifCond .ne 52, 3) := by decide +kernel
theorem dL_law_565 : decode cL_law 565 = .ok (.aload_n 1, 1) := by decide +kernel
theorem dL_law_566 : decode cL_law 566 = .ok (.bipush 6, 2) := by decide +kernel
theorem dL_law_568 : decode cL_law 568 = .ok (.iconst 0, 1) := by decide +kernel
theorem dL_law_569 : decode cL_law 569 = .ok (.iconst 0, 1) := by decide +kernel
theorem dL_law_570 : decode cL_law 570 = .ok (.invokestatic 138, 3) := by decide +kernel
theorem dL_law_573 : decode cL_law 573 = .ok (.ldc2_w 29, 3) := by decide +kernel
theorem dL_law_576 : decode cL_law 576 = .ok (.lcmp, 1) := by decide +kernel
theorem dL_law_577 : decode cL_law 577 = .ok (.ifCond .ne 37, 3) := by decide +kernel
theorem dL_law_580 : decode cL_law 580 = .ok (.aload_n 1, 1) := by decide +kernel
theorem dL_law_581 : decode cL_law 581 = .ok (.iconst 3, 1) := by decide +kernel
theorem dL_law_582 : decode cL_law 582 = .ok (.iconst 0, 1) := by decide +kernel
theorem dL_law_583 : decode cL_law 583 = .ok (.iconst 1, 1) := by decide +kernel
theorem dL_law_584 : decode cL_law 584 = .ok (.iconst 1, 1) := by decide +kernel
theorem dL_law_585 : decode cL_law 585 = .ok (.aload_n 1, 1) := by decide +kernel
theorem dL_law_586 : decode cL_law 586 = .ok (.invokevirtual 97, 3) := by decide +kernel
theorem dL_law_589 : decode cL_law 589 = .ok (.invokestatic 156, 3) := by decide +kernel
theorem dL_law_592 : decode cL_law 592 = .ok (.bipush (-3), 2) := by decide +kernel
theorem dL_law_594 : decode cL_law 594 = .ok (.if_icmp .ne 20, 3) := by decide +kernel
theorem dL_law_597 : decode cL_law 597 = .ok (.aload_n 1, 1) := by decide +kernel
theorem dL_law_598 : decode cL_law 598 = .ok (.bipush 6, 2) := by decide +kernel
theorem dL_law_600 : decode cL_law 600 = .ok (.iconst 1, 1) := by decide +kernel
theorem dL_law_601 : decode cL_law 601 = .ok (.iconst 1, 1) := by decide +kernel
theorem dL_law_602 : decode cL_law 602 = .ok (.invokestatic 175, 3) := by decide +kernel
theorem dL_law_605 : decode cL_law 605 = .ok (.bipush (-2), 2) := by decide +kernel
theorem dL_law_607 : decode cL_law 607 = .ok (.if_icmp .ne 7, 3) := by decide +kernel
theorem dL_law_610 : decode cL_law 610 = .ok (.iconst 1, 1) := by decide +kernel
theorem dL_law_611 : decode cL_law 611 = .ok (.goto 4, 3) := by decide +kernel
theorem dL_law_614 : decode cL_law 614 = .ok (.iconst 0, 1) := by decide +kernel
theorem dL_law_615 : decode cL_law 615 = .ok (.ireturn, 1) := by decide +kernel
