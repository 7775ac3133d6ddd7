abbrev uX12_split : xU := (RX12, cX12_split, 14, none, [], "split")
theorem bX12_split : xYV yX12_split cX12_split 14 none 1 := ⟨xq_1117, xq_1118, xq_5, xq_1119, ⟨by decide +kernel, by decide +kernel, by decide +kernel⟩, by decide⟩
theorem gX12_split_578 {l : Launch} {G : xG} (hl : l.stackTraces = false) (rc460 : Int → xM → xO) (x0 : Nat) (h0 : xOb 12 x0) (x2 : Int) (h2 : R32 x2) (x3 : Int) (h3 : R64 x3) (x5 : Int) (h5 : R64 x5) (x7 : Int) (h7 : R32 x7) (hr460 : ∀ w7 : Int, R32 w7 → ∀ M : xM, xcan M → Gv l G uX12_split 4 3 0 0 460 [some (.ref x0), none, some (iv x2), some (jv x3), none, some (jv x5), none, some (iv w7), none, none, none, none, none, none] [] M (rc460 w7 M)) (M : xM) (hM : xcan M) : Gv l G uX12_split 4 3 0 0 578 [some (.ref x0), none, some (iv x2), some (jv x3), none, some (jv x5), none, some (iv x7), none, none, none, none, none, none] [] M (fX12_split_578 rc460 x0 x2 x3 x5 x7 M) := by
  unfold fX12_split_578
  refine xg_iinc (ls2 := [some (.ref x0), none, some (iv x2), some (jv x3), none, some (jv x5), none, some (iv (w32 (x7 + 1))), none, none, none, none, none, none]) dX12_split_578 (Eq.refl 581) rfl (by decide) rfl ?_
  refine xg_goto (tgt := 460) dX12_split_581 (by decide) ?_
  exact xg_jump (hr460 (w32 (x7 + 1)) (w32_r _) M hM) (xsb_s (xsb_n (xsb_s (xsb_s (xsb_n (xsb_s (xsb_n (xsb_s (xsb_n (xsb_n (xsb_n (xsb_n (xsb_n (xsb_n xsb_0)))))))))))))) (by decide) (by decide)
theorem gX12_split_460 {l : Launch} {G : xG} (hl : l.stackTraces = false) (x0 : Nat) (h0 : xOb 12 x0) (x2 : Int) (h2 : R32 x2) (x3 : Int) (h3 : R64 x3) (x5 : Int) (h5 : R64 x5) : ∀ (n : Nat) (x7 : Int) (_ : R32 x7) (M : xM) (_ : xcan M), Gv l G uX12_split 4 3 0 0 460 [some (.ref x0), none, some (iv x2), some (jv x3), none, some (jv x5), none, some (iv x7), none, none, none, none, none, none] [] M (fX12_split_460 x0 x2 x3 x5 n x7 M) := by
  intro n; induction n with
  | zero => intro x7 h7 M hM; exact xg_none
  | succ n ih =>
    intro x7 h7 M hM
    rw [fX12_split_460]
    refine xg_iload dX12_split_460 (Eq.refl 462) rfl ?_
    refine xg_i2l dX12_split_462 (Eq.refl 463) h7 ?_
    refine xg_aload_n dX12_split_463 (Eq.refl 464) rfl ?_
    refine xg_getR (k := 0) xcl12 h0 rfl xq_122 rfl (xt_12_0 h0).1 dX12_split_464 (Eq.refl 467) ?_
    refine xg_sipush dX12_split_467 (Eq.refl 470) (by decide +kernel) ?_
    refine xg_laldk (k := 1543) (xt_12_0 h0).2 dX12_split_470 (Eq.refl 471) rfl (by decide) ?_
    refine xg_lif_ge (tgt := 584) dX12_split_471 (Eq.refl 472) dX12_split_472 (Eq.refl 475) (by decide) (R32.j h7) (hM.aj (xt_12_0 h0).2) ?_ ?_
    · exact xg_vret rfl dX12_split_584 rfl hM
    · refine xg_aload_n dX12_split_475 (Eq.refl 476) rfl ?_
      refine xg_getR (k := 0) xcl12 h0 rfl xq_122 rfl (xt_12_0 h0).1 dX12_split_476 (Eq.refl 479) ?_
      refine xg_sipush dX12_split_479 (Eq.refl 482) (by decide +kernel) ?_
      refine xg_iload dX12_split_482 (Eq.refl 484) rfl ?_
      refine xg_iadd dX12_split_484 (Eq.refl 485) ?_
      refine xg_lald (xt_12_0 h0).2 dX12_split_485 (Eq.refl 486) ?_
      refine xg_lconst (z := 0) dX12_split_486 (Eq.refl 487) rfl ?_
      refine xg_lif_ne (tgt := 578) dX12_split_487 (Eq.refl 488) dX12_split_488 (Eq.refl 491) (by decide) (hM.aj (xt_12_0 h0).2) (by decide) ?_ ?_
      · refine xg_aload_n dX12_split_491 (Eq.refl 492) rfl ?_
        refine xg_iload dX12_split_492 (Eq.refl 494) rfl ?_
        refine xg_callV_I (kc := 0) (ks := 0) (st := []) (mX12_paper hl x0 h0 x7 h7 M hM) bX12_paper xcl12 h0 rfl xq_842 rfl (by decide) rfl (by decide) dX12_split_494 (Eq.refl 497) rfl (by decide) (by decide) ?_
        intro z1 M2 hz1 hM2
        refine xg_iload_n dX12_split_497 (Eq.refl 498) rfl ?_
        refine xg_icmp_ne (tgt := 578) dX12_split_498 (Eq.refl 501) (by decide) hz1 h2 ?_ ?_
        · refine xg_aload_n dX12_split_501 (Eq.refl 502) rfl ?_
          refine xg_getR (k := 0) xcl12 h0 rfl xq_122 rfl (xt_12_0 h0).1 dX12_split_502 (Eq.refl 505) ?_
          refine xg_sipush dX12_split_505 (Eq.refl 508) (by decide +kernel) ?_
          refine xg_iload dX12_split_508 (Eq.refl 510) rfl ?_
          refine xg_iadd dX12_split_510 (Eq.refl 511) ?_
          refine xg_aload_n dX12_split_511 (Eq.refl 512) rfl ?_
          refine xg_getR (k := 0) xcl12 h0 rfl xq_122 rfl (xt_12_0 h0).1 dX12_split_512 (Eq.refl 515) ?_
          refine xg_sipush dX12_split_515 (Eq.refl 518) (by decide +kernel) ?_
          refine xg_iload dX12_split_518 (Eq.refl 520) rfl ?_
          refine xg_iadd dX12_split_520 (Eq.refl 521) ?_
          refine xg_lald (xt_12_0 h0).2 dX12_split_521 (Eq.refl 522) ?_
          refine xg_lload_n dX12_split_522 (Eq.refl 523) rfl ?_
          refine xg_lmul dX12_split_523 (Eq.refl 524) ?_
          refine xg_lload dX12_split_524 (Eq.refl 526) rfl ?_
          refine xg_ldiv dX12_split_526 (Eq.refl 527) (w64_r _) h5 ?_
          intro q3
          refine xg_last (xt_12_0 h0).2 dX12_split_527 (Eq.refl 528) hM2 (xtd_r (w64_r _) q3) ?_
          intro M4 hM4
          refine xg_aload_n dX12_split_528 (Eq.refl 529) rfl ?_
          refine xg_getR (k := 0) xcl12 h0 rfl xq_122 rfl (xt_12_0 h0).1 dX12_split_529 (Eq.refl 532) ?_
          refine xg_sipush dX12_split_532 (Eq.refl 535) (by decide +kernel) ?_
          refine xg_iload dX12_split_535 (Eq.refl 537) rfl ?_
          refine xg_iadd dX12_split_537 (Eq.refl 538) ?_
          refine xg_aload_n dX12_split_538 (Eq.refl 539) rfl ?_
          refine xg_getR (k := 0) xcl12 h0 rfl xq_122 rfl (xt_12_0 h0).1 dX12_split_539 (Eq.refl 542) ?_
          refine xg_sipush dX12_split_542 (Eq.refl 545) (by decide +kernel) ?_
          refine xg_iload dX12_split_545 (Eq.refl 547) rfl ?_
          refine xg_iadd dX12_split_547 (Eq.refl 548) ?_
          refine xg_lald (xt_12_0 h0).2 dX12_split_548 (Eq.refl 549) ?_
          refine xg_lload_n dX12_split_549 (Eq.refl 550) rfl ?_
          refine xg_lmul dX12_split_550 (Eq.refl 551) ?_
          refine xg_lload dX12_split_551 (Eq.refl 553) rfl ?_
          refine xg_ldiv dX12_split_553 (Eq.refl 554) (w64_r _) h5 ?_
          intro q5
          refine xg_last (xt_12_0 h0).2 dX12_split_554 (Eq.refl 555) hM4 (xtd_r (w64_r _) q5) ?_
          intro M6 hM6
          refine xg_aload_n dX12_split_555 (Eq.refl 556) rfl ?_
          refine xg_getR (k := 0) xcl12 h0 rfl xq_122 rfl (xt_12_0 h0).1 dX12_split_556 (Eq.refl 559) ?_
          refine xg_sipush dX12_split_559 (Eq.refl 562) (by decide +kernel) ?_
          refine xg_iload dX12_split_562 (Eq.refl 564) rfl ?_
          refine xg_iadd dX12_split_564 (Eq.refl 565) ?_
          refine xg_lald (xt_12_0 h0).2 dX12_split_565 (Eq.refl 566) ?_
          refine xg_lconst (z := 0) dX12_split_566 (Eq.refl 567) rfl ?_
          refine xg_lif_ne (tgt := 578) dX12_split_567 (Eq.refl 568) dX12_split_568 (Eq.refl 571) (by decide) (hM6.aj (xt_12_0 h0).2) (by decide) ?_ ?_
          · refine xg_aload_n dX12_split_571 (Eq.refl 572) rfl ?_
            refine xg_iload dX12_split_572 (Eq.refl 574) rfl ?_
            refine xg_iconst dX12_split_574 (Eq.refl 575) ?_
            refine xg_callV_N (kc := 0) (ks := 0) (st := []) (mX12_over hl x0 h0 x7 h7 2 (by decide) M6 hM6) bX12_over xcl12 h0 rfl xq_566 rfl (by decide) rfl (by decide) dX12_split_575 (Eq.refl 578) rfl (by decide) (by decide) ?_
            intro z7 M8 hz7 hM8
            exact xg_jump (gX12_split_578 hl (fX12_split_460 x0 x2 x3 x5 n) x0 h0 x2 h2 x3 h3 x5 h5 x7 h7 ih M8 hM8) (xsb_s (xsb_n (xsb_s (xsb_s (xsb_n (xsb_s (xsb_n (xsb_s (xsb_n (xsb_n (xsb_n (xsb_n (xsb_n (xsb_n xsb_0)))))))))))))) (by decide) (by decide)
          · exact xg_jump (gX12_split_578 hl (fX12_split_460 x0 x2 x3 x5 n) x0 h0 x2 h2 x3 h3 x5 h5 x7 h7 ih M6 hM6) (xsb_s (xsb_n (xsb_s (xsb_s (xsb_n (xsb_s (xsb_n (xsb_s (xsb_n (xsb_n (xsb_n (xsb_n (xsb_n (xsb_n xsb_0)))))))))))))) (by decide) (by decide)
        · exact xg_jump (gX12_split_578 hl (fX12_split_460 x0 x2 x3 x5 n) x0 h0 x2 h2 x3 h3 x5 h5 x7 h7 ih M2 hM2) (xsb_s (xsb_n (xsb_s (xsb_s (xsb_n (xsb_s (xsb_n (xsb_s (xsb_n (xsb_n (xsb_n (xsb_n (xsb_n (xsb_n xsb_0)))))))))))))) (by decide) (by decide)
      · exact xg_jump (gX12_split_578 hl (fX12_split_460 x0 x2 x3 x5 n) x0 h0 x2 h2 x3 h3 x5 h5 x7 h7 ih M hM) (xsb_s (xsb_n (xsb_s (xsb_s (xsb_n (xsb_s (xsb_n (xsb_s (xsb_n (xsb_n (xsb_n (xsb_n (xsb_n (xsb_n xsb_0)))))))))))))) (by decide) (by decide)
theorem gX12_split_450 {l : Launch} {G : xG} (hl : l.stackTraces = false) (rc362 : Int → xM → xO) (x0 : Nat) (h0 : xOb 12 x0) (x2 : Int) (h2 : R32 x2) (x3 : Int) (h3 : R64 x3) (x5 : Int) (h5 : R64 x5) (x7 : Int) (h7 : R32 x7) (s0 : Int) (hs0 : R64 s0) (s1 : Int) (hs1 : R32 s1) (s2 : Nat) (hs2 : xAn 1 1550 s2) (hr362 : ∀ w7 : Int, R32 w7 → ∀ M : xM, xcan M → Gv l G uX12_split 4 3 0 0 362 [some (.ref x0), none, some (iv x2), some (jv x3), none, some (jv x5), none, some (iv w7), none, none, none, none, none, none] [] M (rc362 w7 M)) (M : xM) (hM : xcan M) : Gv l G uX12_split 4 3 0 0 450 [some (.ref x0), none, some (iv x2), some (jv x3), none, some (jv x5), none, some (iv x7), none, none, none, none, none, none] [jv s0, iv s1, .ref s2] M (fX12_split_450 rc362 x0 x2 x3 x5 x7 s0 s1 s2 M) := by
  unfold fX12_split_450
  refine xg_last hs2 dX12_split_450 (Eq.refl 451) hM hs0 ?_
  intro M1 hM1
  refine xg_iinc (ls2 := [some (.ref x0), none, some (iv x2), some (jv x3), none, some (jv x5), none, some (iv (w32 (x7 + 1))), none, none, none, none, none, none]) dX12_split_451 (Eq.refl 454) rfl (by decide) rfl ?_
  refine xg_goto (tgt := 362) dX12_split_454 (by decide) ?_
  exact xg_jump (hr362 (w32 (x7 + 1)) (w32_r _) M1 hM1) (xsb_s (xsb_n (xsb_s (xsb_s (xsb_n (xsb_s (xsb_n (xsb_s (xsb_n (xsb_n (xsb_n (xsb_n (xsb_n (xsb_n xsb_0)))))))))))))) (by decide) (by decide)
theorem gX12_split_439 {l : Launch} {G : xG} (hl : l.stackTraces = false) (rc362 : Int → xM → xO) (x0 : Nat) (h0 : xOb 12 x0) (x2 : Int) (h2 : R32 x2) (x3 : Int) (h3 : R64 x3) (x5 : Int) (h5 : R64 x5) (x7 : Int) (h7 : R32 x7) (s0 : Int) (hs0 : R32 s0) (s1 : Nat) (hs1 : xAn 1 1550 s1) (hr362 : ∀ w7 : Int, R32 w7 → ∀ M : xM, xcan M → Gv l G uX12_split 4 3 0 0 362 [some (.ref x0), none, some (iv x2), some (jv x3), none, some (jv x5), none, some (iv w7), none, none, none, none, none, none] [] M (rc362 w7 M)) (M : xM) (hM : xcan M) : Gv l G uX12_split 4 3 0 0 439 [some (.ref x0), none, some (iv x2), some (jv x3), none, some (jv x5), none, some (iv x7), none, none, none, none, none, none] [iv s0, .ref s1] M (fX12_split_439 rc362 x0 x2 x3 x5 x7 s0 s1 M) := by
  unfold fX12_split_439
  refine xg_aload_n dX12_split_439 (Eq.refl 440) rfl ?_
  refine xg_getR (k := 0) xcl12 h0 rfl xq_122 rfl (xt_12_0 h0).1 dX12_split_440 (Eq.refl 443) ?_
  refine xg_sipush dX12_split_443 (Eq.refl 446) (by decide +kernel) ?_
  refine xg_iload dX12_split_446 (Eq.refl 448) rfl ?_
  refine xg_iadd dX12_split_448 (Eq.refl 449) ?_
  refine xg_lald (xt_12_0 h0).2 dX12_split_449 (Eq.refl 450) ?_
  exact xg_jump (gX12_split_450 hl rc362 x0 h0 x2 h2 x3 h3 x5 h5 x7 h7 (M (xr x0 0) (w32 (990 + x7)).toNat) (hM.aj (xt_12_0 h0).2) s0 hs0 s1 hs1 hr362 M hM) (xsb_s (xsb_n (xsb_s (xsb_s (xsb_n (xsb_s (xsb_n (xsb_s (xsb_n (xsb_n (xsb_n (xsb_n (xsb_n (xsb_n xsb_0)))))))))))))) (by decide) (by decide)
theorem gX12_split_362 {l : Launch} {G : xG} (hl : l.stackTraces = false) (x0 : Nat) (h0 : xOb 12 x0) (x2 : Int) (h2 : R32 x2) (x3 : Int) (h3 : R64 x3) (x5 : Int) (h5 : R64 x5) : ∀ (n : Nat) (x7 : Int) (_ : R32 x7) (M : xM) (_ : xcan M), Gv l G uX12_split 4 3 0 0 362 [some (.ref x0), none, some (iv x2), some (jv x3), none, some (jv x5), none, some (iv x7), none, none, none, none, none, none] [] M (fX12_split_362 x0 x2 x3 x5 n x7 M) := by
  intro n; induction n with
  | zero => intro x7 h7 M hM; exact xg_none
  | succ n ih =>
    intro x7 h7 M hM
    rw [fX12_split_362]
    refine xg_iload dX12_split_362 (Eq.refl 364) rfl ?_
    refine xg_i2l dX12_split_364 (Eq.refl 365) h7 ?_
    refine xg_aload_n dX12_split_365 (Eq.refl 366) rfl ?_
    refine xg_getR (k := 0) xcl12 h0 rfl xq_122 rfl (xt_12_0 h0).1 dX12_split_366 (Eq.refl 369) ?_
    refine xg_sipush dX12_split_369 (Eq.refl 372) (by decide +kernel) ?_
    refine xg_laldk (k := 1545) (xt_12_0 h0).2 dX12_split_372 (Eq.refl 373) rfl (by decide) ?_
    refine xg_lif_ge (tgt := 457) dX12_split_373 (Eq.refl 374) dX12_split_374 (Eq.refl 377) (by decide) (R32.j h7) (hM.aj (xt_12_0 h0).2) ?_ ?_
    · refine xg_iconst dX12_split_457 (Eq.refl 458) ?_
      refine xg_istore (ls2 := [some (.ref x0), none, some (iv x2), some (jv x3), none, some (jv x5), none, some (iv 0), none, none, none, none, none, none]) dX12_split_458 (Eq.refl 460) (by decide) rfl ?_
      exact xg_jump (gX12_split_460 hl x0 h0 x2 h2 x3 h3 x5 h5 xN 0 (by decide) M hM) (xsb_s (xsb_n (xsb_s (xsb_s (xsb_n (xsb_s (xsb_n (xsb_s (xsb_n (xsb_n (xsb_n (xsb_n (xsb_n (xsb_n xsb_0)))))))))))))) (by decide) (by decide)
    · refine xg_aload_n dX12_split_377 (Eq.refl 378) rfl ?_
      refine xg_getR (k := 0) xcl12 h0 rfl xq_122 rfl (xt_12_0 h0).1 dX12_split_378 (Eq.refl 381) ?_
      refine xg_sipush dX12_split_381 (Eq.refl 384) (by decide +kernel) ?_
      refine xg_iload dX12_split_384 (Eq.refl 386) rfl ?_
      refine xg_iadd dX12_split_386 (Eq.refl 387) ?_
      refine xg_aload_n dX12_split_387 (Eq.refl 388) rfl ?_
      refine xg_getR (k := 0) xcl12 h0 rfl xq_122 rfl (xt_12_0 h0).1 dX12_split_388 (Eq.refl 391) ?_
      refine xg_sipush dX12_split_391 (Eq.refl 394) (by decide +kernel) ?_
      refine xg_iload dX12_split_394 (Eq.refl 396) rfl ?_
      refine xg_iadd dX12_split_396 (Eq.refl 397) ?_
      refine xg_lald (xt_12_0 h0).2 dX12_split_397 (Eq.refl 398) ?_
      refine xg_iload_n dX12_split_398 (Eq.refl 399) rfl ?_
      refine xg_i2l dX12_split_399 (Eq.refl 400) h2 ?_
      refine xg_lif_ne (tgt := 439) dX12_split_400 (Eq.refl 401) dX12_split_401 (Eq.refl 404) (by decide) (hM.aj (xt_12_0 h0).2) (R32.j h2) ?_ ?_
      · refine xg_aload_n dX12_split_404 (Eq.refl 405) rfl ?_
        refine xg_getR (k := 0) xcl12 h0 rfl xq_122 rfl (xt_12_0 h0).1 dX12_split_405 (Eq.refl 408) ?_
        refine xg_sipush dX12_split_408 (Eq.refl 411) (by decide +kernel) ?_
        refine xg_iload dX12_split_411 (Eq.refl 413) rfl ?_
        refine xg_iadd dX12_split_413 (Eq.refl 414) ?_
        refine xg_lald (xt_12_0 h0).2 dX12_split_414 (Eq.refl 415) ?_
        refine xg_lconst (z := 0) dX12_split_415 (Eq.refl 416) rfl ?_
        refine xg_lif_lt (tgt := 439) dX12_split_416 (Eq.refl 417) dX12_split_417 (Eq.refl 420) (by decide) (hM.aj (xt_12_0 h0).2) (by decide) ?_ ?_
        · exact xg_jump (gX12_split_439 hl (fX12_split_362 x0 x2 x3 x5 n) x0 h0 x2 h2 x3 h3 x5 h5 x7 h7 (w32 (990 + x7)) (w32_r _) (xr x0 0) (xt_12_0 h0).2 ih M hM) (xsb_s (xsb_n (xsb_s (xsb_s (xsb_n (xsb_s (xsb_n (xsb_s (xsb_n (xsb_n (xsb_n (xsb_n (xsb_n (xsb_n xsb_0)))))))))))))) (by decide) (by decide)
        · refine xg_aload_n dX12_split_420 (Eq.refl 421) rfl ?_
          refine xg_getR (k := 0) xcl12 h0 rfl xq_122 rfl (xt_12_0 h0).1 dX12_split_421 (Eq.refl 424) ?_
          refine xg_sipush dX12_split_424 (Eq.refl 427) (by decide +kernel) ?_
          refine xg_iload dX12_split_427 (Eq.refl 429) rfl ?_
          refine xg_iadd dX12_split_429 (Eq.refl 430) ?_
          refine xg_lald (xt_12_0 h0).2 dX12_split_430 (Eq.refl 431) ?_
          refine xg_lload_n dX12_split_431 (Eq.refl 432) rfl ?_
          refine xg_lmul dX12_split_432 (Eq.refl 433) ?_
          refine xg_lload dX12_split_433 (Eq.refl 435) rfl ?_
          refine xg_ldiv dX12_split_435 (Eq.refl 436) (w64_r _) h5 ?_
          intro q1
          refine xg_goto (tgt := 450) dX12_split_436 (by decide) ?_
          exact xg_jump (gX12_split_450 hl (fX12_split_362 x0 x2 x3 x5 n) x0 h0 x2 h2 x3 h3 x5 h5 x7 h7 (Int.tdiv (w64 ((M (xr x0 0) (w32 (990 + x7)).toNat) * x3)) x5) (xtd_r (w64_r _) q1) (w32 (990 + x7)) (w32_r _) (xr x0 0) (xt_12_0 h0).2 ih M hM) (xsb_s (xsb_n (xsb_s (xsb_s (xsb_n (xsb_s (xsb_n (xsb_s (xsb_n (xsb_n (xsb_n (xsb_n (xsb_n (xsb_n xsb_0)))))))))))))) (by decide) (by decide)
      · exact xg_jump (gX12_split_439 hl (fX12_split_362 x0 x2 x3 x5 n) x0 h0 x2 h2 x3 h3 x5 h5 x7 h7 (w32 (990 + x7)) (w32_r _) (xr x0 0) (xt_12_0 h0).2 ih M hM) (xsb_s (xsb_n (xsb_s (xsb_s (xsb_n (xsb_s (xsb_n (xsb_s (xsb_n (xsb_n (xsb_n (xsb_n (xsb_n (xsb_n xsb_0)))))))))))))) (by decide) (by decide)
theorem gX12_split_318 {l : Launch} {G : xG} (hl : l.stackTraces = false) (rc49 : Int → xM → xO) (x0 : Nat) (h0 : xOb 12 x0) (x2 : Int) (h2 : R32 x2) (x3 : Int) (h3 : R64 x3) (x5 : Int) (h5 : R64 x5) (x7 : Int) (h7 : R32 x7) (hr49 : ∀ w7 : Int, R32 w7 → ∀ M : xM, xcan M → Gv l G uX12_split 4 3 0 0 49 [some (.ref x0), none, some (iv x2), some (jv x3), none, some (jv x5), none, some (iv w7), none, none, none, none, none, none] [] M (rc49 w7 M)) (M : xM) (hM : xcan M) : Gv l G uX12_split 4 3 0 0 318 [some (.ref x0), none, some (iv x2), some (jv x3), none, some (jv x5), none, some (iv x7), none, none, none, none, none, none] [] M (fX12_split_318 rc49 x0 x2 x3 x5 x7 M) := by
  unfold fX12_split_318
  refine xg_aload_n dX12_split_318 (Eq.refl 319) rfl ?_
  refine xg_getR (k := 0) xcl12 h0 rfl xq_122 rfl (xt_12_0 h0).1 dX12_split_319 (Eq.refl 322) ?_
  refine xg_sipush dX12_split_322 (Eq.refl 325) (by decide +kernel) ?_
  refine xg_iconst dX12_split_325 (Eq.refl 326) ?_
  refine xg_iload dX12_split_326 (Eq.refl 328) rfl ?_
  refine xg_imul dX12_split_328 (Eq.refl 329) ?_
  refine xg_iadd dX12_split_329 (Eq.refl 330) ?_
  refine xg_iload_n dX12_split_330 (Eq.refl 331) rfl ?_
  refine xg_iadd dX12_split_331 (Eq.refl 332) ?_
  refine xg_aload_n dX12_split_332 (Eq.refl 333) rfl ?_
  refine xg_getR (k := 0) xcl12 h0 rfl xq_122 rfl (xt_12_0 h0).1 dX12_split_333 (Eq.refl 336) ?_
  refine xg_sipush dX12_split_336 (Eq.refl 339) (by decide +kernel) ?_
  refine xg_iconst dX12_split_339 (Eq.refl 340) ?_
  refine xg_iload dX12_split_340 (Eq.refl 342) rfl ?_
  refine xg_imul dX12_split_342 (Eq.refl 343) ?_
  refine xg_iadd dX12_split_343 (Eq.refl 344) ?_
  refine xg_iload_n dX12_split_344 (Eq.refl 345) rfl ?_
  refine xg_iadd dX12_split_345 (Eq.refl 346) ?_
  refine xg_lald (xt_12_0 h0).2 dX12_split_346 (Eq.refl 347) ?_
  refine xg_lload_n dX12_split_347 (Eq.refl 348) rfl ?_
  refine xg_lmul dX12_split_348 (Eq.refl 349) ?_
  refine xg_lload dX12_split_349 (Eq.refl 351) rfl ?_
  refine xg_ldiv dX12_split_351 (Eq.refl 352) (w64_r _) h5 ?_
  intro q1
  refine xg_last (xt_12_0 h0).2 dX12_split_352 (Eq.refl 353) hM (xtd_r (w64_r _) q1) ?_
  intro M2 hM2
  refine xg_iinc (ls2 := [some (.ref x0), none, some (iv x2), some (jv x3), none, some (jv x5), none, some (iv (w32 (x7 + 1))), none, none, none, none, none, none]) dX12_split_353 (Eq.refl 356) rfl (by decide) rfl ?_
  refine xg_goto (tgt := 49) dX12_split_356 (by decide) ?_
  exact xg_jump (hr49 (w32 (x7 + 1)) (w32_r _) M2 hM2) (xsb_s (xsb_n (xsb_s (xsb_s (xsb_n (xsb_s (xsb_n (xsb_s (xsb_n (xsb_n (xsb_n (xsb_n (xsb_n (xsb_n xsb_0)))))))))))))) (by decide) (by decide)
theorem gX12_split_267 {l : Launch} {G : xG} (hl : l.stackTraces = false) (rc101 : Int → Int → Int → xM → xO) (x0 : Nat) (h0 : xOb 12 x0) (x2 : Int) (h2 : R32 x2) (x3 : Int) (h3 : R64 x3) (x5 : Int) (h5 : R64 x5) (x7 : Int) (h7 : R32 x7) (x8 : Int) (h8 : R64 x8) (x10 : Int) (h10 : R64 x10) (x12 : Int) (h12 : R32 x12) (s0 : Int) (hs0 : R64 s0) (s1 : Int) (hs1 : R32 s1) (s2 : Nat) (hs2 : xAn 1 1550 s2) (hr101 : ∀ w8 : Int, R64 w8 → ∀ w10 : Int, R64 w10 → ∀ w12 : Int, R32 w12 → ∀ M : xM, xcan M → Gv l G uX12_split 4 3 0 0 101 [some (.ref x0), none, some (iv x2), some (jv x3), none, some (jv x5), none, some (iv x7), some (jv w8), none, some (jv w10), none, some (iv w12), none] [] M (rc101 w8 w10 w12 M)) (M : xM) (hM : xcan M) : Gv l G uX12_split 4 3 0 0 267 [some (.ref x0), none, some (iv x2), some (jv x3), none, some (jv x5), none, some (iv x7), some (jv x8), none, some (jv x10), none, some (iv x12), none] [jv s0, iv s1, .ref s2] M (fX12_split_267 rc101 x0 x2 x3 x5 x7 x8 x10 x12 s0 s1 s2 M) := by
  unfold fX12_split_267
  refine xg_last hs2 dX12_split_267 (Eq.refl 268) hM hs0 ?_
  intro M1 hM1
  refine xg_iinc (ls2 := [some (.ref x0), none, some (iv x2), some (jv x3), none, some (jv x5), none, some (iv x7), some (jv x8), none, some (jv x10), none, some (iv (w32 (x12 + 1))), none]) dX12_split_268 (Eq.refl 271) rfl (by decide) rfl ?_
  refine xg_goto (tgt := 101) dX12_split_271 (by decide) ?_
  exact xg_jump (hr101 x8 h8 x10 h10 (w32 (x12 + 1)) (w32_r _) M1 hM1) (xsb_s (xsb_n (xsb_s (xsb_s (xsb_n (xsb_s (xsb_n (xsb_s (xsb_s (xsb_n (xsb_s (xsb_n (xsb_s (xsb_n xsb_0)))))))))))))) (by decide) (by decide)
theorem gX12_split_210 {l : Launch} {G : xG} (hl : l.stackTraces = false) (rc101 : Int → Int → Int → xM → xO) (x0 : Nat) (h0 : xOb 12 x0) (x2 : Int) (h2 : R32 x2) (x3 : Int) (h3 : R64 x3) (x5 : Int) (h5 : R64 x5) (x7 : Int) (h7 : R32 x7) (x8 : Int) (h8 : R64 x8) (x12 : Int) (h12 : R32 x12) (x13 : Int) (h13 : B01 x13) (s0 : Int) (hs0 : R64 s0) (s1 : Int) (hs1 : R64 s1) (hr101 : ∀ w8 : Int, R64 w8 → ∀ w10 : Int, R64 w10 → ∀ w12 : Int, R32 w12 → ∀ M : xM, xcan M → Gv l G uX12_split 4 3 0 0 101 [some (.ref x0), none, some (iv x2), some (jv x3), none, some (jv x5), none, some (iv x7), some (jv w8), none, some (jv w10), none, some (iv w12), none] [] M (rc101 w8 w10 w12 M)) (M : xM) (hM : xcan M) : Gv l G uX12_split 4 3 0 0 210 [some (.ref x0), none, some (iv x2), some (jv x3), none, some (jv x5), none, some (iv x7), some (jv x8), none, none, none, some (iv x12), some (iv x13)] [jv s0, jv s1] M (fX12_split_210 rc101 x0 x2 x3 x5 x7 x8 x12 x13 s0 s1 M) := by
  unfold fX12_split_210
  refine xg_ladd dX12_split_210 (Eq.refl 211) ?_
  refine xg_lstoreL (P := R64) (ls2 := fun y1 => [some (.ref x0), none, some (iv x2), some (jv x3), none, some (jv x5), none, some (iv x7), some (jv x8), none, some (jv y1), none, some (iv x12), some (iv x13)]) dX12_split_211 (Eq.refl 213) (by decide) (w64_r _) (fun _ => rfl) ?_
  intro y1 hy1
  refine xg_aload_n dX12_split_213 (Eq.refl 214) rfl ?_
  refine xg_getR (k := 0) xcl12 h0 rfl xq_122 rfl (xt_12_0 h0).1 dX12_split_214 (Eq.refl 217) ?_
  refine xg_bipush dX12_split_217 (Eq.refl 219) (by decide +kernel) ?_
  refine xg_iconst dX12_split_219 (Eq.refl 220) ?_
  refine xg_iload dX12_split_220 (Eq.refl 222) rfl ?_
  refine xg_imul dX12_split_222 (Eq.refl 223) ?_
  refine xg_iadd dX12_split_223 (Eq.refl 224) ?_
  refine xg_iload_n dX12_split_224 (Eq.refl 225) rfl ?_
  refine xg_iadd dX12_split_225 (Eq.refl 226) ?_
  refine xg_iload dX12_split_226 (Eq.refl 228) rfl ?_
  refine xg_if_eq (tgt := 253) dX12_split_228 (Eq.refl 231) (by decide) (B01.r h13) ?_ ?_
  · refine xg_aload_n dX12_split_253 (Eq.refl 254) rfl ?_
    refine xg_getR (k := 0) xcl12 h0 rfl xq_122 rfl (xt_12_0 h0).1 dX12_split_254 (Eq.refl 257) ?_
    refine xg_bipush dX12_split_257 (Eq.refl 259) (by decide +kernel) ?_
    refine xg_iconst dX12_split_259 (Eq.refl 260) ?_
    refine xg_iload dX12_split_260 (Eq.refl 262) rfl ?_
    refine xg_imul dX12_split_262 (Eq.refl 263) ?_
    refine xg_iadd dX12_split_263 (Eq.refl 264) ?_
    refine xg_iload_n dX12_split_264 (Eq.refl 265) rfl ?_
    refine xg_iadd dX12_split_265 (Eq.refl 266) ?_
    refine xg_lald (xt_12_0 h0).2 dX12_split_266 (Eq.refl 267) ?_
    exact xg_jump (gX12_split_267 hl rc101 x0 h0 x2 h2 x3 h3 x5 h5 x7 h7 x8 h8 y1 hy1 x12 h12 (M (xr x0 0) (w32 ((w32 (100 + (w32 (4 * x12)))) + x2)).toNat) (hM.aj (xt_12_0 h0).2) (w32 ((w32 (100 + (w32 (4 * x12)))) + x2)) (w32_r _) (xr x0 0) (xt_12_0 h0).2 hr101 M hM) (xsb_s (xsb_n (xsb_s (xsb_s (xsb_n (xsb_s (xsb_n (xsb_s (xsb_s (xsb_n (xsb_s (xsb_n (xsb_s (xsb_n xsb_0)))))))))))))) (by decide) (by decide)
  · refine xg_aload_n dX12_split_231 (Eq.refl 232) rfl ?_
    refine xg_getR (k := 0) xcl12 h0 rfl xq_122 rfl (xt_12_0 h0).1 dX12_split_232 (Eq.refl 235) ?_
    refine xg_bipush dX12_split_235 (Eq.refl 237) (by decide +kernel) ?_
    refine xg_iconst dX12_split_237 (Eq.refl 238) ?_
    refine xg_iload dX12_split_238 (Eq.refl 240) rfl ?_
    refine xg_imul dX12_split_240 (Eq.refl 241) ?_
    refine xg_iadd dX12_split_241 (Eq.refl 242) ?_
    refine xg_iload_n dX12_split_242 (Eq.refl 243) rfl ?_
    refine xg_iadd dX12_split_243 (Eq.refl 244) ?_
    refine xg_lald (xt_12_0 h0).2 dX12_split_244 (Eq.refl 245) ?_
    refine xg_lload_n dX12_split_245 (Eq.refl 246) rfl ?_
    refine xg_lmul dX12_split_246 (Eq.refl 247) ?_
    refine xg_lload dX12_split_247 (Eq.refl 249) rfl ?_
    refine xg_ldiv dX12_split_249 (Eq.refl 250) (w64_r _) h5 ?_
    intro q2
    refine xg_goto (tgt := 267) dX12_split_250 (by decide) ?_
    exact xg_jump (gX12_split_267 hl rc101 x0 h0 x2 h2 x3 h3 x5 h5 x7 h7 x8 h8 y1 hy1 x12 h12 (Int.tdiv (w64 ((M (xr x0 0) (w32 ((w32 (100 + (w32 (4 * x12)))) + x2)).toNat) * x3)) x5) (xtd_r (w64_r _) q2) (w32 ((w32 (100 + (w32 (4 * x12)))) + x2)) (w32_r _) (xr x0 0) (xt_12_0 h0).2 hr101 M hM) (xsb_s (xsb_n (xsb_s (xsb_s (xsb_n (xsb_s (xsb_n (xsb_s (xsb_s (xsb_n (xsb_s (xsb_n (xsb_s (xsb_n xsb_0)))))))))))))) (by decide) (by decide)
theorem gX12_split_177 {l : Launch} {G : xG} (hl : l.stackTraces = false) (rc101 : Int → Int → Int → xM → xO) (x0 : Nat) (h0 : xOb 12 x0) (x2 : Int) (h2 : R32 x2) (x3 : Int) (h3 : R64 x3) (x5 : Int) (h5 : R64 x5) (x7 : Int) (h7 : R32 x7) (x10 : Int) (h10 : R64 x10) (x12 : Int) (h12 : R32 x12) (x13 : Int) (h13 : B01 x13) (s0 : Int) (hs0 : R64 s0) (s1 : Int) (hs1 : R64 s1) (hr101 : ∀ w8 : Int, R64 w8 → ∀ w10 : Int, R64 w10 → ∀ w12 : Int, R32 w12 → ∀ M : xM, xcan M → Gv l G uX12_split 4 3 0 0 101 [some (.ref x0), none, some (iv x2), some (jv x3), none, some (jv x5), none, some (iv x7), some (jv w8), none, some (jv w10), none, some (iv w12), none] [] M (rc101 w8 w10 w12 M)) (M : xM) (hM : xcan M) : Gv l G uX12_split 4 3 0 0 177 [some (.ref x0), none, some (iv x2), some (jv x3), none, some (jv x5), none, some (iv x7), none, none, some (jv x10), none, some (iv x12), some (iv x13)] [jv s0, jv s1] M (fX12_split_177 rc101 x0 x2 x3 x5 x7 x10 x12 x13 s0 s1 M) := by
  unfold fX12_split_177
  refine xg_ladd dX12_split_177 (Eq.refl 178) ?_
  refine xg_lstoreL (P := R64) (ls2 := fun y1 => [some (.ref x0), none, some (iv x2), some (jv x3), none, some (jv x5), none, some (iv x7), some (jv y1), none, some (jv x10), none, some (iv x12), some (iv x13)]) dX12_split_178 (Eq.refl 180) (by decide) (w64_r _) (fun _ => rfl) ?_
  intro y1 hy1
  refine xg_lload dX12_split_180 (Eq.refl 182) rfl ?_
  refine xg_iload dX12_split_182 (Eq.refl 184) rfl ?_
  refine xg_if_eq (tgt := 209) dX12_split_184 (Eq.refl 187) (by decide) (B01.r h13) ?_ ?_
  · refine xg_lconst (z := 0) dX12_split_209 (Eq.refl 210) rfl ?_
    exact xg_jump (gX12_split_210 hl rc101 x0 h0 x2 h2 x3 h3 x5 h5 x7 h7 y1 hy1 x12 h12 x13 h13 0 (by decide) x10 h10 hr101 M hM) (xsb_s (xsb_n (xsb_s (xsb_s (xsb_n (xsb_s (xsb_n (xsb_s (xsb_s (xsb_n (xsb_n (xsb_n (xsb_s (xsb_s xsb_0)))))))))))))) (by decide) (by decide)
  · refine xg_aload_n dX12_split_187 (Eq.refl 188) rfl ?_
    refine xg_getR (k := 0) xcl12 h0 rfl xq_122 rfl (xt_12_0 h0).1 dX12_split_188 (Eq.refl 191) ?_
    refine xg_bipush dX12_split_191 (Eq.refl 193) (by decide +kernel) ?_
    refine xg_iconst dX12_split_193 (Eq.refl 194) ?_
    refine xg_iload dX12_split_194 (Eq.refl 196) rfl ?_
    refine xg_imul dX12_split_196 (Eq.refl 197) ?_
    refine xg_iadd dX12_split_197 (Eq.refl 198) ?_
    refine xg_iload_n dX12_split_198 (Eq.refl 199) rfl ?_
    refine xg_iadd dX12_split_199 (Eq.refl 200) ?_
    refine xg_lald (xt_12_0 h0).2 dX12_split_200 (Eq.refl 201) ?_
    refine xg_lload_n dX12_split_201 (Eq.refl 202) rfl ?_
    refine xg_lmul dX12_split_202 (Eq.refl 203) ?_
    refine xg_lload dX12_split_203 (Eq.refl 205) rfl ?_
    refine xg_ldiv dX12_split_205 (Eq.refl 206) (w64_r _) h5 ?_
    intro q2
    refine xg_goto (tgt := 210) dX12_split_206 (by decide) ?_
    exact xg_jump (gX12_split_210 hl rc101 x0 h0 x2 h2 x3 h3 x5 h5 x7 h7 y1 hy1 x12 h12 x13 h13 (Int.tdiv (w64 ((M (xr x0 0) (w32 ((w32 (100 + (w32 (4 * x12)))) + x2)).toNat) * x3)) x5) (xtd_r (w64_r _) q2) x10 h10 hr101 M hM) (xsb_s (xsb_n (xsb_s (xsb_s (xsb_n (xsb_s (xsb_n (xsb_s (xsb_s (xsb_n (xsb_n (xsb_n (xsb_s (xsb_s xsb_0)))))))))))))) (by decide) (by decide)
theorem gX12_split_150 {l : Launch} {G : xG} (hl : l.stackTraces = false) (rc101 : Int → Int → Int → xM → xO) (x0 : Nat) (h0 : xOb 12 x0) (x2 : Int) (h2 : R32 x2) (x3 : Int) (h3 : R64 x3) (x5 : Int) (h5 : R64 x5) (x7 : Int) (h7 : R32 x7) (x8 : Int) (h8 : R64 x8) (x10 : Int) (h10 : R64 x10) (x12 : Int) (h12 : R32 x12) (s0 : Int) (hs0 : B01 s0) (hr101 : ∀ w8 : Int, R64 w8 → ∀ w10 : Int, R64 w10 → ∀ w12 : Int, R32 w12 → ∀ M : xM, xcan M → Gv l G uX12_split 4 3 0 0 101 [some (.ref x0), none, some (iv x2), some (jv x3), none, some (jv x5), none, some (iv x7), some (jv w8), none, some (jv w10), none, some (iv w12), none] [] M (rc101 w8 w10 w12 M)) (M : xM) (hM : xcan M) : Gv l G uX12_split 4 3 0 0 150 [some (.ref x0), none, some (iv x2), some (jv x3), none, some (jv x5), none, some (iv x7), some (jv x8), none, some (jv x10), none, some (iv x12), none] [iv s0] M (fX12_split_150 rc101 x0 x2 x3 x5 x7 x8 x10 x12 s0 M) := by
  unfold fX12_split_150
  refine xg_istore (ls2 := [some (.ref x0), none, some (iv x2), some (jv x3), none, some (jv x5), none, some (iv x7), some (jv x8), none, some (jv x10), none, some (iv x12), some (iv s0)]) dX12_split_150 (Eq.refl 152) (by decide) rfl ?_
  refine xg_lload dX12_split_152 (Eq.refl 154) rfl ?_
  refine xg_iload dX12_split_154 (Eq.refl 156) rfl ?_
  refine xg_if_eq (tgt := 176) dX12_split_156 (Eq.refl 159) (by decide) (B01.r hs0) ?_ ?_
  · refine xg_lconst (z := 0) dX12_split_176 (Eq.refl 177) rfl ?_
    exact xg_jump (gX12_split_177 hl rc101 x0 h0 x2 h2 x3 h3 x5 h5 x7 h7 x10 h10 x12 h12 s0 hs0 0 (by decide) x8 h8 hr101 M hM) (xsb_s (xsb_n (xsb_s (xsb_s (xsb_n (xsb_s (xsb_n (xsb_s (xsb_n (xsb_n (xsb_s (xsb_n (xsb_s (xsb_s xsb_0)))))))))))))) (by decide) (by decide)
  · refine xg_aload_n dX12_split_159 (Eq.refl 160) rfl ?_
    refine xg_getR (k := 0) xcl12 h0 rfl xq_122 rfl (xt_12_0 h0).1 dX12_split_160 (Eq.refl 163) ?_
    refine xg_bipush dX12_split_163 (Eq.refl 165) (by decide +kernel) ?_
    refine xg_iconst dX12_split_165 (Eq.refl 166) ?_
    refine xg_iload dX12_split_166 (Eq.refl 168) rfl ?_
    refine xg_imul dX12_split_168 (Eq.refl 169) ?_
    refine xg_iadd dX12_split_169 (Eq.refl 170) ?_
    refine xg_iload_n dX12_split_170 (Eq.refl 171) rfl ?_
    refine xg_iadd dX12_split_171 (Eq.refl 172) ?_
    refine xg_lald (xt_12_0 h0).2 dX12_split_172 (Eq.refl 173) ?_
    refine xg_goto (tgt := 177) dX12_split_173 (by decide) ?_
    exact xg_jump (gX12_split_177 hl rc101 x0 h0 x2 h2 x3 h3 x5 h5 x7 h7 x10 h10 x12 h12 s0 hs0 (M (xr x0 0) (w32 ((w32 (100 + (w32 (4 * x12)))) + x2)).toNat) (hM.aj (xt_12_0 h0).2) x8 h8 hr101 M hM) (xsb_s (xsb_n (xsb_s (xsb_s (xsb_n (xsb_s (xsb_n (xsb_s (xsb_n (xsb_n (xsb_s (xsb_n (xsb_s (xsb_s xsb_0)))))))))))))) (by decide) (by decide)
theorem gX12_split_149 {l : Launch} {G : xG} (hl : l.stackTraces = false) (rc101 : Int → Int → Int → xM → xO) (x0 : Nat) (h0 : xOb 12 x0) (x2 : Int) (h2 : R32 x2) (x3 : Int) (h3 : R64 x3) (x5 : Int) (h5 : R64 x5) (x7 : Int) (h7 : R32 x7) (x8 : Int) (h8 : R64 x8) (x10 : Int) (h10 : R64 x10) (x12 : Int) (h12 : R32 x12) (hr101 : ∀ w8 : Int, R64 w8 → ∀ w10 : Int, R64 w10 → ∀ w12 : Int, R32 w12 → ∀ M : xM, xcan M → Gv l G uX12_split 4 3 0 0 101 [some (.ref x0), none, some (iv x2), some (jv x3), none, some (jv x5), none, some (iv x7), some (jv w8), none, some (jv w10), none, some (iv w12), none] [] M (rc101 w8 w10 w12 M)) (M : xM) (hM : xcan M) : Gv l G uX12_split 4 3 0 0 149 [some (.ref x0), none, some (iv x2), some (jv x3), none, some (jv x5), none, some (iv x7), some (jv x8), none, some (jv x10), none, some (iv x12), none] [] M (fX12_split_149 rc101 x0 x2 x3 x5 x7 x8 x10 x12 M) := by
  unfold fX12_split_149
  refine xg_iconst dX12_split_149 (Eq.refl 150) ?_
  exact xg_jump (gX12_split_150 hl rc101 x0 h0 x2 h2 x3 h3 x5 h5 x7 h7 x8 h8 x10 h10 x12 h12 0 (by decide) hr101 M hM) (xsb_s (xsb_n (xsb_s (xsb_s (xsb_n (xsb_s (xsb_n (xsb_s (xsb_s (xsb_n (xsb_s (xsb_n (xsb_s (xsb_n xsb_0)))))))))))))) (by decide) (by decide)
theorem gX12_split_101 {l : Launch} {G : xG} (hl : l.stackTraces = false) (rc49 : Int → xM → xO) (x0 : Nat) (h0 : xOb 12 x0) (x2 : Int) (h2 : R32 x2) (x3 : Int) (h3 : R64 x3) (x5 : Int) (h5 : R64 x5) (x7 : Int) (h7 : R32 x7) (hr49 : ∀ w7 : Int, R32 w7 → ∀ M : xM, xcan M → Gv l G uX12_split 4 3 0 0 49 [some (.ref x0), none, some (iv x2), some (jv x3), none, some (jv x5), none, some (iv w7), none, none, none, none, none, none] [] M (rc49 w7 M)) : ∀ (n : Nat) (x8 : Int) (_ : R64 x8) (x10 : Int) (_ : R64 x10) (x12 : Int) (_ : R32 x12) (M : xM) (_ : xcan M), Gv l G uX12_split 4 3 0 0 101 [some (.ref x0), none, some (iv x2), some (jv x3), none, some (jv x5), none, some (iv x7), some (jv x8), none, some (jv x10), none, some (iv x12), none] [] M (fX12_split_101 rc49 x0 x2 x3 x5 x7 n x8 x10 x12 M) := by
  intro n; induction n with
  | zero => intro x8 h8 x10 h10 x12 h12 M hM; exact xg_none
  | succ n ih =>
    intro x8 h8 x10 h10 x12 h12 M hM
    rw [fX12_split_101]
    refine xg_iload dX12_split_101 (Eq.refl 103) rfl ?_
    refine xg_i2l dX12_split_103 (Eq.refl 104) h12 ?_
    refine xg_aload_n dX12_split_104 (Eq.refl 105) rfl ?_
    refine xg_getR (k := 0) xcl12 h0 rfl xq_122 rfl (xt_12_0 h0).1 dX12_split_105 (Eq.refl 108) ?_
    refine xg_sipush dX12_split_108 (Eq.refl 111) (by decide +kernel) ?_
    refine xg_laldk (k := 1540) (xt_12_0 h0).2 dX12_split_111 (Eq.refl 112) rfl (by decide) ?_
    refine xg_lif_ge (tgt := 274) dX12_split_112 (Eq.refl 113) dX12_split_113 (Eq.refl 116) (by decide) (R32.j h12) (hM.aj (xt_12_0 h0).2) ?_ ?_
    · refine xg_aload_n dX12_split_274 (Eq.refl 275) rfl ?_
      refine xg_getR (k := 0) xcl12 h0 rfl xq_122 rfl (xt_12_0 h0).1 dX12_split_275 (Eq.refl 278) ?_
      refine xg_bipush dX12_split_278 (Eq.refl 280) (by decide +kernel) ?_
      refine xg_iconst dX12_split_280 (Eq.refl 281) ?_
      refine xg_iload dX12_split_281 (Eq.refl 283) rfl ?_
      refine xg_imul dX12_split_283 (Eq.refl 284) ?_
      refine xg_iadd dX12_split_284 (Eq.refl 285) ?_
      refine xg_iload_n dX12_split_285 (Eq.refl 286) rfl ?_
      refine xg_iadd dX12_split_286 (Eq.refl 287) ?_
      refine xg_lload dX12_split_287 (Eq.refl 289) rfl ?_
      refine xg_lload_n dX12_split_289 (Eq.refl 290) rfl ?_
      refine xg_lmul dX12_split_290 (Eq.refl 291) ?_
      refine xg_lload dX12_split_291 (Eq.refl 293) rfl ?_
      refine xg_ldiv dX12_split_293 (Eq.refl 294) (w64_r _) h5 ?_
      intro q1
      refine xg_lload dX12_split_294 (Eq.refl 296) rfl ?_
      refine xg_lsub dX12_split_296 (Eq.refl 297) ?_
      refine xg_last (xt_12_0 h0).2 dX12_split_297 (Eq.refl 298) hM (w64_r _) ?_
      intro M2 hM2
      refine xg_aload_n dX12_split_298 (Eq.refl 299) rfl ?_
      refine xg_getR (k := 0) xcl12 h0 rfl xq_122 rfl (xt_12_0 h0).1 dX12_split_299 (Eq.refl 302) ?_
      refine xg_sipush dX12_split_302 (Eq.refl 305) (by decide +kernel) ?_
      refine xg_iload_n dX12_split_305 (Eq.refl 306) rfl ?_
      refine xg_iadd dX12_split_306 (Eq.refl 307) ?_
      refine xg_dup2 dX12_split_307 (Eq.refl 308) rfl rfl ?_
      refine xg_lald (xt_12_0 h0).2 dX12_split_308 (Eq.refl 309) ?_
      refine xg_lload dX12_split_309 (Eq.refl 311) rfl ?_
      refine xg_lload_n dX12_split_311 (Eq.refl 312) rfl ?_
      refine xg_lmul dX12_split_312 (Eq.refl 313) ?_
      refine xg_lload dX12_split_313 (Eq.refl 315) rfl ?_
      refine xg_ldiv dX12_split_315 (Eq.refl 316) (w64_r _) h5 ?_
      intro q3
      refine xg_ladd dX12_split_316 (Eq.refl 317) ?_
      refine xg_last (xt_12_0 h0).2 dX12_split_317 (Eq.refl 318) hM2 (w64_r _) ?_
      intro M4 hM4
      exact xg_jump (gX12_split_318 hl rc49 x0 h0 x2 h2 x3 h3 x5 h5 x7 h7 hr49 M4 hM4) (xsb_s (xsb_n (xsb_s (xsb_s (xsb_n (xsb_s (xsb_n (xsb_s (xsb_n (xsb_n (xsb_n (xsb_n (xsb_n (xsb_n xsb_0)))))))))))))) (by decide) (by decide)
    · refine xg_aload_n dX12_split_116 (Eq.refl 117) rfl ?_
      refine xg_getR (k := 0) xcl12 h0 rfl xq_122 rfl (xt_12_0 h0).1 dX12_split_117 (Eq.refl 120) ?_
      refine xg_iload dX12_split_120 (Eq.refl 122) rfl ?_
      refine xg_lald (xt_12_0 h0).2 dX12_split_122 (Eq.refl 123) ?_
      refine xg_iload dX12_split_123 (Eq.refl 125) rfl ?_
      refine xg_i2l dX12_split_125 (Eq.refl 126) h7 ?_
      refine xg_lif_ne (tgt := 149) dX12_split_126 (Eq.refl 127) dX12_split_127 (Eq.refl 130) (by decide) (hM.aj (xt_12_0 h0).2) (R32.j h7) ?_ ?_
      · refine xg_aload_n dX12_split_130 (Eq.refl 131) rfl ?_
        refine xg_getR (k := 0) xcl12 h0 rfl xq_122 rfl (xt_12_0 h0).1 dX12_split_131 (Eq.refl 134) ?_
        refine xg_bipush dX12_split_134 (Eq.refl 136) (by decide +kernel) ?_
        refine xg_iload dX12_split_136 (Eq.refl 138) rfl ?_
        refine xg_iadd dX12_split_138 (Eq.refl 139) ?_
        refine xg_lald (xt_12_0 h0).2 dX12_split_139 (Eq.refl 140) ?_
        refine xg_lconst (z := 1) dX12_split_140 (Eq.refl 141) rfl ?_
        refine xg_lif_ne (tgt := 149) dX12_split_141 (Eq.refl 142) dX12_split_142 (Eq.refl 145) (by decide) (hM.aj (xt_12_0 h0).2) (by decide) ?_ ?_
        · refine xg_iconst dX12_split_145 (Eq.refl 146) ?_
          refine xg_goto (tgt := 150) dX12_split_146 (by decide) ?_
          exact xg_jump (gX12_split_150 hl (fX12_split_101 rc49 x0 x2 x3 x5 x7 n) x0 h0 x2 h2 x3 h3 x5 h5 x7 h7 x8 h8 x10 h10 x12 h12 1 (by decide) ih M hM) (xsb_s (xsb_n (xsb_s (xsb_s (xsb_n (xsb_s (xsb_n (xsb_s (xsb_s (xsb_n (xsb_s (xsb_n (xsb_s (xsb_n xsb_0)))))))))))))) (by decide) (by decide)
        · exact xg_jump (gX12_split_149 hl (fX12_split_101 rc49 x0 x2 x3 x5 x7 n) x0 h0 x2 h2 x3 h3 x5 h5 x7 h7 x8 h8 x10 h10 x12 h12 ih M hM) (xsb_s (xsb_n (xsb_s (xsb_s (xsb_n (xsb_s (xsb_n (xsb_s (xsb_s (xsb_n (xsb_s (xsb_n (xsb_s (xsb_n xsb_0)))))))))))))) (by decide) (by decide)
      · exact xg_jump (gX12_split_149 hl (fX12_split_101 rc49 x0 x2 x3 x5 x7 n) x0 h0 x2 h2 x3 h3 x5 h5 x7 h7 x8 h8 x10 h10 x12 h12 ih M hM) (xsb_s (xsb_n (xsb_s (xsb_s (xsb_n (xsb_s (xsb_n (xsb_s (xsb_s (xsb_n (xsb_s (xsb_n (xsb_s (xsb_n xsb_0)))))))))))))) (by decide) (by decide)
theorem gX12_split_49 {l : Launch} {G : xG} (hl : l.stackTraces = false) (x0 : Nat) (h0 : xOb 12 x0) (x2 : Int) (h2 : R32 x2) (x3 : Int) (h3 : R64 x3) (x5 : Int) (h5 : R64 x5) : ∀ (n : Nat) (x7 : Int) (_ : R32 x7) (M : xM) (_ : xcan M), Gv l G uX12_split 4 3 0 0 49 [some (.ref x0), none, some (iv x2), some (jv x3), none, some (jv x5), none, some (iv x7), none, none, none, none, none, none] [] M (fX12_split_49 x0 x2 x3 x5 n x7 M) := by
  intro n; induction n with
  | zero => intro x7 h7 M hM; exact xg_none
  | succ n ih =>
    intro x7 h7 M hM
    rw [fX12_split_49]
    refine xg_iload dX12_split_49 (Eq.refl 51) rfl ?_
    refine xg_i2l dX12_split_51 (Eq.refl 52) h7 ?_
    refine xg_aload_n dX12_split_52 (Eq.refl 53) rfl ?_
    refine xg_getR (k := 0) xcl12 h0 rfl xq_122 rfl (xt_12_0 h0).1 dX12_split_53 (Eq.refl 56) ?_
    refine xg_sipush dX12_split_56 (Eq.refl 59) (by decide +kernel) ?_
    refine xg_laldk (k := 1540) (xt_12_0 h0).2 dX12_split_59 (Eq.refl 60) rfl (by decide) ?_
    refine xg_lif_ge (tgt := 359) dX12_split_60 (Eq.refl 61) dX12_split_61 (Eq.refl 64) (by decide) (R32.j h7) (hM.aj (xt_12_0 h0).2) ?_ ?_
    · refine xg_iconst dX12_split_359 (Eq.refl 360) ?_
      refine xg_istore (ls2 := [some (.ref x0), none, some (iv x2), some (jv x3), none, some (jv x5), none, some (iv 0), none, none, none, none, none, none]) dX12_split_360 (Eq.refl 362) (by decide) rfl ?_
      exact xg_jump (gX12_split_362 hl x0 h0 x2 h2 x3 h3 x5 h5 xN 0 (by decide) M hM) (xsb_s (xsb_n (xsb_s (xsb_s (xsb_n (xsb_s (xsb_n (xsb_s (xsb_n (xsb_n (xsb_n (xsb_n (xsb_n (xsb_n xsb_0)))))))))))))) (by decide) (by decide)
    · refine xg_aload_n dX12_split_64 (Eq.refl 65) rfl ?_
      refine xg_getR (k := 0) xcl12 h0 rfl xq_122 rfl (xt_12_0 h0).1 dX12_split_65 (Eq.refl 68) ?_
      refine xg_bipush dX12_split_68 (Eq.refl 70) (by decide +kernel) ?_
      refine xg_iload dX12_split_70 (Eq.refl 72) rfl ?_
      refine xg_iadd dX12_split_72 (Eq.refl 73) ?_
      refine xg_lald (xt_12_0 h0).2 dX12_split_73 (Eq.refl 74) ?_
      refine xg_lconst (z := 0) dX12_split_74 (Eq.refl 75) rfl ?_
      refine xg_lif_ne (tgt := 318) dX12_split_75 (Eq.refl 76) dX12_split_76 (Eq.refl 79) (by decide) (hM.aj (xt_12_0 h0).2) (by decide) ?_ ?_
      · refine xg_aload_n dX12_split_79 (Eq.refl 80) rfl ?_
        refine xg_getR (k := 0) xcl12 h0 rfl xq_122 rfl (xt_12_0 h0).1 dX12_split_80 (Eq.refl 83) ?_
        refine xg_bipush dX12_split_83 (Eq.refl 85) (by decide +kernel) ?_
        refine xg_iconst dX12_split_85 (Eq.refl 86) ?_
        refine xg_iload dX12_split_86 (Eq.refl 88) rfl ?_
        refine xg_imul dX12_split_88 (Eq.refl 89) ?_
        refine xg_iadd dX12_split_89 (Eq.refl 90) ?_
        refine xg_iload_n dX12_split_90 (Eq.refl 91) rfl ?_
        refine xg_iadd dX12_split_91 (Eq.refl 92) ?_
        refine xg_lald (xt_12_0 h0).2 dX12_split_92 (Eq.refl 93) ?_
        refine xg_lstoreL (P := R64) (ls2 := fun y1 => [some (.ref x0), none, some (iv x2), some (jv x3), none, some (jv x5), none, some (iv x7), some (jv y1), none, none, none, none, none]) dX12_split_93 (Eq.refl 95) (by decide) (hM.aj (xt_12_0 h0).2) (fun _ => rfl) ?_
        intro y1 hy1
        refine xg_lconst (z := 0) dX12_split_95 (Eq.refl 96) rfl ?_
        refine xg_lstore (ls2 := [some (.ref x0), none, some (iv x2), some (jv x3), none, some (jv x5), none, some (iv x7), some (jv y1), none, some (jv 0), none, none, none]) dX12_split_96 (Eq.refl 98) (by decide) rfl ?_
        refine xg_iconst dX12_split_98 (Eq.refl 99) ?_
        refine xg_istore (ls2 := [some (.ref x0), none, some (iv x2), some (jv x3), none, some (jv x5), none, some (iv x7), some (jv y1), none, some (jv 0), none, some (iv 0), none]) dX12_split_99 (Eq.refl 101) (by decide) rfl ?_
        exact xg_jump (gX12_split_101 hl (fX12_split_49 x0 x2 x3 x5 n) x0 h0 x2 h2 x3 h3 x5 h5 x7 h7 ih xN y1 hy1 0 (by decide) 0 (by decide) M hM) (xsb_s (xsb_n (xsb_s (xsb_s (xsb_n (xsb_s (xsb_n (xsb_s (xsb_s (xsb_n (xsb_s (xsb_n (xsb_s (xsb_n xsb_0)))))))))))))) (by decide) (by decide)
      · exact xg_jump (gX12_split_318 hl (fX12_split_49 x0 x2 x3 x5 n) x0 h0 x2 h2 x3 h3 x5 h5 x7 h7 ih M hM) (xsb_s (xsb_n (xsb_s (xsb_s (xsb_n (xsb_s (xsb_n (xsb_s (xsb_n (xsb_n (xsb_n (xsb_n (xsb_n (xsb_n xsb_0)))))))))))))) (by decide) (by decide)
theorem mX12_split {l : Launch} {G : xG} (hl : l.stackTraces = false) (x0 : Nat) (h0 : xOb 12 x0) (x1 : Int) (h1 : R32 x1) (M : xM) (hM : xcan M) : Cm l G yX12_split cX12_split 14 none 4 3 0 0 [.ref x0, iv x1] M (fX12_split x0 x1 M) := by
  refine xcm_of (u := uX12_split) (ls := [some (.ref x0), some (iv x1), none, none, none, none, none, none, none, none, none, none, none, none]) 12 hl rfl (by decide +kernel) (Nat.le_of_ble_eq_true rfl) rfl ?_
  unfold fX12_split
  refine xg_aload_n dX12_split_0 (Eq.refl 1) rfl ?_
  refine xg_getR (k := 0) xcl12 h0 rfl xq_122 rfl (xt_12_0 h0).1 dX12_split_1 (Eq.refl 4) ?_
  refine xg_sipush dX12_split_4 (Eq.refl 7) (by decide +kernel) ?_
  refine xg_iload_n dX12_split_7 (Eq.refl 8) rfl ?_
  refine xg_iadd dX12_split_8 (Eq.refl 9) ?_
  refine xg_lald (xt_12_0 h0).2 dX12_split_9 (Eq.refl 10) ?_
  refine xg_l2i dX12_split_10 (Eq.refl 11) ?_
  refine xg_istore_nL (P := R32) (ls2 := fun y1 => [some (.ref x0), some (iv x1), some (iv y1), none, none, none, none, none, none, none, none, none, none, none]) dX12_split_11 (Eq.refl 12) (by decide) (w32_r _) (fun _ => rfl) ?_
  intro y1 hy1
  refine xg_aload_n dX12_split_12 (Eq.refl 13) rfl ?_
  refine xg_getR (k := 0) xcl12 h0 rfl xq_122 rfl (xt_12_0 h0).1 dX12_split_13 (Eq.refl 16) ?_
  refine xg_sipush dX12_split_16 (Eq.refl 19) (by decide +kernel) ?_
  refine xg_iload_n dX12_split_19 (Eq.refl 20) rfl ?_
  refine xg_iadd dX12_split_20 (Eq.refl 21) ?_
  refine xg_lald (xt_12_0 h0).2 dX12_split_21 (Eq.refl 22) ?_
  refine xg_lstore_nL (P := R64) (ls2 := fun y2 => [some (.ref x0), some (iv x1), some (iv y1), some (jv y2), none, none, none, none, none, none, none, none, none, none]) dX12_split_22 (Eq.refl 23) (by decide) (hM.aj (xt_12_0 h0).2) (fun _ => rfl) ?_
  intro y2 hy2
  refine xg_aload_n dX12_split_23 (Eq.refl 24) rfl ?_
  refine xg_getR (k := 0) xcl12 h0 rfl xq_122 rfl (xt_12_0 h0).1 dX12_split_24 (Eq.refl 27) ?_
  refine xg_sipush dX12_split_27 (Eq.refl 30) (by decide +kernel) ?_
  refine xg_iload_n dX12_split_30 (Eq.refl 31) rfl ?_
  refine xg_iadd dX12_split_31 (Eq.refl 32) ?_
  refine xg_lald (xt_12_0 h0).2 dX12_split_32 (Eq.refl 33) ?_
  refine xg_lstoreL (P := R64) (ls2 := fun y3 => [some (.ref x0), some (iv x1), some (iv y1), some (jv y2), none, some (jv y3), none, none, none, none, none, none, none, none]) dX12_split_33 (Eq.refl 35) (by decide) (hM.aj (xt_12_0 h0).2) (fun _ => rfl) ?_
  intro y3 hy3
  refine xg_aload_n dX12_split_35 (Eq.refl 36) rfl ?_
  refine xg_getR (k := 0) xcl12 h0 rfl xq_122 rfl (xt_12_0 h0).1 dX12_split_36 (Eq.refl 39) ?_
  refine xg_sipush dX12_split_39 (Eq.refl 42) (by decide +kernel) ?_
  refine xg_iload_n dX12_split_42 (Eq.refl 43) rfl ?_
  refine xg_iadd dX12_split_43 (Eq.refl 44) ?_
  refine xg_lconst (z := 0) dX12_split_44 (Eq.refl 45) rfl ?_
  refine xg_last (xt_12_0 h0).2 dX12_split_45 (Eq.refl 46) hM (by decide) ?_
  intro M4 hM4
  refine xg_iconst dX12_split_46 (Eq.refl 47) ?_
  refine xg_istore (ls2 := [some (.ref x0), some (iv x1), some (iv y1), some (jv y2), none, some (jv y3), none, some (iv 0), none, none, none, none, none, none]) dX12_split_47 (Eq.refl 49) (by decide) rfl ?_
  exact xg_jump (gX12_split_49 hl x0 h0 y1 hy1 y2 hy2 y3 hy3 xN 0 (by decide) M4 hM4) (xsb_s (xsb_n (xsb_s (xsb_s (xsb_n (xsb_s (xsb_n (xsb_s (xsb_n (xsb_n (xsb_n (xsb_n (xsb_n (xsb_n xsb_0)))))))))))))) (by decide) (by decide)
abbrev uX12_pay : xU := (RX12, cX12_pay, 3, none, [], "pay")
theorem bX12_pay : xYV yX12_pay cX12_pay 3 none 1 := ⟨xq_1113, xq_1114, xq_5, xq_1115, ⟨by decide +kernel, by decide +kernel, by decide +kernel⟩, by decide⟩
theorem gX12_pay_62 {l : Launch} {G : xG} (hl : l.stackTraces = false) (x0 : Nat) (h0 : xOb 12 x0) (x1 : Int) (h1 : R32 x1) : ∀ (n : Nat) (x2 : Int) (_ : R32 x2) (M : xM) (_ : xcan M), Gv l G uX12_pay 5 3 0 0 62 [some (.ref x0), some (iv x1), some (iv x2)] [] M (fX12_pay_62 x0 x1 n x2 M) := by
  intro n; induction n with
  | zero => intro x2 h2 M hM; exact xg_none
  | succ n ih =>
    intro x2 h2 M hM
    rw [fX12_pay_62]
    refine xg_iload_n dX12_pay_62 (Eq.refl 63) rfl ?_
    refine xg_i2l dX12_pay_63 (Eq.refl 64) h2 ?_
    refine xg_aload_n dX12_pay_64 (Eq.refl 65) rfl ?_
    refine xg_getR (k := 0) xcl12 h0 rfl xq_122 rfl (xt_12_0 h0).1 dX12_pay_65 (Eq.refl 68) ?_
    refine xg_sipush dX12_pay_68 (Eq.refl 71) (by decide +kernel) ?_
    refine xg_laldk (k := 1543) (xt_12_0 h0).2 dX12_pay_71 (Eq.refl 72) rfl (by decide) ?_
    refine xg_lif_ge (tgt := 123) dX12_pay_72 (Eq.refl 73) dX12_pay_73 (Eq.refl 76) (by decide) (R32.j h2) (hM.aj (xt_12_0 h0).2) ?_ ?_
    · exact xg_vret rfl dX12_pay_123 rfl hM
    · refine xg_aload_n dX12_pay_76 (Eq.refl 77) rfl ?_
      refine xg_aload_n dX12_pay_77 (Eq.refl 78) rfl ?_
      refine xg_iload_n dX12_pay_78 (Eq.refl 79) rfl ?_
      refine xg_callV_I (kc := 0) (ks := 0) (st := [.ref x0]) (mX12_deliverer hl x0 h0 x2 h2 M hM) bX12_deliverer xcl12 h0 rfl xq_493 rfl (by decide) rfl (Nat.le_of_ble_eq_true rfl) dX12_pay_79 (Eq.refl 82) rfl (by decide) (by decide) ?_
      intro z1 M2 hz1 hM2
      refine xg_aload_n dX12_pay_82 (Eq.refl 83) rfl ?_
      refine xg_iload_n dX12_pay_83 (Eq.refl 84) rfl ?_
      refine xg_callV_I (kc := 0) (ks := 0) (st := [iv z1, .ref x0]) (mX12_receiver hl x0 h0 x2 h2 M2 hM2) bX12_receiver xcl12 h0 rfl xq_497 rfl (by decide) rfl (Nat.le_of_ble_eq_true rfl) dX12_pay_84 (Eq.refl 87) rfl (by decide) (by decide) ?_
      intro z3 M4 hz3 hM4
      refine xg_aload_n dX12_pay_87 (Eq.refl 88) rfl ?_
      refine xg_getR (k := 0) xcl12 h0 rfl xq_122 rfl (xt_12_0 h0).1 dX12_pay_88 (Eq.refl 91) ?_
      refine xg_sipush dX12_pay_91 (Eq.refl 94) (by decide +kernel) ?_
      refine xg_bipush dX12_pay_94 (Eq.refl 96) (by decide +kernel) ?_
      refine xg_iload_n dX12_pay_96 (Eq.refl 97) rfl ?_
      refine xg_imul dX12_pay_97 (Eq.refl 98) ?_
      refine xg_iadd dX12_pay_98 (Eq.refl 99) ?_
      refine xg_iload_n dX12_pay_99 (Eq.refl 100) rfl ?_
      refine xg_iadd dX12_pay_100 (Eq.refl 101) ?_
      refine xg_lald (xt_12_0 h0).2 dX12_pay_101 (Eq.refl 102) ?_
      refine xg_aload_n dX12_pay_102 (Eq.refl 103) rfl ?_
      refine xg_getR (k := 0) xcl12 h0 rfl xq_122 rfl (xt_12_0 h0).1 dX12_pay_103 (Eq.refl 106) ?_
      refine xg_sipush dX12_pay_106 (Eq.refl 109) (by decide +kernel) ?_
      refine xg_iload_n dX12_pay_109 (Eq.refl 110) rfl ?_
      refine xg_iadd dX12_pay_110 (Eq.refl 111) ?_
      refine xg_lald (xt_12_0 h0).2 dX12_pay_111 (Eq.refl 112) ?_
      refine xg_lmul dX12_pay_112 (Eq.refl 113) ?_
      refine xg_callV_I (kc := 0) (ks := 0) (st := []) (mX12_owes hl x0 h0 z1 hz1 z3 hz3 (w64 ((M4 (xr x0 0) (w32 ((w32 (1340 + (w32 (20 * x1)))) + x2)).toNat) * (M4 (xr x0 0) (w32 (1070 + x1)).toNat))) (w64_r _) M4 hM4) bX12_owes xcl12 h0 rfl xq_1133 rfl (by decide) rfl (by decide) dX12_pay_113 (Eq.refl 116) rfl (by decide) (by decide) ?_
      intro z5 M6 hz5 hM6
      refine xg_pop dX12_pay_116 (Eq.refl 117) rfl ?_
      refine xg_iinc (ls2 := [some (.ref x0), some (iv x1), some (iv (w32 (x2 + 1)))]) dX12_pay_117 (Eq.refl 120) rfl (by decide) rfl ?_
      refine xg_goto (tgt := 62) dX12_pay_120 (by decide) ?_
      exact xg_jump (ih (w32 (x2 + 1)) (w32_r _) M6 hM6) (xsb_s (xsb_s (xsb_s xsb_0))) (by decide) (by decide)
theorem gX12_pay_60 {l : Launch} {G : xG} (hl : l.stackTraces = false) (x0 : Nat) (h0 : xOb 12 x0) (x1 : Int) (h1 : R32 x1) (M : xM) (hM : xcan M) : Gv l G uX12_pay 5 3 0 0 60 [some (.ref x0), some (iv x1), none] [] M (fX12_pay_60 x0 x1 M) := by
  unfold fX12_pay_60
  refine xg_iconst dX12_pay_60 (Eq.refl 61) ?_
  refine xg_istore_n (ls2 := [some (.ref x0), some (iv x1), some (iv 0)]) dX12_pay_61 (Eq.refl 62) (by decide) rfl ?_
  exact xg_jump (gX12_pay_62 hl x0 h0 x1 h1 xN 0 (by decide) M hM) (xsb_s (xsb_s (xsb_s xsb_0))) (by decide) (by decide)
theorem mX12_pay {l : Launch} {G : xG} (hl : l.stackTraces = false) (x0 : Nat) (h0 : xOb 12 x0) (x1 : Int) (h1 : R32 x1) (M : xM) (hM : xcan M) : Cm l G yX12_pay cX12_pay 3 none 5 3 0 0 [.ref x0, iv x1] M (fX12_pay x0 x1 M) := by
  refine xcm_of (u := uX12_pay) (ls := [some (.ref x0), some (iv x1), none]) 1 hl rfl (by decide +kernel) (Nat.le_of_ble_eq_true rfl) rfl ?_
  unfold fX12_pay
  refine xg_aload_n dX12_pay_0 (Eq.refl 1) rfl ?_
  refine xg_getR (k := 0) xcl12 h0 rfl xq_122 rfl (xt_12_0 h0).1 dX12_pay_1 (Eq.refl 4) ?_
  refine xg_sipush dX12_pay_4 (Eq.refl 7) (by decide +kernel) ?_
  refine xg_iload_n dX12_pay_7 (Eq.refl 8) rfl ?_
  refine xg_iadd dX12_pay_8 (Eq.refl 9) ?_
  refine xg_lconst (z := 1) dX12_pay_9 (Eq.refl 10) rfl ?_
  refine xg_last (xt_12_0 h0).2 dX12_pay_10 (Eq.refl 11) hM (by decide) ?_
  intro M1 hM1
  refine xg_aload_n dX12_pay_11 (Eq.refl 12) rfl ?_
  refine xg_getR (k := 0) xcl12 h0 rfl xq_122 rfl (xt_12_0 h0).1 dX12_pay_12 (Eq.refl 15) ?_
  refine xg_sipush dX12_pay_15 (Eq.refl 18) (by decide +kernel) ?_
  refine xg_iload_n dX12_pay_18 (Eq.refl 19) rfl ?_
  refine xg_iadd dX12_pay_19 (Eq.refl 20) ?_
  refine xg_lald (xt_12_0 h0).2 dX12_pay_20 (Eq.refl 21) ?_
  refine xg_lconst (z := 1) dX12_pay_21 (Eq.refl 22) rfl ?_
  refine xg_lif_ne (tgt := 32) dX12_pay_22 (Eq.refl 23) dX12_pay_23 (Eq.refl 26) (by decide) (hM1.aj (xt_12_0 h0).2) (by decide) ?_ ?_
  · refine xg_aload_n dX12_pay_26 (Eq.refl 27) rfl ?_
    refine xg_iload_n dX12_pay_27 (Eq.refl 28) rfl ?_
    refine xg_callV_N (kc := 0) (ks := 0) (st := []) (mX12_split hl x0 h0 x1 h1 M1 hM1) bX12_split xcl12 h0 rfl xq_1116 rfl (by decide) rfl (by decide) dX12_pay_28 (Eq.refl 31) rfl (by decide) (by decide) ?_
    intro z2 M3 hz2 hM3
    exact xg_vret rfl dX12_pay_31 rfl hM3
  · refine xg_aload_n dX12_pay_32 (Eq.refl 33) rfl ?_
    refine xg_getR (k := 0) xcl12 h0 rfl xq_122 rfl (xt_12_0 h0).1 dX12_pay_33 (Eq.refl 36) ?_
    refine xg_sipush dX12_pay_36 (Eq.refl 39) (by decide +kernel) ?_
    refine xg_iload_n dX12_pay_39 (Eq.refl 40) rfl ?_
    refine xg_iadd dX12_pay_40 (Eq.refl 41) ?_
    refine xg_lald (xt_12_0 h0).2 dX12_pay_41 (Eq.refl 42) ?_
    refine xg_lconst (z := 0) dX12_pay_42 (Eq.refl 43) rfl ?_
    refine xg_lif_ne (tgt := 55) dX12_pay_43 (Eq.refl 44) dX12_pay_44 (Eq.refl 47) (by decide) (hM1.aj (xt_12_0 h0).2) (by decide) ?_ ?_
    · refine xg_aload_n dX12_pay_47 (Eq.refl 48) rfl ?_
      refine xg_iload_n dX12_pay_48 (Eq.refl 49) rfl ?_
      refine xg_callV_N (kc := 0) (ks := 0) (st := []) (mX12_dividend hl x0 h0 x1 h1 M1 hM1) bX12_dividend xcl12 h0 rfl xq_1120 rfl (by decide) rfl (by decide) dX12_pay_49 (Eq.refl 52) rfl (by decide) (by decide) ?_
      intro z4 M5 hz4 hM5
      refine xg_goto (tgt := 60) dX12_pay_52 (by decide) ?_
      exact xg_jump (gX12_pay_60 hl x0 h0 x1 h1 M5 hM5) (xsb_s (xsb_s (xsb_n xsb_0))) (by decide) (by decide)
    · refine xg_aload_n dX12_pay_55 (Eq.refl 56) rfl ?_
      refine xg_iload_n dX12_pay_56 (Eq.refl 57) rfl ?_
      refine xg_callV_N (kc := 0) (ks := 0) (st := []) (mX12_option hl x0 h0 x1 h1 M1 hM1) bX12_option xcl12 h0 rfl xq_1129 rfl (by decide) rfl (by decide) dX12_pay_57 (Eq.refl 60) rfl (by decide) (by decide) ?_
      intro z6 M7 hz6 hM7
      exact xg_jump (gX12_pay_60 hl x0 h0 x1 h1 M7 hM7) (xsb_s (xsb_s (xsb_n xsb_0))) (by decide) (by decide)
abbrev uX12_endDay : xU := (RX12, cX12_endDay, 6, (some .int), [], "endDay")
theorem bX12_endDay : xYV yX12_endDay cX12_endDay 6 (some .int) 0 := ⟨xq_1104, xq_1105, xq_5, xq_1106, ⟨by decide +kernel, by decide +kernel, by decide +kernel⟩, by decide⟩
theorem gX12_endDay_390 {l : Launch} {G : xG} (hl : l.stackTraces = false) (rc267 : Int → xM → xO) (x0 : Nat) (h0 : xOb 12 x0) (x1 : Int) (h1 : R32 x1) (x2 : Int) (h2 : R32 x2) (hr267 : ∀ w2 : Int, R32 w2 → ∀ M : xM, xcan M → Gv l G uX12_endDay 6 0 0 0 267 [some (.ref x0), some (iv x1), some (iv w2), none, none, none] [] M (rc267 w2 M)) (M : xM) (hM : xcan M) : Gv l G uX12_endDay 6 0 0 0 390 [some (.ref x0), some (iv x1), some (iv x2), none, none, none] [] M (fX12_endDay_390 rc267 x0 x1 x2 M) := by
  unfold fX12_endDay_390
  refine xg_iinc (ls2 := [some (.ref x0), some (iv x1), some (iv (w32 (x2 + 1))), none, none, none]) dX12_endDay_390 (Eq.refl 393) rfl (by decide) rfl ?_
  refine xg_goto (tgt := 267) dX12_endDay_393 (by decide) ?_
  exact xg_jump (hr267 (w32 (x2 + 1)) (w32_r _) M hM) (xsb_s (xsb_s (xsb_s (xsb_n (xsb_n (xsb_n xsb_0)))))) (by decide) (by decide)
theorem gX12_endDay_386 {l : Launch} {G : xG} (hl : l.stackTraces = false) (rc267 : Int → xM → xO) (x0 : Nat) (h0 : xOb 12 x0) (x1 : Int) (h1 : R32 x1) (x2 : Int) (h2 : R32 x2) (s0 : Int) (hs0 : R64 s0) (s1 : Int) (hs1 : R32 s1) (s2 : Int) (hs2 : R32 s2) (s3 : Nat) (hs3 : xOb 12 s3) (hr267 : ∀ w2 : Int, R32 w2 → ∀ M : xM, xcan M → Gv l G uX12_endDay 6 0 0 0 267 [some (.ref x0), some (iv x1), some (iv w2), none, none, none] [] M (rc267 w2 M)) (M : xM) (hM : xcan M) : Gv l G uX12_endDay 6 0 0 0 386 [some (.ref x0), some (iv x1), some (iv x2), none, none, none] [jv s0, iv s1, iv s2, .ref s3] M (fX12_endDay_386 rc267 x0 x1 x2 s0 s1 s2 s3 M) := by
  unfold fX12_endDay_386
  refine xg_callV_I (kc := 0) (ks := 0) (st := []) (mX12_owes hl s3 hs3 s2 hs2 s1 hs1 s0 hs0 M hM) bX12_owes xcl12 hs3 rfl xq_1133 rfl (by decide) rfl (by decide) dX12_endDay_386 (Eq.refl 389) rfl (by decide) (by decide) ?_
  intro z1 M2 hz1 hM2
  refine xg_pop dX12_endDay_389 (Eq.refl 390) rfl ?_
  exact xg_jump (gX12_endDay_390 hl rc267 x0 h0 x1 h1 x2 h2 hr267 M2 hM2) (xsb_s (xsb_s (xsb_s (xsb_n (xsb_n (xsb_n xsb_0)))))) (by decide) (by decide)
theorem gX12_endDay_307 {l : Launch} {G : xG} (hl : l.stackTraces = false) (rc267 : Int → xM → xO) (x0 : Nat) (h0 : xOb 12 x0) (x1 : Int) (h1 : R32 x1) (x2 : Int) (h2 : R32 x2) (x3 : Int) (h3 : B01 x3) (s0 : Int) (hs0 : R64 s0) (s1 : Int) (hs1 : R64 s1) (s2 : Int) (hs2 : R32 s2) (s3 : Nat) (hs3 : xAn 1 1550 s3) (hr267 : ∀ w2 : Int, R32 w2 → ∀ M : xM, xcan M → Gv l G uX12_endDay 6 0 0 0 267 [some (.ref x0), some (iv x1), some (iv w2), none, none, none] [] M (rc267 w2 M)) (M : xM) (hM : xcan M) : Gv l G uX12_endDay 6 0 0 0 307 [some (.ref x0), some (iv x1), some (iv x2), some (iv x3), none, none] [jv s0, jv s1, iv s2, .ref s3] M (fX12_endDay_307 rc267 x0 x1 x2 x3 s0 s1 s2 s3 M) := by
  unfold fX12_endDay_307
  refine xg_ladd dX12_endDay_307 (Eq.refl 308) ?_
  refine xg_last hs3 dX12_endDay_308 (Eq.refl 309) hM (w64_r _) ?_
  intro M1 hM1
  refine xg_iload_n dX12_endDay_309 (Eq.refl 310) rfl ?_
  refine xg_if_eq (tgt := 390) dX12_endDay_310 (Eq.refl 313) (by decide) (B01.r h3) ?_ ?_
  · exact xg_jump (gX12_endDay_390 hl rc267 x0 h0 x1 h1 x2 h2 hr267 M1 hM1) (xsb_s (xsb_s (xsb_s (xsb_n (xsb_n (xsb_n xsb_0)))))) (by decide) (by decide)
  · refine xg_aload_n dX12_endDay_313 (Eq.refl 314) rfl ?_
    refine xg_getR (k := 0) xcl12 h0 rfl xq_122 rfl (xt_12_0 h0).1 dX12_endDay_314 (Eq.refl 317) ?_
    refine xg_sipush dX12_endDay_317 (Eq.refl 320) (by decide +kernel) ?_
    refine xg_iload_n dX12_endDay_320 (Eq.refl 321) rfl ?_
    refine xg_iadd dX12_endDay_321 (Eq.refl 322) ?_
    refine xg_lald (xt_12_0 h0).2 dX12_endDay_322 (Eq.refl 323) ?_
    refine xg_ldc2 (z := 5) xq_1107 dX12_endDay_323 (Eq.refl 326) (by decide +kernel) ?_
    refine xg_lif_ne (tgt := 390) dX12_endDay_326 (Eq.refl 327) dX12_endDay_327 (Eq.refl 330) (by decide) (hM1.aj (xt_12_0 h0).2) (by decide) ?_ ?_
    · refine xg_aload_n dX12_endDay_330 (Eq.refl 331) rfl ?_
      refine xg_iload_n dX12_endDay_331 (Eq.refl 332) rfl ?_
      refine xg_callV_Z (kc := 0) (ks := 0) (st := []) (mX12_shortOf hl x0 h0 x2 h2 M1 hM1) bX12_shortOf xcl12 h0 rfl xq_1145 rfl (by decide) rfl (by decide) dX12_endDay_332 (Eq.refl 335) rfl (by decide) (by decide) ?_
      intro z2 M3 hz2 hM3
      refine xg_if_eq (tgt := 390) dX12_endDay_335 (Eq.refl 338) (by decide) (B01.r hz2) ?_ ?_
      · exact xg_jump (gX12_endDay_390 hl rc267 x0 h0 x1 h1 x2 h2 hr267 M3 hM3) (xsb_s (xsb_s (xsb_s (xsb_n (xsb_n (xsb_n xsb_0)))))) (by decide) (by decide)
      · refine xg_aload_n dX12_endDay_338 (Eq.refl 339) rfl ?_
        refine xg_iload_n dX12_endDay_339 (Eq.refl 340) rfl ?_
        refine xg_callV_J (kc := 0) (ks := 0) (st := []) (mX12_worth hl x0 h0 x2 h2 M3 hM3) bX12_worth xcl12 h0 rfl xq_838 rfl (by decide) rfl (by decide) dX12_endDay_340 (Eq.refl 343) rfl (by decide) (by decide) ?_
        intro z4 M5 hz4 hM5
        refine xg_aload_n dX12_endDay_343 (Eq.refl 344) rfl ?_
        refine xg_getR (k := 0) xcl12 h0 rfl xq_122 rfl (xt_12_0 h0).1 dX12_endDay_344 (Eq.refl 347) ?_
        refine xg_sipush dX12_endDay_347 (Eq.refl 350) (by decide +kernel) ?_
        refine xg_iload_n dX12_endDay_350 (Eq.refl 351) rfl ?_
        refine xg_iadd dX12_endDay_351 (Eq.refl 352) ?_
        refine xg_lald (xt_12_0 h0).2 dX12_endDay_352 (Eq.refl 353) ?_
        refine xg_lsub dX12_endDay_353 (Eq.refl 354) ?_
        refine xg_lstoreL (P := R64) (ls2 := fun y6 => [some (.ref x0), some (iv x1), some (iv x2), some (iv x3), some (jv y6), none]) dX12_endDay_354 (Eq.refl 356) (by decide) (w64_r _) (fun _ => rfl) ?_
        intro y6 hy6
        refine xg_aload_n dX12_endDay_356 (Eq.refl 357) rfl ?_
        refine xg_iload_n dX12_endDay_357 (Eq.refl 358) rfl ?_
        refine xg_iconst dX12_endDay_358 (Eq.refl 359) ?_
        refine xg_callV_N (kc := 0) (ks := 0) (st := []) (mX12_over hl x0 h0 x2 h2 2 (by decide) M5 hM5) bX12_over xcl12 h0 rfl xq_566 rfl (by decide) rfl (by decide) dX12_endDay_359 (Eq.refl 362) rfl (by decide) (by decide) ?_
        intro z7 M8 hz7 hM8
        refine xg_aload_n dX12_endDay_362 (Eq.refl 363) rfl ?_
        refine xg_aload_n dX12_endDay_363 (Eq.refl 364) rfl ?_
        refine xg_iload_n dX12_endDay_364 (Eq.refl 365) rfl ?_
        refine xg_callV_I (kc := 0) (ks := 0) (st := [.ref x0]) (mX12_deliverer hl x0 h0 x2 h2 M8 hM8) bX12_deliverer xcl12 h0 rfl xq_493 rfl (by decide) rfl (Nat.le_of_ble_eq_true rfl) dX12_endDay_365 (Eq.refl 368) rfl (by decide) (by decide) ?_
        intro z9 M10 hz9 hM10
        refine xg_aload_n dX12_endDay_368 (Eq.refl 369) rfl ?_
        refine xg_iload_n dX12_endDay_369 (Eq.refl 370) rfl ?_
        refine xg_callV_I (kc := 0) (ks := 0) (st := [iv z9, .ref x0]) (mX12_receiver hl x0 h0 x2 h2 M10 hM10) bX12_receiver xcl12 h0 rfl xq_497 rfl (by decide) rfl (Nat.le_of_ble_eq_true rfl) dX12_endDay_370 (Eq.refl 373) rfl (by decide) (by decide) ?_
        intro z11 M12 hz11 hM12
        refine xg_lload dX12_endDay_373 (Eq.refl 375) rfl ?_
        refine xg_lconst (z := 0) dX12_endDay_375 (Eq.refl 376) rfl ?_
        refine xg_lif_le (tgt := 385) dX12_endDay_376 (Eq.refl 377) dX12_endDay_377 (Eq.refl 380) (by decide) hy6 (by decide) ?_ ?_
        · refine xg_lconst (z := 0) dX12_endDay_385 (Eq.refl 386) rfl ?_
          exact xg_jump (gX12_endDay_386 hl rc267 x0 h0 x1 h1 x2 h2 0 (by decide) z11 hz11 z9 hz9 x0 h0 hr267 M12 hM12) (xsb_s (xsb_s (xsb_s (xsb_n (xsb_n (xsb_n xsb_0)))))) (by decide) (by decide)
        · refine xg_lload dX12_endDay_380 (Eq.refl 382) rfl ?_
          refine xg_goto (tgt := 386) dX12_endDay_382 (by decide) ?_
          exact xg_jump (gX12_endDay_386 hl rc267 x0 h0 x1 h1 x2 h2 y6 hy6 z11 hz11 z9 hz9 x0 h0 hr267 M12 hM12) (xsb_s (xsb_s (xsb_s (xsb_n (xsb_n (xsb_n xsb_0)))))) (by decide) (by decide)
    · exact xg_jump (gX12_endDay_390 hl rc267 x0 h0 x1 h1 x2 h2 hr267 M1 hM1) (xsb_s (xsb_s (xsb_s (xsb_n (xsb_n (xsb_n xsb_0)))))) (by decide) (by decide)
theorem gX12_endDay_267 {l : Launch} {G : xG} (hl : l.stackTraces = false) (x0 : Nat) (h0 : xOb 12 x0) (x1 : Int) (h1 : R32 x1) : ∀ (n : Nat) (x2 : Int) (_ : R32 x2) (M : xM) (_ : xcan M), Gv l G uX12_endDay 6 0 0 0 267 [some (.ref x0), some (iv x1), some (iv x2), none, none, none] [] M (fX12_endDay_267 x0 x1 n x2 M) := by
  intro n; induction n with
  | zero => intro x2 h2 M hM; exact xg_none
  | succ n ih =>
    intro x2 h2 M hM
    rw [fX12_endDay_267]
    refine xg_iload_n dX12_endDay_267 (Eq.refl 268) rfl ?_
    refine xg_i2l dX12_endDay_268 (Eq.refl 269) h2 ?_
    refine xg_aload_n dX12_endDay_269 (Eq.refl 270) rfl ?_
    refine xg_getR (k := 0) xcl12 h0 rfl xq_122 rfl (xt_12_0 h0).1 dX12_endDay_270 (Eq.refl 273) ?_
    refine xg_sipush dX12_endDay_273 (Eq.refl 276) (by decide +kernel) ?_
    refine xg_laldk (k := 1543) (xt_12_0 h0).2 dX12_endDay_276 (Eq.refl 277) rfl (by decide) ?_
    refine xg_lif_ge (tgt := 396) dX12_endDay_277 (Eq.refl 278) dX12_endDay_278 (Eq.refl 281) (by decide) (R32.j h2) (hM.aj (xt_12_0 h0).2) ?_ ?_
    · refine xg_aload_n dX12_endDay_396 (Eq.refl 397) rfl ?_
      refine xg_getR (k := 0) xcl12 h0 rfl xq_122 rfl (xt_12_0 h0).1 dX12_endDay_397 (Eq.refl 400) ?_
      refine xg_sipush dX12_endDay_400 (Eq.refl 403) (by decide +kernel) ?_
      refine xg_dup2 dX12_endDay_403 (Eq.refl 404) rfl rfl ?_
      refine xg_laldk (k := 1547) (xt_12_0 h0).2 dX12_endDay_404 (Eq.refl 405) rfl (by decide) ?_
      refine xg_lconst (z := 1) dX12_endDay_405 (Eq.refl 406) rfl ?_
      refine xg_ladd dX12_endDay_406 (Eq.refl 407) ?_
      refine xg_lastk (k := 1547) (xt_12_0 h0).2 dX12_endDay_407 (Eq.refl 408) rfl (by decide) hM (w64_r _) ?_
      intro M1 hM1
      refine xg_iload_n dX12_endDay_408 (Eq.refl 409) rfl ?_
      exact xg_iret rfl dX12_endDay_409 rfl hM1 h1
    · refine xg_aload_n dX12_endDay_281 (Eq.refl 282) rfl ?_
      refine xg_iload_n dX12_endDay_282 (Eq.refl 283) rfl ?_
      refine xg_callV_Z (kc := 0) (ks := 0) (st := []) (mX12_due hl x0 h0 x2 h2 M hM) bX12_due xcl12 h0 rfl xq_822 rfl (by decide) rfl (by decide) dX12_endDay_283 (Eq.refl 286) rfl (by decide) (by decide) ?_
      intro z2 M3 hz2 hM3
      refine xg_istore_n (ls2 := [some (.ref x0), some (iv x1), some (iv x2), some (iv z2), none, none]) dX12_endDay_286 (Eq.refl 287) (by decide) rfl ?_
      refine xg_aload_n dX12_endDay_287 (Eq.refl 288) rfl ?_
      refine xg_getR (k := 0) xcl12 h0 rfl xq_122 rfl (xt_12_0 h0).1 dX12_endDay_288 (Eq.refl 291) ?_
      refine xg_sipush dX12_endDay_291 (Eq.refl 294) (by decide +kernel) ?_
      refine xg_iload_n dX12_endDay_294 (Eq.refl 295) rfl ?_
      refine xg_iadd dX12_endDay_295 (Eq.refl 296) ?_
      refine xg_dup2 dX12_endDay_296 (Eq.refl 297) rfl rfl ?_
      refine xg_lald (xt_12_0 h0).2 dX12_endDay_297 (Eq.refl 298) ?_
      refine xg_iload_n dX12_endDay_298 (Eq.refl 299) rfl ?_
      refine xg_if_eq (tgt := 306) dX12_endDay_299 (Eq.refl 302) (by decide) (B01.r hz2) ?_ ?_
      · refine xg_lconst (z := 0) dX12_endDay_306 (Eq.refl 307) rfl ?_
        exact xg_jump (gX12_endDay_307 hl (fX12_endDay_267 x0 x1 n) x0 h0 x1 h1 x2 h2 z2 hz2 0 (by decide) (M3 (xr x0 0) (w32 (850 + x2)).toNat) (hM3.aj (xt_12_0 h0).2) (w32 (850 + x2)) (w32_r _) (xr x0 0) (xt_12_0 h0).2 ih M3 hM3) (xsb_s (xsb_s (xsb_s (xsb_s (xsb_n (xsb_n xsb_0)))))) (by decide) (by decide)
      · refine xg_lconst (z := 1) dX12_endDay_302 (Eq.refl 303) rfl ?_
        refine xg_goto (tgt := 307) dX12_endDay_303 (by decide) ?_
        exact xg_jump (gX12_endDay_307 hl (fX12_endDay_267 x0 x1 n) x0 h0 x1 h1 x2 h2 z2 hz2 1 (by decide) (M3 (xr x0 0) (w32 (850 + x2)).toNat) (hM3.aj (xt_12_0 h0).2) (w32 (850 + x2)) (w32_r _) (xr x0 0) (xt_12_0 h0).2 ih M3 hM3) (xsb_s (xsb_s (xsb_s (xsb_s (xsb_n (xsb_n xsb_0)))))) (by decide) (by decide)
theorem gX12_endDay_257 {l : Launch} {G : xG} (hl : l.stackTraces = false) (rc151 : Int → Int → xM → xO) (x0 : Nat) (h0 : xOb 12 x0) (x2 : Int) (h2 : R32 x2) (s0 : Int) (hs0 : R32 s0) (s1 : Int) (hs1 : R32 s1) (hr151 : ∀ w1 : Int, R32 w1 → ∀ w2 : Int, R32 w2 → ∀ M : xM, xcan M → Gv l G uX12_endDay 6 0 0 0 151 [some (.ref x0), some (iv w1), some (iv w2), none, none, none] [] M (rc151 w1 w2 M)) (M : xM) (hM : xcan M) : Gv l G uX12_endDay 6 0 0 0 257 [some (.ref x0), none, some (iv x2), none, none, none] [iv s0, iv s1] M (fX12_endDay_257 rc151 x0 x2 s0 s1 M) := by
  unfold fX12_endDay_257
  refine xg_iadd dX12_endDay_257 (Eq.refl 258) ?_
  refine xg_istore_nL (P := R32) (ls2 := fun y1 => [some (.ref x0), some (iv y1), some (iv x2), none, none, none]) dX12_endDay_258 (Eq.refl 259) (by decide) (w32_r _) (fun _ => rfl) ?_
  intro y1 hy1
  refine xg_iinc (ls2 := [some (.ref x0), some (iv y1), some (iv (w32 (x2 + 1))), none, none, none]) dX12_endDay_259 (Eq.refl 262) rfl (by decide) rfl ?_
  refine xg_goto (tgt := 151) dX12_endDay_262 (by decide) ?_
  exact xg_jump (hr151 y1 hy1 (w32 (x2 + 1)) (w32_r _) M hM) (xsb_s (xsb_s (xsb_s (xsb_n (xsb_n (xsb_n xsb_0)))))) (by decide) (by decide)
theorem gX12_endDay_200 {l : Launch} {G : xG} (hl : l.stackTraces = false) (rc151 : Int → Int → xM → xO) (x0 : Nat) (h0 : xOb 12 x0) (x1 : Int) (h1 : R32 x1) (x2 : Int) (h2 : R32 x2) (s0 : Int) (hs0 : B01 s0) (hr151 : ∀ w1 : Int, R32 w1 → ∀ w2 : Int, R32 w2 → ∀ M : xM, xcan M → Gv l G uX12_endDay 6 0 0 0 151 [some (.ref x0), some (iv w1), some (iv w2), none, none, none] [] M (rc151 w1 w2 M)) (M : xM) (hM : xcan M) : Gv l G uX12_endDay 6 0 0 0 200 [some (.ref x0), some (iv x1), some (iv x2), none, none, none] [iv s0] M (fX12_endDay_200 rc151 x0 x1 x2 s0 M) := by
  unfold fX12_endDay_200
  refine xg_istore_n (ls2 := [some (.ref x0), some (iv x1), some (iv x2), some (iv s0), none, none]) dX12_endDay_200 (Eq.refl 201) (by decide) rfl ?_
  refine xg_iload_n dX12_endDay_201 (Eq.refl 202) rfl ?_
  refine xg_iload_n dX12_endDay_202 (Eq.refl 203) rfl ?_
  refine xg_if_eq (tgt := 256) dX12_endDay_203 (Eq.refl 206) (by decide) (B01.r hs0) ?_ ?_
  · refine xg_iconst dX12_endDay_256 (Eq.refl 257) ?_
    exact xg_jump (gX12_endDay_257 hl rc151 x0 h0 x2 h2 0 (by decide) x1 h1 hr151 M hM) (xsb_s (xsb_n (xsb_s (xsb_n (xsb_n (xsb_n xsb_0)))))) (by decide) (by decide)
  · refine xg_aload_n dX12_endDay_206 (Eq.refl 207) rfl ?_
    refine xg_aload_n dX12_endDay_207 (Eq.refl 208) rfl ?_
    refine xg_getR (k := 0) xcl12 h0 rfl xq_122 rfl (xt_12_0 h0).1 dX12_endDay_208 (Eq.refl 211) ?_
    refine xg_sipush dX12_endDay_211 (Eq.refl 214) (by decide +kernel) ?_
    refine xg_iload_n dX12_endDay_214 (Eq.refl 215) rfl ?_
    refine xg_iadd dX12_endDay_215 (Eq.refl 216) ?_
    refine xg_lald (xt_12_0 h0).2 dX12_endDay_216 (Eq.refl 217) ?_
    refine xg_l2i dX12_endDay_217 (Eq.refl 218) ?_
    refine xg_aload_n dX12_endDay_218 (Eq.refl 219) rfl ?_
    refine xg_getR (k := 0) xcl12 h0 rfl xq_122 rfl (xt_12_0 h0).1 dX12_endDay_219 (Eq.refl 222) ?_
    refine xg_sipush dX12_endDay_222 (Eq.refl 225) (by decide +kernel) ?_
    refine xg_iload_n dX12_endDay_225 (Eq.refl 226) rfl ?_
    refine xg_iadd dX12_endDay_226 (Eq.refl 227) ?_
    refine xg_lald (xt_12_0 h0).2 dX12_endDay_227 (Eq.refl 228) ?_
    refine xg_l2i dX12_endDay_228 (Eq.refl 229) ?_
    refine xg_aload_n dX12_endDay_229 (Eq.refl 230) rfl ?_
    refine xg_getR (k := 0) xcl12 h0 rfl xq_122 rfl (xt_12_0 h0).1 dX12_endDay_230 (Eq.refl 233) ?_
    refine xg_sipush dX12_endDay_233 (Eq.refl 236) (by decide +kernel) ?_
    refine xg_iload_n dX12_endDay_236 (Eq.refl 237) rfl ?_
    refine xg_iadd dX12_endDay_237 (Eq.refl 238) ?_
    refine xg_lald (xt_12_0 h0).2 dX12_endDay_238 (Eq.refl 239) ?_
    refine xg_aload_n dX12_endDay_239 (Eq.refl 240) rfl ?_
    refine xg_getR (k := 0) xcl12 h0 rfl xq_122 rfl (xt_12_0 h0).1 dX12_endDay_240 (Eq.refl 243) ?_
    refine xg_sipush dX12_endDay_243 (Eq.refl 246) (by decide +kernel) ?_
    refine xg_iload_n dX12_endDay_246 (Eq.refl 247) rfl ?_
    refine xg_iadd dX12_endDay_247 (Eq.refl 248) ?_
    refine xg_lald (xt_12_0 h0).2 dX12_endDay_248 (Eq.refl 249) ?_
    refine xg_l2i dX12_endDay_249 (Eq.refl 250) ?_
    refine xg_callV_I (kc := 0) (ks := 0) (st := [iv x1]) (mX12_fines hl x0 h0 (w32 (M (xr x0 0) (w32 (930 + x2)).toNat)) (w32_r _) (w32 (M (xr x0 0) (w32 (950 + x2)).toNat)) (w32_r _) (M (xr x0 0) (w32 (990 + x2)).toNat) (hM.aj (xt_12_0 h0).2) (w32 (M (xr x0 0) (w32 (970 + x2)).toNat)) (w32_r _) M hM) bX12_fines xcl12 h0 rfl xq_1157 rfl (by decide) rfl (Nat.le_of_ble_eq_true rfl) dX12_endDay_250 (Eq.refl 253) rfl (by decide) (by decide) ?_
    intro z1 M2 hz1 hM2
    refine xg_goto (tgt := 257) dX12_endDay_253 (by decide) ?_
    exact xg_jump (gX12_endDay_257 hl rc151 x0 h0 x2 h2 z1 hz1 x1 h1 hr151 M2 hM2) (xsb_s (xsb_n (xsb_s (xsb_n (xsb_n (xsb_n xsb_0)))))) (by decide) (by decide)
theorem gX12_endDay_199 {l : Launch} {G : xG} (hl : l.stackTraces = false) (rc151 : Int → Int → xM → xO) (x0 : Nat) (h0 : xOb 12 x0) (x1 : Int) (h1 : R32 x1) (x2 : Int) (h2 : R32 x2) (hr151 : ∀ w1 : Int, R32 w1 → ∀ w2 : Int, R32 w2 → ∀ M : xM, xcan M → Gv l G uX12_endDay 6 0 0 0 151 [some (.ref x0), some (iv w1), some (iv w2), none, none, none] [] M (rc151 w1 w2 M)) (M : xM) (hM : xcan M) : Gv l G uX12_endDay 6 0 0 0 199 [some (.ref x0), some (iv x1), some (iv x2), none, none, none] [] M (fX12_endDay_199 rc151 x0 x1 x2 M) := by
  unfold fX12_endDay_199
  refine xg_iconst dX12_endDay_199 (Eq.refl 200) ?_
  exact xg_jump (gX12_endDay_200 hl rc151 x0 h0 x1 h1 x2 h2 0 (by decide) hr151 M hM) (xsb_s (xsb_s (xsb_s (xsb_n (xsb_n (xsb_n xsb_0)))))) (by decide) (by decide)
theorem gX12_endDay_151 {l : Launch} {G : xG} (hl : l.stackTraces = false) (x0 : Nat) (h0 : xOb 12 x0) : ∀ (n : Nat) (x1 : Int) (_ : R32 x1) (x2 : Int) (_ : R32 x2) (M : xM) (_ : xcan M), Gv l G uX12_endDay 6 0 0 0 151 [some (.ref x0), some (iv x1), some (iv x2), none, none, none] [] M (fX12_endDay_151 x0 n x1 x2 M) := by
  intro n; induction n with
  | zero => intro x1 h1 x2 h2 M hM; exact xg_none
  | succ n ih =>
    intro x1 h1 x2 h2 M hM
    rw [fX12_endDay_151]
    refine xg_iload_n dX12_endDay_151 (Eq.refl 152) rfl ?_
    refine xg_i2l dX12_endDay_152 (Eq.refl 153) h2 ?_
    refine xg_aload_n dX12_endDay_153 (Eq.refl 154) rfl ?_
    refine xg_getR (k := 0) xcl12 h0 rfl xq_122 rfl (xt_12_0 h0).1 dX12_endDay_154 (Eq.refl 157) ?_
    refine xg_sipush dX12_endDay_157 (Eq.refl 160) (by decide +kernel) ?_
    refine xg_laldk (k := 1545) (xt_12_0 h0).2 dX12_endDay_160 (Eq.refl 161) rfl (by decide) ?_
    refine xg_lif_ge (tgt := 265) dX12_endDay_161 (Eq.refl 162) dX12_endDay_162 (Eq.refl 165) (by decide) (R32.j h2) (hM.aj (xt_12_0 h0).2) ?_ ?_
    · refine xg_iconst dX12_endDay_265 (Eq.refl 266) ?_
      refine xg_istore_n (ls2 := [some (.ref x0), some (iv x1), some (iv 0), none, none, none]) dX12_endDay_266 (Eq.refl 267) (by decide) rfl ?_
      exact xg_jump (gX12_endDay_267 hl x0 h0 x1 h1 xN 0 (by decide) M hM) (xsb_s (xsb_s (xsb_s (xsb_n (xsb_n (xsb_n xsb_0)))))) (by decide) (by decide)
    · refine xg_aload_n dX12_endDay_165 (Eq.refl 166) rfl ?_
      refine xg_getR (k := 0) xcl12 h0 rfl xq_122 rfl (xt_12_0 h0).1 dX12_endDay_166 (Eq.refl 169) ?_
      refine xg_sipush dX12_endDay_169 (Eq.refl 172) (by decide +kernel) ?_
      refine xg_iload_n dX12_endDay_172 (Eq.refl 173) rfl ?_
      refine xg_iadd dX12_endDay_173 (Eq.refl 174) ?_
      refine xg_lald (xt_12_0 h0).2 dX12_endDay_174 (Eq.refl 175) ?_
      refine xg_lconst (z := 1) dX12_endDay_175 (Eq.refl 176) rfl ?_
      refine xg_lif_ne (tgt := 199) dX12_endDay_176 (Eq.refl 177) dX12_endDay_177 (Eq.refl 180) (by decide) (hM.aj (xt_12_0 h0).2) (by decide) ?_ ?_
      · refine xg_aload_n dX12_endDay_180 (Eq.refl 181) rfl ?_
        refine xg_getR (k := 0) xcl12 h0 rfl xq_122 rfl (xt_12_0 h0).1 dX12_endDay_181 (Eq.refl 184) ?_
        refine xg_sipush dX12_endDay_184 (Eq.refl 187) (by decide +kernel) ?_
        refine xg_iload_n dX12_endDay_187 (Eq.refl 188) rfl ?_
        refine xg_iadd dX12_endDay_188 (Eq.refl 189) ?_
        refine xg_lald (xt_12_0 h0).2 dX12_endDay_189 (Eq.refl 190) ?_
        refine xg_lconst (z := 0) dX12_endDay_190 (Eq.refl 191) rfl ?_
        refine xg_lif_lt (tgt := 199) dX12_endDay_191 (Eq.refl 192) dX12_endDay_192 (Eq.refl 195) (by decide) (hM.aj (xt_12_0 h0).2) (by decide) ?_ ?_
        · exact xg_jump (gX12_endDay_199 hl (fX12_endDay_151 x0 n) x0 h0 x1 h1 x2 h2 ih M hM) (xsb_s (xsb_s (xsb_s (xsb_n (xsb_n (xsb_n xsb_0)))))) (by decide) (by decide)
        · refine xg_iconst dX12_endDay_195 (Eq.refl 196) ?_
          refine xg_goto (tgt := 200) dX12_endDay_196 (by decide) ?_
          exact xg_jump (gX12_endDay_200 hl (fX12_endDay_151 x0 n) x0 h0 x1 h1 x2 h2 1 (by decide) ih M hM) (xsb_s (xsb_s (xsb_s (xsb_n (xsb_n (xsb_n xsb_0)))))) (by decide) (by decide)
      · exact xg_jump (gX12_endDay_199 hl (fX12_endDay_151 x0 n) x0 h0 x1 h1 x2 h2 ih M hM) (xsb_s (xsb_s (xsb_s (xsb_n (xsb_n (xsb_n xsb_0)))))) (by decide) (by decide)
theorem gX12_endDay_141 {l : Launch} {G : xG} (hl : l.stackTraces = false) (rc109 : Int → Int → xM → xO) (x0 : Nat) (h0 : xOb 12 x0) (x2 : Int) (h2 : R32 x2) (s0 : Int) (hs0 : R32 s0) (s1 : Int) (hs1 : R32 s1) (hr109 : ∀ w1 : Int, R32 w1 → ∀ w2 : Int, R32 w2 → ∀ M : xM, xcan M → Gv l G uX12_endDay 6 0 0 0 109 [some (.ref x0), some (iv w1), some (iv w2), none, none, none] [] M (rc109 w1 w2 M)) (M : xM) (hM : xcan M) : Gv l G uX12_endDay 6 0 0 0 141 [some (.ref x0), none, some (iv x2), none, none, none] [iv s0, iv s1] M (fX12_endDay_141 rc109 x0 x2 s0 s1 M) := by
  unfold fX12_endDay_141
  refine xg_iadd dX12_endDay_141 (Eq.refl 142) ?_
  refine xg_istore_nL (P := R32) (ls2 := fun y1 => [some (.ref x0), some (iv y1), some (iv x2), none, none, none]) dX12_endDay_142 (Eq.refl 143) (by decide) (w32_r _) (fun _ => rfl) ?_
  intro y1 hy1
  refine xg_iinc (ls2 := [some (.ref x0), some (iv y1), some (iv (w32 (x2 + 1))), none, none, none]) dX12_endDay_143 (Eq.refl 146) rfl (by decide) rfl ?_
  refine xg_goto (tgt := 109) dX12_endDay_146 (by decide) ?_
  exact xg_jump (hr109 y1 hy1 (w32 (x2 + 1)) (w32_r _) M hM) (xsb_s (xsb_s (xsb_s (xsb_n (xsb_n (xsb_n xsb_0)))))) (by decide) (by decide)
theorem gX12_endDay_109 {l : Launch} {G : xG} (hl : l.stackTraces = false) (x0 : Nat) (h0 : xOb 12 x0) : ∀ (n : Nat) (x1 : Int) (_ : R32 x1) (x2 : Int) (_ : R32 x2) (M : xM) (_ : xcan M), Gv l G uX12_endDay 6 0 0 0 109 [some (.ref x0), some (iv x1), some (iv x2), none, none, none] [] M (fX12_endDay_109 x0 n x1 x2 M) := by
  intro n; induction n with
  | zero => intro x1 h1 x2 h2 M hM; exact xg_none
  | succ n ih =>
    intro x1 h1 x2 h2 M hM
    rw [fX12_endDay_109]
    refine xg_iload_n dX12_endDay_109 (Eq.refl 110) rfl ?_
    refine xg_i2l dX12_endDay_110 (Eq.refl 111) h2 ?_
    refine xg_aload_n dX12_endDay_111 (Eq.refl 112) rfl ?_
    refine xg_getR (k := 0) xcl12 h0 rfl xq_122 rfl (xt_12_0 h0).1 dX12_endDay_112 (Eq.refl 115) ?_
    refine xg_sipush dX12_endDay_115 (Eq.refl 118) (by decide +kernel) ?_
    refine xg_laldk (k := 1543) (xt_12_0 h0).2 dX12_endDay_118 (Eq.refl 119) rfl (by decide) ?_
    refine xg_lif_ge (tgt := 149) dX12_endDay_119 (Eq.refl 120) dX12_endDay_120 (Eq.refl 123) (by decide) (R32.j h2) (hM.aj (xt_12_0 h0).2) ?_ ?_
    · refine xg_iconst dX12_endDay_149 (Eq.refl 150) ?_
      refine xg_istore_n (ls2 := [some (.ref x0), some (iv x1), some (iv 0), none, none, none]) dX12_endDay_150 (Eq.refl 151) (by decide) rfl ?_
      exact xg_jump (gX12_endDay_151 hl x0 h0 xN x1 h1 0 (by decide) M hM) (xsb_s (xsb_s (xsb_s (xsb_n (xsb_n (xsb_n xsb_0)))))) (by decide) (by decide)
    · refine xg_iload_n dX12_endDay_123 (Eq.refl 124) rfl ?_
      refine xg_aload_n dX12_endDay_124 (Eq.refl 125) rfl ?_
      refine xg_iload_n dX12_endDay_125 (Eq.refl 126) rfl ?_
      refine xg_callV_Z (kc := 0) (ks := 0) (st := [iv x1]) (mX12_due hl x0 h0 x2 h2 M hM) bX12_due xcl12 h0 rfl xq_822 rfl (by decide) rfl (Nat.le_of_ble_eq_true rfl) dX12_endDay_126 (Eq.refl 129) rfl (by decide) (by decide) ?_
      intro z1 M2 hz1 hM2
      refine xg_if_eq (tgt := 140) dX12_endDay_129 (Eq.refl 132) (by decide) (B01.r hz1) ?_ ?_
      · refine xg_iconst dX12_endDay_140 (Eq.refl 141) ?_
        exact xg_jump (gX12_endDay_141 hl (fX12_endDay_109 x0 n) x0 h0 x2 h2 0 (by decide) x1 h1 ih M2 hM2) (xsb_s (xsb_n (xsb_s (xsb_n (xsb_n (xsb_n xsb_0)))))) (by decide) (by decide)
      · refine xg_aload_n dX12_endDay_132 (Eq.refl 133) rfl ?_
        refine xg_iload_n dX12_endDay_133 (Eq.refl 134) rfl ?_
        refine xg_callV_I (kc := 0) (ks := 0) (st := [iv x1]) (mX12_fineOf hl x0 h0 x2 h2 M2 hM2) bX12_fineOf xcl12 h0 rfl xq_1137 rfl (by decide) rfl (Nat.le_of_ble_eq_true rfl) dX12_endDay_134 (Eq.refl 137) rfl (by decide) (by decide) ?_
        intro z3 M4 hz3 hM4
        refine xg_goto (tgt := 141) dX12_endDay_137 (by decide) ?_
        exact xg_jump (gX12_endDay_141 hl (fX12_endDay_109 x0 n) x0 h0 x2 h2 z3 hz3 x1 h1 ih M4 hM4) (xsb_s (xsb_n (xsb_s (xsb_n (xsb_n (xsb_n xsb_0)))))) (by decide) (by decide)
theorem gX12_endDay_99 {l : Launch} {G : xG} (hl : l.stackTraces = false) (rc31 : Int → xM → xO) (x0 : Nat) (h0 : xOb 12 x0) (x1 : Int) (h1 : R32 x1) (hr31 : ∀ w1 : Int, R32 w1 → ∀ M : xM, xcan M → Gv l G uX12_endDay 6 0 0 0 31 [some (.ref x0), some (iv w1), none, none, none, none] [] M (rc31 w1 M)) (M : xM) (hM : xcan M) : Gv l G uX12_endDay 6 0 0 0 99 [some (.ref x0), some (iv x1), none, none, none, none] [] M (fX12_endDay_99 rc31 x0 x1 M) := by
  unfold fX12_endDay_99
  refine xg_iinc (ls2 := [some (.ref x0), some (iv (w32 (x1 + 1))), none, none, none, none]) dX12_endDay_99 (Eq.refl 102) rfl (by decide) rfl ?_
  refine xg_goto (tgt := 31) dX12_endDay_102 (by decide) ?_
  exact xg_jump (hr31 (w32 (x1 + 1)) (w32_r _) M hM) (xsb_s (xsb_s (xsb_n (xsb_n (xsb_n (xsb_n xsb_0)))))) (by decide) (by decide)
theorem gX12_endDay_72 {l : Launch} {G : xG} (hl : l.stackTraces = false) (rc31 : Int → xM → xO) (x0 : Nat) (h0 : xOb 12 x0) (x1 : Int) (h1 : R32 x1) (hr31 : ∀ w1 : Int, R32 w1 → ∀ M : xM, xcan M → Gv l G uX12_endDay 6 0 0 0 31 [some (.ref x0), some (iv w1), none, none, none, none] [] M (rc31 w1 M)) (M : xM) (hM : xcan M) : Gv l G uX12_endDay 6 0 0 0 72 [some (.ref x0), some (iv x1), none, none, none, none] [] M (fX12_endDay_72 rc31 x0 x1 M) := by
  unfold fX12_endDay_72
  refine xg_aload_n dX12_endDay_72 (Eq.refl 73) rfl ?_
  refine xg_getR (k := 0) xcl12 h0 rfl xq_122 rfl (xt_12_0 h0).1 dX12_endDay_73 (Eq.refl 76) ?_
  refine xg_sipush dX12_endDay_76 (Eq.refl 79) (by decide +kernel) ?_
  refine xg_iload_n dX12_endDay_79 (Eq.refl 80) rfl ?_
  refine xg_iadd dX12_endDay_80 (Eq.refl 81) ?_
  refine xg_lald (xt_12_0 h0).2 dX12_endDay_81 (Eq.refl 82) ?_
  refine xg_aload_n dX12_endDay_82 (Eq.refl 83) rfl ?_
  refine xg_getR (k := 0) xcl12 h0 rfl xq_122 rfl (xt_12_0 h0).1 dX12_endDay_83 (Eq.refl 86) ?_
  refine xg_sipush dX12_endDay_86 (Eq.refl 89) (by decide +kernel) ?_
  refine xg_laldk (k := 1547) (xt_12_0 h0).2 dX12_endDay_89 (Eq.refl 90) rfl (by decide) ?_
  refine xg_lif_ne (tgt := 99) dX12_endDay_90 (Eq.refl 91) dX12_endDay_91 (Eq.refl 94) (by decide) (hM.aj (xt_12_0 h0).2) (hM.aj (xt_12_0 h0).2) ?_ ?_
  · refine xg_aload_n dX12_endDay_94 (Eq.refl 95) rfl ?_
    refine xg_iload_n dX12_endDay_95 (Eq.refl 96) rfl ?_
    refine xg_callV_N (kc := 0) (ks := 0) (st := []) (mX12_pay hl x0 h0 x1 h1 M hM) bX12_pay xcl12 h0 rfl xq_1112 rfl (by decide) rfl (by decide) dX12_endDay_96 (Eq.refl 99) rfl (by decide) (by decide) ?_
    intro z1 M2 hz1 hM2
    exact xg_jump (gX12_endDay_99 hl rc31 x0 h0 x1 h1 hr31 M2 hM2) (xsb_s (xsb_s (xsb_n (xsb_n (xsb_n (xsb_n xsb_0)))))) (by decide) (by decide)
  · exact xg_jump (gX12_endDay_99 hl rc31 x0 h0 x1 h1 hr31 M hM) (xsb_s (xsb_s (xsb_n (xsb_n (xsb_n (xsb_n xsb_0)))))) (by decide) (by decide)
theorem gX12_endDay_31 {l : Launch} {G : xG} (hl : l.stackTraces = false) (x0 : Nat) (h0 : xOb 12 x0) : ∀ (n : Nat) (x1 : Int) (_ : R32 x1) (M : xM) (_ : xcan M), Gv l G uX12_endDay 6 0 0 0 31 [some (.ref x0), some (iv x1), none, none, none, none] [] M (fX12_endDay_31 x0 n x1 M) := by
  intro n; induction n with
  | zero => intro x1 h1 M hM; exact xg_none
  | succ n ih =>
    intro x1 h1 M hM
    rw [fX12_endDay_31]
    refine xg_iload_n dX12_endDay_31 (Eq.refl 32) rfl ?_
    refine xg_i2l dX12_endDay_32 (Eq.refl 33) h1 ?_
    refine xg_aload_n dX12_endDay_33 (Eq.refl 34) rfl ?_
    refine xg_getR (k := 0) xcl12 h0 rfl xq_122 rfl (xt_12_0 h0).1 dX12_endDay_34 (Eq.refl 37) ?_
    refine xg_sipush dX12_endDay_37 (Eq.refl 40) (by decide +kernel) ?_
    refine xg_laldk (k := 1546) (xt_12_0 h0).2 dX12_endDay_40 (Eq.refl 41) rfl (by decide) ?_
    refine xg_lif_ge (tgt := 105) dX12_endDay_41 (Eq.refl 42) dX12_endDay_42 (Eq.refl 45) (by decide) (R32.j h1) (hM.aj (xt_12_0 h0).2) ?_ ?_
    · refine xg_iconst dX12_endDay_105 (Eq.refl 106) ?_
      refine xg_istore_n (ls2 := [some (.ref x0), some (iv 0), none, none, none, none]) dX12_endDay_106 (Eq.refl 107) (by decide) rfl ?_
      refine xg_iconst dX12_endDay_107 (Eq.refl 108) ?_
      refine xg_istore_n (ls2 := [some (.ref x0), some (iv 0), some (iv 0), none, none, none]) dX12_endDay_108 (Eq.refl 109) (by decide) rfl ?_
      exact xg_jump (gX12_endDay_109 hl x0 h0 xN 0 (by decide) 0 (by decide) M hM) (xsb_s (xsb_s (xsb_s (xsb_n (xsb_n (xsb_n xsb_0)))))) (by decide) (by decide)
    · refine xg_aload_n dX12_endDay_45 (Eq.refl 46) rfl ?_
      refine xg_getR (k := 0) xcl12 h0 rfl xq_122 rfl (xt_12_0 h0).1 dX12_endDay_46 (Eq.refl 49) ?_
      refine xg_sipush dX12_endDay_49 (Eq.refl 52) (by decide +kernel) ?_
      refine xg_iload_n dX12_endDay_52 (Eq.refl 53) rfl ?_
      refine xg_iadd dX12_endDay_53 (Eq.refl 54) ?_
      refine xg_lald (xt_12_0 h0).2 dX12_endDay_54 (Eq.refl 55) ?_
      refine xg_aload_n dX12_endDay_55 (Eq.refl 56) rfl ?_
      refine xg_getR (k := 0) xcl12 h0 rfl xq_122 rfl (xt_12_0 h0).1 dX12_endDay_56 (Eq.refl 59) ?_
      refine xg_sipush dX12_endDay_59 (Eq.refl 62) (by decide +kernel) ?_
      refine xg_laldk (k := 1547) (xt_12_0 h0).2 dX12_endDay_62 (Eq.refl 63) rfl (by decide) ?_
      refine xg_lif_ne (tgt := 72) dX12_endDay_63 (Eq.refl 64) dX12_endDay_64 (Eq.refl 67) (by decide) (hM.aj (xt_12_0 h0).2) (hM.aj (xt_12_0 h0).2) ?_ ?_
      · refine xg_aload_n dX12_endDay_67 (Eq.refl 68) rfl ?_
        refine xg_iload_n dX12_endDay_68 (Eq.refl 69) rfl ?_
        refine xg_callV_N (kc := 0) (ks := 0) (st := []) (mX12_note hl x0 h0 x1 h1 M hM) bX12_note xcl12 h0 rfl xq_1108 rfl (by decide) rfl (by decide) dX12_endDay_69 (Eq.refl 72) rfl (by decide) (by decide) ?_
        intro z1 M2 hz1 hM2
        exact xg_jump (gX12_endDay_72 hl (fX12_endDay_31 x0 n) x0 h0 x1 h1 ih M2 hM2) (xsb_s (xsb_s (xsb_n (xsb_n (xsb_n (xsb_n xsb_0)))))) (by decide) (by decide)
      · exact xg_jump (gX12_endDay_72 hl (fX12_endDay_31 x0 n) x0 h0 x1 h1 ih M hM) (xsb_s (xsb_s (xsb_n (xsb_n (xsb_n (xsb_n xsb_0)))))) (by decide) (by decide)
theorem gX12_endDay_21 {l : Launch} {G : xG} (hl : l.stackTraces = false) (x0 : Nat) (h0 : xOb 12 x0) (s0 : Int) (hs0 : B01 s0) (s1 : Nat) (hs1 : xOb 12 s1) (M : xM) (hM : xcan M) : Gv l G uX12_endDay 6 0 0 0 21 [some (.ref x0), none, none, none, none, none] [iv s0, .ref s1] M (fX12_endDay_21 x0 s0 s1 M) := by
  unfold fX12_endDay_21
  refine xg_callV_Z (kc := 0) (ks := 0) (st := []) (mX12_holds hl s1 hs1 s0 (B01.r hs0) M hM) bX12_holds xcl12 hs1 rfl xq_187 rfl (by decide) rfl (by decide) dX12_endDay_21 (Eq.refl 24) rfl (by decide) (by decide) ?_
  intro z1 M2 hz1 hM2
  refine xg_if_eq (tgt := 29) dX12_endDay_24 (Eq.refl 27) (by decide) (B01.r hz1) ?_ ?_
  · refine xg_iconst dX12_endDay_29 (Eq.refl 30) ?_
    refine xg_istore_n (ls2 := [some (.ref x0), some (iv 0), none, none, none, none]) dX12_endDay_30 (Eq.refl 31) (by decide) rfl ?_
    exact xg_jump (gX12_endDay_31 hl x0 h0 xN 0 (by decide) M2 hM2) (xsb_s (xsb_s (xsb_n (xsb_n (xsb_n (xsb_n xsb_0)))))) (by decide) (by decide)
  · refine xg_iconst dX12_endDay_27 (Eq.refl 28) ?_
    exact xg_iret rfl dX12_endDay_28 rfl hM2 (by decide)
theorem mX12_endDay {l : Launch} {G : xG} (hl : l.stackTraces = false) (x0 : Nat) (h0 : xOb 12 x0) (M : xM) (hM : xcan M) : Cm l G yX12_endDay cX12_endDay 6 (some .int) 6 0 0 0 [.ref x0] M (fX12_endDay x0 M) := by
  refine xcm_of (u := uX12_endDay) (ls := [some (.ref x0), none, none, none, none, none]) 5 hl rfl (by decide +kernel) (Nat.le_of_ble_eq_true rfl) rfl ?_
  unfold fX12_endDay
  refine xg_aload_n dX12_endDay_0 (Eq.refl 1) rfl ?_
  refine xg_aload_n dX12_endDay_1 (Eq.refl 2) rfl ?_
  refine xg_getR (k := 0) xcl12 h0 rfl xq_122 rfl (xt_12_0 h0).1 dX12_endDay_2 (Eq.refl 5) ?_
  refine xg_sipush dX12_endDay_5 (Eq.refl 8) (by decide +kernel) ?_
  refine xg_laldk (k := 1547) (xt_12_0 h0).2 dX12_endDay_8 (Eq.refl 9) rfl (by decide) ?_
  refine xg_ldc2 (z := 2000) xq_477 dX12_endDay_9 (Eq.refl 12) (by decide +kernel) ?_
  refine xg_lif_ne (tgt := 20) dX12_endDay_12 (Eq.refl 13) dX12_endDay_13 (Eq.refl 16) (by decide) (hM.aj (xt_12_0 h0).2) (by decide) ?_ ?_
  · refine xg_iconst dX12_endDay_16 (Eq.refl 17) ?_
    refine xg_goto (tgt := 21) dX12_endDay_17 (by decide) ?_
    exact xg_jump (gX12_endDay_21 hl x0 h0 1 (by decide) x0 h0 M hM) (xsb_s (xsb_n (xsb_n (xsb_n (xsb_n (xsb_n xsb_0)))))) (by decide) (by decide)
  · refine xg_iconst dX12_endDay_20 (Eq.refl 21) ?_
    exact xg_jump (gX12_endDay_21 hl x0 h0 0 (by decide) x0 h0 M hM) (xsb_s (xsb_n (xsb_n (xsb_n (xsb_n (xsb_n xsb_0)))))) (by decide) (by decide)
abbrev uX12_today : xU := (RX12, cX12_today, 1, (some .int), [], "today")
theorem bX12_today : xYV yX12_today cX12_today 1 (some .int) 0 := ⟨xq_1167, xq_1168, xq_5, xq_1169, ⟨by decide +kernel, by decide +kernel, by decide +kernel⟩, by decide⟩
theorem mX12_today {l : Launch} {G : xG} (hl : l.stackTraces = false) (x0 : Nat) (h0 : xOb 12 x0) (M : xM) (hM : xcan M) : Cm l G yX12_today cX12_today 1 (some .int) 2 0 0 0 [.ref x0] M (fX12_today x0 M) := by
  refine xcm_of (u := uX12_today) (ls := [some (.ref x0)]) 0 hl rfl (by decide +kernel) (Nat.le_of_ble_eq_true rfl) rfl ?_
  unfold fX12_today
  refine xg_aload_n dX12_today_0 (Eq.refl 1) rfl ?_
  refine xg_iconst dX12_today_1 (Eq.refl 2) ?_
  refine xg_callV_Z (kc := 0) (ks := 0) (st := []) (mX12_holds hl x0 h0 0 (by decide) M hM) bX12_holds xcl12 h0 rfl xq_187 rfl (by decide) rfl (by decide) dX12_today_2 (Eq.refl 5) rfl (by decide) (by decide) ?_
  intro z1 M2 hz1 hM2
  refine xg_pop dX12_today_5 (Eq.refl 6) rfl ?_
  refine xg_aload_n dX12_today_6 (Eq.refl 7) rfl ?_
  refine xg_getR (k := 0) xcl12 h0 rfl xq_122 rfl (xt_12_0 h0).1 dX12_today_7 (Eq.refl 10) ?_
  refine xg_sipush dX12_today_10 (Eq.refl 13) (by decide +kernel) ?_
  refine xg_laldk (k := 1547) (xt_12_0 h0).2 dX12_today_13 (Eq.refl 14) rfl (by decide) ?_
  refine xg_l2i dX12_today_14 (Eq.refl 15) ?_
  exact xg_iret rfl dX12_today_15 rfl hM2 (w32_r _)
abbrev uX12_recall : xU := (RX12, cX12_recall, 3, (some .long), [], "recall")
theorem bX12_recall : xYV yX12_recall cX12_recall 3 (some .long) 1 := ⟨xq_1187, xq_1188, xq_5, xq_1189, ⟨by decide +kernel, by decide +kernel, by decide +kernel⟩, by decide⟩
theorem gX12_recall_50 {l : Launch} {G : xG} (hl : l.stackTraces = false) (x0 : Nat) (h0 : xOb 12 x0) (x1 : Int) (h1 : R32 x1) (s0 : Int) (hs0 : R32 s0) (s1 : Nat) (hs1 : xOb 12 s1) (M : xM) (hM : xcan M) : Gv l G uX12_recall 3 2 0 0 50 [some (.ref x0), some (iv x1), none] [iv s0, .ref s1] M (fX12_recall_50 x0 x1 s0 s1 M) := by
  unfold fX12_recall_50
  refine xg_callV_Z (kc := 0) (ks := 0) (st := []) (mX12_holds hl s1 hs1 s0 hs0 M hM) bX12_holds xcl12 hs1 rfl xq_187 rfl (by decide) rfl (by decide) dX12_recall_50 (Eq.refl 53) rfl (by decide) (by decide) ?_
  intro z1 M2 hz1 hM2
  refine xg_if_eq (tgt := 60) dX12_recall_53 (Eq.refl 56) (by decide) (B01.r hz1) ?_ ?_
  · refine xg_aload_n dX12_recall_60 (Eq.refl 61) rfl ?_
    refine xg_getR (k := 0) xcl12 h0 rfl xq_122 rfl (xt_12_0 h0).1 dX12_recall_61 (Eq.refl 64) ?_
    refine xg_sipush dX12_recall_64 (Eq.refl 67) (by decide +kernel) ?_
    refine xg_iload_n dX12_recall_67 (Eq.refl 68) rfl ?_
    refine xg_iadd dX12_recall_68 (Eq.refl 69) ?_
    refine xg_lconst (z := 1) dX12_recall_69 (Eq.refl 70) rfl ?_
    refine xg_last (xt_12_0 h0).2 dX12_recall_70 (Eq.refl 71) hM2 (by decide) ?_
    intro M3 hM3
    refine xg_aload_n dX12_recall_71 (Eq.refl 72) rfl ?_
    refine xg_getR (k := 0) xcl12 h0 rfl xq_122 rfl (xt_12_0 h0).1 dX12_recall_72 (Eq.refl 75) ?_
    refine xg_sipush dX12_recall_75 (Eq.refl 78) (by decide +kernel) ?_
    refine xg_iload_n dX12_recall_78 (Eq.refl 79) rfl ?_
    refine xg_iadd dX12_recall_79 (Eq.refl 80) ?_
    refine xg_lald (xt_12_0 h0).2 dX12_recall_80 (Eq.refl 81) ?_
    exact xg_lret rfl dX12_recall_81 rfl hM3 (hM3.aj (xt_12_0 h0).2)
  · refine xg_ldc2 (z := (-1)) xq_320 dX12_recall_56 (Eq.refl 59) (by decide +kernel) ?_
    exact xg_lret rfl dX12_recall_59 rfl hM2 (by decide)
theorem gX12_recall_45 {l : Launch} {G : xG} (hl : l.stackTraces = false) (x0 : Nat) (h0 : xOb 12 x0) (x1 : Int) (h1 : R32 x1) (s0 : Nat) (hs0 : xOb 12 s0) (M : xM) (hM : xcan M) : Gv l G uX12_recall 3 2 0 0 45 [some (.ref x0), some (iv x1), none] [.ref s0] M (fX12_recall_45 x0 x1 s0 M) := by
  unfold fX12_recall_45
  refine xg_iconst dX12_recall_45 (Eq.refl 46) ?_
  refine xg_goto (tgt := 50) dX12_recall_46 (by decide) ?_
  exact xg_jump (gX12_recall_50 hl x0 h0 x1 h1 2 (by decide) s0 hs0 M hM) (xsb_s (xsb_s (xsb_n xsb_0))) (by decide) (by decide)
theorem mX12_recall {l : Launch} {G : xG} (hl : l.stackTraces = false) (x0 : Nat) (h0 : xOb 12 x0) (x1 : Int) (h1 : R32 x1) (M : xM) (hM : xcan M) : Cm l G yX12_recall cX12_recall 3 (some .long) 3 2 0 0 [.ref x0, iv x1] M (fX12_recall x0 x1 M) := by
  refine xcm_of (u := uX12_recall) (ls := [some (.ref x0), some (iv x1), none]) 1 hl rfl (by decide +kernel) (Nat.le_of_ble_eq_true rfl) rfl ?_
  unfold fX12_recall
  refine xg_aload_n dX12_recall_0 (Eq.refl 1) rfl ?_
  refine xg_iload_n dX12_recall_1 (Eq.refl 2) rfl ?_
  refine xg_callV_Z (kc := 0) (ks := 0) (st := []) (mX12_isLoan hl x0 h0 x1 h1 M hM) bX12_isLoan xcl12 h0 rfl xq_1190 rfl (by decide) rfl (by decide) dX12_recall_2 (Eq.refl 5) rfl (by decide) (by decide) ?_
  intro z1 M2 hz1 hM2
  refine xg_istore_n (ls2 := [some (.ref x0), some (iv x1), some (iv z1)]) dX12_recall_5 (Eq.refl 6) (by decide) rfl ?_
  refine xg_aload_n dX12_recall_6 (Eq.refl 7) rfl ?_
  refine xg_iload_n dX12_recall_7 (Eq.refl 8) rfl ?_
  refine xg_if_ne (tgt := 15) dX12_recall_8 (Eq.refl 11) (by decide) (B01.r hz1) ?_ ?_
  · refine xg_iconst dX12_recall_11 (Eq.refl 12) ?_
    refine xg_goto (tgt := 50) dX12_recall_12 (by decide) ?_
    exact xg_jump (gX12_recall_50 hl x0 h0 x1 h1 1 (by decide) x0 h0 M2 hM2) (xsb_s (xsb_s (xsb_n xsb_0))) (by decide) (by decide)
  · refine xg_aload_n dX12_recall_15 (Eq.refl 16) rfl ?_
    refine xg_getR (k := 0) xcl12 h0 rfl xq_122 rfl (xt_12_0 h0).1 dX12_recall_16 (Eq.refl 19) ?_
    refine xg_sipush dX12_recall_19 (Eq.refl 22) (by decide +kernel) ?_
    refine xg_iload_n dX12_recall_22 (Eq.refl 23) rfl ?_
    refine xg_iadd dX12_recall_23 (Eq.refl 24) ?_
    refine xg_lald (xt_12_0 h0).2 dX12_recall_24 (Eq.refl 25) ?_
    refine xg_lconst (z := 0) dX12_recall_25 (Eq.refl 26) rfl ?_
    refine xg_lif_lt (tgt := 45) dX12_recall_26 (Eq.refl 27) dX12_recall_27 (Eq.refl 30) (by decide) (hM2.aj (xt_12_0 h0).2) (by decide) ?_ ?_
    · exact xg_jump (gX12_recall_45 hl x0 h0 x1 h1 x0 h0 M2 hM2) (xsb_s (xsb_s (xsb_n xsb_0))) (by decide) (by decide)
    · refine xg_aload_n dX12_recall_30 (Eq.refl 31) rfl ?_
      refine xg_getR (k := 0) xcl12 h0 rfl xq_122 rfl (xt_12_0 h0).1 dX12_recall_31 (Eq.refl 34) ?_
      refine xg_sipush dX12_recall_34 (Eq.refl 37) (by decide +kernel) ?_
      refine xg_iload_n dX12_recall_37 (Eq.refl 38) rfl ?_
      refine xg_iadd dX12_recall_38 (Eq.refl 39) ?_
      refine xg_lald (xt_12_0 h0).2 dX12_recall_39 (Eq.refl 40) ?_
      refine xg_lconst (z := 1) dX12_recall_40 (Eq.refl 41) rfl ?_
      refine xg_lif_ne (tgt := 49) dX12_recall_41 (Eq.refl 42) dX12_recall_42 (Eq.refl 45) (by decide) (hM2.aj (xt_12_0 h0).2) (by decide) ?_ ?_
      · exact xg_jump (gX12_recall_45 hl x0 h0 x1 h1 x0 h0 M2 hM2) (xsb_s (xsb_s (xsb_n xsb_0))) (by decide) (by decide)
      · refine xg_iconst dX12_recall_49 (Eq.refl 50) ?_
        exact xg_jump (gX12_recall_50 hl x0 h0 x1 h1 0 (by decide) x0 h0 M2 hM2) (xsb_s (xsb_s (xsb_n xsb_0))) (by decide) (by decide)
abbrev uX12_keep : xU := (RX12, cX12_keep, 2, (some .int), [], "keep")
theorem bX12_keep : xYV yX12_keep cX12_keep 2 (some .int) 0 := ⟨xq_1283, xq_1284, xq_5, xq_1285, ⟨by decide +kernel, by decide +kernel, by decide +kernel⟩, by decide⟩
theorem gX12_keep_13 {l : Launch} {G : xG} (hl : l.stackTraces = false) (x0 : Nat) (h0 : xOb 12 x0) : ∀ (n : Nat) (x1 : Int) (_ : R32 x1) (M : xM) (_ : xcan M), Gv l G uX12_keep 2 0 0 0 13 [some (.ref x0), some (iv x1)] [] M (fX12_keep_13 x0 n x1 M) := by
  intro n; induction n with
  | zero => intro x1 h1 M hM; exact xg_none
  | succ n ih =>
    intro x1 h1 M hM
    rw [fX12_keep_13]
    refine xg_iload_n dX12_keep_13 (Eq.refl 14) rfl ?_
    refine xg_sipush dX12_keep_14 (Eq.refl 17) (by decide +kernel) ?_
    refine xg_icmp_ge (tgt := 38) dX12_keep_17 (Eq.refl 20) (by decide) h1 (by decide) ?_ ?_
    · refine xg_aload_n dX12_keep_38 (Eq.refl 39) rfl ?_
      refine xg_getR (k := 0) xcl12 h0 rfl xq_122 rfl (xt_12_0 h0).1 dX12_keep_39 (Eq.refl 42) ?_
      refine xg_sipush dX12_keep_42 (Eq.refl 45) (by decide +kernel) ?_
      refine xg_laldk (k := 1547) (xt_12_0 h0).2 dX12_keep_45 (Eq.refl 46) rfl (by decide) ?_
      refine xg_l2i dX12_keep_46 (Eq.refl 47) ?_
      exact xg_iret rfl dX12_keep_47 rfl hM (w32_r _)
    · refine xg_aload_n dX12_keep_20 (Eq.refl 21) rfl ?_
      refine xg_getR (k := 1) xcl12 h0 rfl xq_123 rfl (xt_12_1 h0).1 dX12_keep_21 (Eq.refl 24) ?_
      refine xg_iload_n dX12_keep_24 (Eq.refl 25) rfl ?_
      refine xg_aload_n dX12_keep_25 (Eq.refl 26) rfl ?_
      refine xg_getR (k := 0) xcl12 h0 rfl xq_122 rfl (xt_12_0 h0).1 dX12_keep_26 (Eq.refl 29) ?_
      refine xg_iload_n dX12_keep_29 (Eq.refl 30) rfl ?_
      refine xg_lald (xt_12_0 h0).2 dX12_keep_30 (Eq.refl 31) ?_
      refine xg_last (xt_12_1 h0).2 dX12_keep_31 (Eq.refl 32) hM (hM.aj (xt_12_0 h0).2) ?_
      intro M1 hM1
      refine xg_iinc (ls2 := [some (.ref x0), some (iv (w32 (x1 + 1)))]) dX12_keep_32 (Eq.refl 35) rfl (by decide) rfl ?_
      refine xg_goto (tgt := 13) dX12_keep_35 (by decide) ?_
      exact xg_jump (ih (w32 (x1 + 1)) (w32_r _) M1 hM1) (xsb_s (xsb_s xsb_0)) (by decide) (by decide)
theorem mX12_keep {l : Launch} {G : xG} (hl : l.stackTraces = false) (x0 : Nat) (h0 : xOb 12 x0) (M : xM) (hM : xcan M) : Cm l G yX12_keep cX12_keep 2 (some .int) 2 0 0 0 [.ref x0] M (fX12_keep x0 M) := by
  refine xcm_of (u := uX12_keep) (ls := [some (.ref x0), none]) 1 hl rfl (by decide +kernel) (Nat.le_of_ble_eq_true rfl) rfl ?_
  unfold fX12_keep
  refine xg_aload_n dX12_keep_0 (Eq.refl 1) rfl ?_
  refine xg_iconst dX12_keep_1 (Eq.refl 2) ?_
  refine xg_callV_Z (kc := 0) (ks := 0) (st := []) (mX12_holds hl x0 h0 0 (by decide) M hM) bX12_holds xcl12 h0 rfl xq_187 rfl (by decide) rfl (by decide) dX12_keep_2 (Eq.refl 5) rfl (by decide) (by decide) ?_
  intro z1 M2 hz1 hM2
  refine xg_pop dX12_keep_5 (Eq.refl 6) rfl ?_
  refine xg_aload_n dX12_keep_6 (Eq.refl 7) rfl ?_
  refine xg_iconst dX12_keep_7 (Eq.refl 8) ?_
  refine xg_putZ (k := 2) xcl12 h0 rfl xq_1286 rfl (by decide +kernel) dX12_keep_8 (Eq.refl 11) rfl hM2 (by decide) ?_
  intro M3 hM3
  refine xg_iconst dX12_keep_11 (Eq.refl 12) ?_
  refine xg_istore_n (ls2 := [some (.ref x0), some (iv 0)]) dX12_keep_12 (Eq.refl 13) (by decide) rfl ?_
  exact xg_jump (gX12_keep_13 hl x0 h0 xN 0 (by decide) M3 hM3) (xsb_s (xsb_s xsb_0)) (by decide) (by decide)
abbrev uX12_goBack : xU := (RX12, cX12_goBack, 2, (some .int), [], "goBack")
theorem bX12_goBack : xYV yX12_goBack cX12_goBack 2 (some .int) 0 := ⟨xq_1295, xq_1296, xq_5, xq_1297, ⟨by decide +kernel, by decide +kernel, by decide +kernel⟩, by decide⟩
theorem gX12_goBack_23 {l : Launch} {G : xG} (hl : l.stackTraces = false) (x0 : Nat) (h0 : xOb 12 x0) : ∀ (n : Nat) (x1 : Int) (_ : R32 x1) (M : xM) (_ : xcan M), Gv l G uX12_goBack 2 0 0 0 23 [some (.ref x0), some (iv x1)] [] M (fX12_goBack_23 x0 n x1 M) := by
  intro n; induction n with
  | zero => intro x1 h1 M hM; exact xg_none
  | succ n ih =>
    intro x1 h1 M hM
    rw [fX12_goBack_23]
    refine xg_iload_n dX12_goBack_23 (Eq.refl 24) rfl ?_
    refine xg_sipush dX12_goBack_24 (Eq.refl 27) (by decide +kernel) ?_
    refine xg_icmp_ge (tgt := 48) dX12_goBack_27 (Eq.refl 30) (by decide) h1 (by decide) ?_ ?_
    · refine xg_aload_n dX12_goBack_48 (Eq.refl 49) rfl ?_
      refine xg_getR (k := 0) xcl12 h0 rfl xq_122 rfl (xt_12_0 h0).1 dX12_goBack_49 (Eq.refl 52) ?_
      refine xg_sipush dX12_goBack_52 (Eq.refl 55) (by decide +kernel) ?_
      refine xg_laldk (k := 1547) (xt_12_0 h0).2 dX12_goBack_55 (Eq.refl 56) rfl (by decide) ?_
      refine xg_l2i dX12_goBack_56 (Eq.refl 57) ?_
      exact xg_iret rfl dX12_goBack_57 rfl hM (w32_r _)
    · refine xg_aload_n dX12_goBack_30 (Eq.refl 31) rfl ?_
      refine xg_getR (k := 0) xcl12 h0 rfl xq_122 rfl (xt_12_0 h0).1 dX12_goBack_31 (Eq.refl 34) ?_
      refine xg_iload_n dX12_goBack_34 (Eq.refl 35) rfl ?_
      refine xg_aload_n dX12_goBack_35 (Eq.refl 36) rfl ?_
      refine xg_getR (k := 1) xcl12 h0 rfl xq_123 rfl (xt_12_1 h0).1 dX12_goBack_36 (Eq.refl 39) ?_
      refine xg_iload_n dX12_goBack_39 (Eq.refl 40) rfl ?_
      refine xg_lald (xt_12_1 h0).2 dX12_goBack_40 (Eq.refl 41) ?_
      refine xg_last (xt_12_0 h0).2 dX12_goBack_41 (Eq.refl 42) hM (hM.aj (xt_12_1 h0).2) ?_
      intro M1 hM1
      refine xg_iinc (ls2 := [some (.ref x0), some (iv (w32 (x1 + 1)))]) dX12_goBack_42 (Eq.refl 45) rfl (by decide) rfl ?_
      refine xg_goto (tgt := 23) dX12_goBack_45 (by decide) ?_
      exact xg_jump (ih (w32 (x1 + 1)) (w32_r _) M1 hM1) (xsb_s (xsb_s xsb_0)) (by decide) (by decide)
theorem gX12_goBack_13 {l : Launch} {G : xG} (hl : l.stackTraces = false) (x0 : Nat) (h0 : xOb 12 x0) (s0 : Int) (hs0 : B01 s0) (s1 : Nat) (hs1 : xOb 12 s1) (M : xM) (hM : xcan M) : Gv l G uX12_goBack 2 0 0 0 13 [some (.ref x0), none] [iv s0, .ref s1] M (fX12_goBack_13 x0 s0 s1 M) := by
  unfold fX12_goBack_13
  refine xg_callV_Z (kc := 0) (ks := 0) (st := []) (mX12_holds hl s1 hs1 s0 (B01.r hs0) M hM) bX12_holds xcl12 hs1 rfl xq_187 rfl (by decide) rfl (by decide) dX12_goBack_13 (Eq.refl 16) rfl (by decide) (by decide) ?_
  intro z1 M2 hz1 hM2
  refine xg_if_eq (tgt := 21) dX12_goBack_16 (Eq.refl 19) (by decide) (B01.r hz1) ?_ ?_
  · refine xg_iconst dX12_goBack_21 (Eq.refl 22) ?_
    refine xg_istore_n (ls2 := [some (.ref x0), some (iv 0)]) dX12_goBack_22 (Eq.refl 23) (by decide) rfl ?_
    exact xg_jump (gX12_goBack_23 hl x0 h0 xN 0 (by decide) M2 hM2) (xsb_s (xsb_s xsb_0)) (by decide) (by decide)
  · refine xg_iconst dX12_goBack_19 (Eq.refl 20) ?_
    exact xg_iret rfl dX12_goBack_20 rfl hM2 (by decide)
theorem mX12_goBack {l : Launch} {G : xG} (hl : l.stackTraces = false) (x0 : Nat) (h0 : xOb 12 x0) (M : xM) (hM : xcan M) : Cm l G yX12_goBack cX12_goBack 2 (some .int) 2 0 0 0 [.ref x0] M (fX12_goBack x0 M) := by
  refine xcm_of (u := uX12_goBack) (ls := [some (.ref x0), none]) 1 hl rfl (by decide +kernel) (Nat.le_of_ble_eq_true rfl) rfl ?_
  unfold fX12_goBack
  refine xg_aload_n dX12_goBack_0 (Eq.refl 1) rfl ?_
  refine xg_aload_n dX12_goBack_1 (Eq.refl 2) rfl ?_
  refine xg_getZ (k := 2) xcl12 h0 rfl xq_1286 rfl dX12_goBack_2 (Eq.refl 5) hM ?_
  refine xg_if_eq (tgt := 12) dX12_goBack_5 (Eq.refl 8) (by decide) (B01.r (hM.Z h0 rfl)) ?_ ?_
  · refine xg_iconst dX12_goBack_12 (Eq.refl 13) ?_
    exact xg_jump (gX12_goBack_13 hl x0 h0 1 (by decide) x0 h0 M hM) (xsb_s (xsb_n xsb_0)) (by decide) (by decide)
  · refine xg_iconst dX12_goBack_8 (Eq.refl 9) ?_
    refine xg_goto (tgt := 13) dX12_goBack_9 (by decide) ?_
    exact xg_jump (gX12_goBack_13 hl x0 h0 0 (by decide) x0 h0 M hM) (xsb_s (xsb_n xsb_0)) (by decide) (by decide)
abbrev uX12_announce : xU := (RX12, cX12_announce, 11, (some .int), [], "announce")
theorem bX12_announce : xYV yX12_announce cX12_announce 11 (some .int) 7 := ⟨xq_1315, xq_1316, xq_5, xq_1317, ⟨by decide +kernel, by decide +kernel, by decide +kernel⟩, by decide⟩
theorem gX12_announce_374 {l : Launch} {G : xG} (hl : l.stackTraces = false) (x0 : Nat) (h0 : xOb 12 x0) (x9 : Int) (h9 : R32 x9) : ∀ (n : Nat) (x10 : Int) (_ : R32 x10) (M : xM) (_ : xcan M), Gv l G uX12_announce 3 0 0 0 374 [some (.ref x0), none, none, none, none, none, none, none, none, some (iv x9), some (iv x10)] [] M (fX12_announce_374 x0 x9 n x10 M) := by
  intro n; induction n with
  | zero => intro x10 h10 M hM; exact xg_none
  | succ n ih =>
    intro x10 h10 M hM
    rw [fX12_announce_374]
    refine xg_iload dX12_announce_374 (Eq.refl 376) rfl ?_
    refine xg_bipush dX12_announce_376 (Eq.refl 378) (by decide +kernel) ?_
    refine xg_icmp_ge (tgt := 405) dX12_announce_378 (Eq.refl 381) (by decide) h10 (by decide) ?_ ?_
    · refine xg_aload_n dX12_announce_405 (Eq.refl 406) rfl ?_
      refine xg_getR (k := 0) xcl12 h0 rfl xq_122 rfl (xt_12_0 h0).1 dX12_announce_406 (Eq.refl 409) ?_
      refine xg_sipush dX12_announce_409 (Eq.refl 412) (by decide +kernel) ?_
      refine xg_dup2 dX12_announce_412 (Eq.refl 413) rfl rfl ?_
      refine xg_laldk (k := 1546) (xt_12_0 h0).2 dX12_announce_413 (Eq.refl 414) rfl (by decide) ?_
      refine xg_lconst (z := 1) dX12_announce_414 (Eq.refl 415) rfl ?_
      refine xg_ladd dX12_announce_415 (Eq.refl 416) ?_
      refine xg_lastk (k := 1546) (xt_12_0 h0).2 dX12_announce_416 (Eq.refl 417) rfl (by decide) hM (w64_r _) ?_
      intro M1 hM1
      refine xg_iload dX12_announce_417 (Eq.refl 419) rfl ?_
      exact xg_iret rfl dX12_announce_419 rfl hM1 h9
    · refine xg_aload_n dX12_announce_381 (Eq.refl 382) rfl ?_
      refine xg_getR (k := 0) xcl12 h0 rfl xq_122 rfl (xt_12_0 h0).1 dX12_announce_382 (Eq.refl 385) ?_
      refine xg_sipush dX12_announce_385 (Eq.refl 388) (by decide +kernel) ?_
      refine xg_bipush dX12_announce_388 (Eq.refl 390) (by decide +kernel) ?_
      refine xg_iload dX12_announce_390 (Eq.refl 392) rfl ?_
      refine xg_imul dX12_announce_392 (Eq.refl 393) ?_
      refine xg_iadd dX12_announce_393 (Eq.refl 394) ?_
      refine xg_iload dX12_announce_394 (Eq.refl 396) rfl ?_
      refine xg_iadd dX12_announce_396 (Eq.refl 397) ?_
      refine xg_lconst (z := 0) dX12_announce_397 (Eq.refl 398) rfl ?_
      refine xg_last (xt_12_0 h0).2 dX12_announce_398 (Eq.refl 399) hM (by decide) ?_
      intro M2 hM2
      refine xg_iinc (ls2 := [some (.ref x0), none, none, none, none, none, none, none, none, some (iv x9), some (iv (w32 (x10 + 1)))]) dX12_announce_399 (Eq.refl 402) rfl (by decide) rfl ?_
      refine xg_goto (tgt := 374) dX12_announce_402 (by decide) ?_
      exact xg_jump (ih (w32 (x10 + 1)) (w32_r _) M2 hM2) (xsb_s (xsb_n (xsb_n (xsb_n (xsb_n (xsb_n (xsb_n (xsb_n (xsb_n (xsb_s (xsb_s xsb_0))))))))))) (by decide) (by decide)
theorem gX12_announce_322 {l : Launch} {G : xG} (hl : l.stackTraces = false) (x0 : Nat) (h0 : xOb 12 x0) (x9 : Int) (h9 : R32 x9) : ∀ (n : Nat) (x10 : Int) (_ : R32 x10) (M : xM) (_ : xcan M), Gv l G uX12_announce 3 0 0 0 322 [some (.ref x0), none, none, none, none, none, none, none, none, some (iv x9), some (iv x10)] [] M (fX12_announce_322 x0 x9 n x10 M) := by
  intro n; induction n with
  | zero => intro x10 h10 M hM; exact xg_none
  | succ n ih =>
    intro x10 h10 M hM
    rw [fX12_announce_322]
    refine xg_iload dX12_announce_322 (Eq.refl 324) rfl ?_
    refine xg_bipush dX12_announce_324 (Eq.refl 326) (by decide +kernel) ?_
    refine xg_icmp_ge (tgt := 371) dX12_announce_326 (Eq.refl 329) (by decide) h10 (by decide) ?_ ?_
    · refine xg_iconst dX12_announce_371 (Eq.refl 372) ?_
      refine xg_istore (ls2 := [some (.ref x0), none, none, none, none, none, none, none, none, some (iv x9), some (iv 0)]) dX12_announce_372 (Eq.refl 374) (by decide) rfl ?_
      exact xg_jump (gX12_announce_374 hl x0 h0 x9 h9 xN 0 (by decide) M hM) (xsb_s (xsb_n (xsb_n (xsb_n (xsb_n (xsb_n (xsb_n (xsb_n (xsb_n (xsb_s (xsb_s xsb_0))))))))))) (by decide) (by decide)
    · refine xg_aload_n dX12_announce_329 (Eq.refl 330) rfl ?_
      refine xg_getR (k := 0) xcl12 h0 rfl xq_122 rfl (xt_12_0 h0).1 dX12_announce_330 (Eq.refl 333) ?_
      refine xg_sipush dX12_announce_333 (Eq.refl 336) (by decide +kernel) ?_
      refine xg_bipush dX12_announce_336 (Eq.refl 338) (by decide +kernel) ?_
      refine xg_iload dX12_announce_338 (Eq.refl 340) rfl ?_
      refine xg_imul dX12_announce_340 (Eq.refl 341) ?_
      refine xg_iadd dX12_announce_341 (Eq.refl 342) ?_
      refine xg_iload dX12_announce_342 (Eq.refl 344) rfl ?_
      refine xg_iadd dX12_announce_344 (Eq.refl 345) ?_
      refine xg_lconst (z := 0) dX12_announce_345 (Eq.refl 346) rfl ?_
      refine xg_last (xt_12_0 h0).2 dX12_announce_346 (Eq.refl 347) hM (by decide) ?_
      intro M1 hM1
      refine xg_aload_n dX12_announce_347 (Eq.refl 348) rfl ?_
      refine xg_getR (k := 0) xcl12 h0 rfl xq_122 rfl (xt_12_0 h0).1 dX12_announce_348 (Eq.refl 351) ?_
      refine xg_sipush dX12_announce_351 (Eq.refl 354) (by decide +kernel) ?_
      refine xg_bipush dX12_announce_354 (Eq.refl 356) (by decide +kernel) ?_
      refine xg_iload dX12_announce_356 (Eq.refl 358) rfl ?_
      refine xg_imul dX12_announce_358 (Eq.refl 359) ?_
      refine xg_iadd dX12_announce_359 (Eq.refl 360) ?_
      refine xg_iload dX12_announce_360 (Eq.refl 362) rfl ?_
      refine xg_iadd dX12_announce_362 (Eq.refl 363) ?_
      refine xg_lconst (z := 0) dX12_announce_363 (Eq.refl 364) rfl ?_
      refine xg_last (xt_12_0 h0).2 dX12_announce_364 (Eq.refl 365) hM1 (by decide) ?_
      intro M2 hM2
      refine xg_iinc (ls2 := [some (.ref x0), none, none, none, none, none, none, none, none, some (iv x9), some (iv (w32 (x10 + 1)))]) dX12_announce_365 (Eq.refl 368) rfl (by decide) rfl ?_
      refine xg_goto (tgt := 322) dX12_announce_368 (by decide) ?_
      exact xg_jump (ih (w32 (x10 + 1)) (w32_r _) M2 hM2) (xsb_s (xsb_n (xsb_n (xsb_n (xsb_n (xsb_n (xsb_n (xsb_n (xsb_n (xsb_s (xsb_s xsb_0))))))))))) (by decide) (by decide)
theorem gX12_announce_181 {l : Launch} {G : xG} (hl : l.stackTraces = false) (x0 : Nat) (h0 : xOb 12 x0) (x1 : Int) (h1 : R32 x1) (x2 : Int) (h2 : R32 x2) (x3 : Int) (h3 : R32 x3) (x4 : Int) (h4 : R32 x4) (x5 : Int) (h5 : R32 x5) (x6 : Int) (h6 : R32 x6) (x7 : Int) (h7 : R32 x7) (s0 : Int) (hs0 : R32 s0) (s1 : Nat) (hs1 : xOb 12 s1) (M : xM) (hM : xcan M) : Gv l G uX12_announce 3 0 0 0 181 [some (.ref x0), some (iv x1), some (iv x2), some (iv x3), some (iv x4), some (iv x5), some (iv x6), some (iv x7), none, none, none] [iv s0, .ref s1] M (fX12_announce_181 x0 x1 x2 x3 x4 x5 x6 x7 s0 s1 M) := by
  unfold fX12_announce_181
  refine xg_callV_Z (kc := 0) (ks := 0) (st := []) (mX12_holds hl s1 hs1 s0 hs0 M hM) bX12_holds xcl12 hs1 rfl xq_187 rfl (by decide) rfl (by decide) dX12_announce_181 (Eq.refl 184) rfl (by decide) (by decide) ?_
  intro z1 M2 hz1 hM2
  refine xg_if_eq (tgt := 189) dX12_announce_184 (Eq.refl 187) (by decide) (B01.r hz1) ?_ ?_
  · refine xg_aload_n dX12_announce_189 (Eq.refl 190) rfl ?_
    refine xg_getR (k := 0) xcl12 h0 rfl xq_122 rfl (xt_12_0 h0).1 dX12_announce_190 (Eq.refl 193) ?_
    refine xg_sipush dX12_announce_193 (Eq.refl 196) (by decide +kernel) ?_
    refine xg_laldk (k := 1546) (xt_12_0 h0).2 dX12_announce_196 (Eq.refl 197) rfl (by decide) ?_
    refine xg_l2i dX12_announce_197 (Eq.refl 198) ?_
    refine xg_istoreL (P := R32) (ls2 := fun y3 => [some (.ref x0), some (iv x1), some (iv x2), some (iv x3), some (iv x4), some (iv x5), some (iv x6), some (iv x7), none, some (iv y3), none]) dX12_announce_198 (Eq.refl 200) (by decide) (w32_r _) (fun _ => rfl) ?_
    intro y3 hy3
    refine xg_aload_n dX12_announce_200 (Eq.refl 201) rfl ?_
    refine xg_getR (k := 0) xcl12 h0 rfl xq_122 rfl (xt_12_0 h0).1 dX12_announce_201 (Eq.refl 204) ?_
    refine xg_sipush dX12_announce_204 (Eq.refl 207) (by decide +kernel) ?_
    refine xg_iload dX12_announce_207 (Eq.refl 209) rfl ?_
    refine xg_iadd dX12_announce_209 (Eq.refl 210) ?_
    refine xg_iload_n dX12_announce_210 (Eq.refl 211) rfl ?_
    refine xg_i2l dX12_announce_211 (Eq.refl 212) h1 ?_
    refine xg_last (xt_12_0 h0).2 dX12_announce_212 (Eq.refl 213) hM2 (R32.j h1) ?_
    intro M4 hM4
    refine xg_aload_n dX12_announce_213 (Eq.refl 214) rfl ?_
    refine xg_getR (k := 0) xcl12 h0 rfl xq_122 rfl (xt_12_0 h0).1 dX12_announce_214 (Eq.refl 217) ?_
    refine xg_sipush dX12_announce_217 (Eq.refl 220) (by decide +kernel) ?_
    refine xg_iload dX12_announce_220 (Eq.refl 222) rfl ?_
    refine xg_iadd dX12_announce_222 (Eq.refl 223) ?_
    refine xg_iload_n dX12_announce_223 (Eq.refl 224) rfl ?_
    refine xg_i2l dX12_announce_224 (Eq.refl 225) h2 ?_
    refine xg_last (xt_12_0 h0).2 dX12_announce_225 (Eq.refl 226) hM4 (R32.j h2) ?_
    intro M5 hM5
    refine xg_aload_n dX12_announce_226 (Eq.refl 227) rfl ?_
    refine xg_getR (k := 0) xcl12 h0 rfl xq_122 rfl (xt_12_0 h0).1 dX12_announce_227 (Eq.refl 230) ?_
    refine xg_sipush dX12_announce_230 (Eq.refl 233) (by decide +kernel) ?_
    refine xg_iload dX12_announce_233 (Eq.refl 235) rfl ?_
    refine xg_iadd dX12_announce_235 (Eq.refl 236) ?_
    refine xg_iload_n dX12_announce_236 (Eq.refl 237) rfl ?_
    refine xg_i2l dX12_announce_237 (Eq.refl 238) h3 ?_
    refine xg_last (xt_12_0 h0).2 dX12_announce_238 (Eq.refl 239) hM5 (R32.j h3) ?_
    intro M6 hM6
    refine xg_aload_n dX12_announce_239 (Eq.refl 240) rfl ?_
    refine xg_getR (k := 0) xcl12 h0 rfl xq_122 rfl (xt_12_0 h0).1 dX12_announce_240 (Eq.refl 243) ?_
    refine xg_sipush dX12_announce_243 (Eq.refl 246) (by decide +kernel) ?_
    refine xg_iload dX12_announce_246 (Eq.refl 248) rfl ?_
    refine xg_iadd dX12_announce_248 (Eq.refl 249) ?_
    refine xg_iload dX12_announce_249 (Eq.refl 251) rfl ?_
    refine xg_i2l dX12_announce_251 (Eq.refl 252) h4 ?_
    refine xg_last (xt_12_0 h0).2 dX12_announce_252 (Eq.refl 253) hM6 (R32.j h4) ?_
    intro M7 hM7
    refine xg_aload_n dX12_announce_253 (Eq.refl 254) rfl ?_
    refine xg_getR (k := 0) xcl12 h0 rfl xq_122 rfl (xt_12_0 h0).1 dX12_announce_254 (Eq.refl 257) ?_
    refine xg_sipush dX12_announce_257 (Eq.refl 260) (by decide +kernel) ?_
    refine xg_iload dX12_announce_260 (Eq.refl 262) rfl ?_
    refine xg_iadd dX12_announce_262 (Eq.refl 263) ?_
    refine xg_iload dX12_announce_263 (Eq.refl 265) rfl ?_
    refine xg_i2l dX12_announce_265 (Eq.refl 266) h5 ?_
    refine xg_last (xt_12_0 h0).2 dX12_announce_266 (Eq.refl 267) hM7 (R32.j h5) ?_
    intro M8 hM8
    refine xg_aload_n dX12_announce_267 (Eq.refl 268) rfl ?_
    refine xg_getR (k := 0) xcl12 h0 rfl xq_122 rfl (xt_12_0 h0).1 dX12_announce_268 (Eq.refl 271) ?_
    refine xg_sipush dX12_announce_271 (Eq.refl 274) (by decide +kernel) ?_
    refine xg_iload dX12_announce_274 (Eq.refl 276) rfl ?_
    refine xg_iadd dX12_announce_276 (Eq.refl 277) ?_
    refine xg_iload dX12_announce_277 (Eq.refl 279) rfl ?_
    refine xg_i2l dX12_announce_279 (Eq.refl 280) h6 ?_
    refine xg_last (xt_12_0 h0).2 dX12_announce_280 (Eq.refl 281) hM8 (R32.j h6) ?_
    intro M9 hM9
    refine xg_aload_n dX12_announce_281 (Eq.refl 282) rfl ?_
    refine xg_getR (k := 0) xcl12 h0 rfl xq_122 rfl (xt_12_0 h0).1 dX12_announce_282 (Eq.refl 285) ?_
    refine xg_sipush dX12_announce_285 (Eq.refl 288) (by decide +kernel) ?_
    refine xg_iload dX12_announce_288 (Eq.refl 290) rfl ?_
    refine xg_iadd dX12_announce_290 (Eq.refl 291) ?_
    refine xg_iload dX12_announce_291 (Eq.refl 293) rfl ?_
    refine xg_i2l dX12_announce_293 (Eq.refl 294) h7 ?_
    refine xg_last (xt_12_0 h0).2 dX12_announce_294 (Eq.refl 295) hM9 (R32.j h7) ?_
    intro M10 hM10
    refine xg_aload_n dX12_announce_295 (Eq.refl 296) rfl ?_
    refine xg_getR (k := 0) xcl12 h0 rfl xq_122 rfl (xt_12_0 h0).1 dX12_announce_296 (Eq.refl 299) ?_
    refine xg_sipush dX12_announce_299 (Eq.refl 302) (by decide +kernel) ?_
    refine xg_iload dX12_announce_302 (Eq.refl 304) rfl ?_
    refine xg_iadd dX12_announce_304 (Eq.refl 305) ?_
    refine xg_lconst (z := 0) dX12_announce_305 (Eq.refl 306) rfl ?_
    refine xg_last (xt_12_0 h0).2 dX12_announce_306 (Eq.refl 307) hM10 (by decide) ?_
    intro M11 hM11
    refine xg_aload_n dX12_announce_307 (Eq.refl 308) rfl ?_
    refine xg_getR (k := 0) xcl12 h0 rfl xq_122 rfl (xt_12_0 h0).1 dX12_announce_308 (Eq.refl 311) ?_
    refine xg_sipush dX12_announce_311 (Eq.refl 314) (by decide +kernel) ?_
    refine xg_iload dX12_announce_314 (Eq.refl 316) rfl ?_
    refine xg_iadd dX12_announce_316 (Eq.refl 317) ?_
    refine xg_lconst (z := 0) dX12_announce_317 (Eq.refl 318) rfl ?_
    refine xg_last (xt_12_0 h0).2 dX12_announce_318 (Eq.refl 319) hM11 (by decide) ?_
    intro M12 hM12
    refine xg_iconst dX12_announce_319 (Eq.refl 320) ?_
    refine xg_istore (ls2 := [some (.ref x0), some (iv x1), some (iv x2), some (iv x3), some (iv x4), some (iv x5), some (iv x6), some (iv x7), none, some (iv y3), some (iv 0)]) dX12_announce_320 (Eq.refl 322) (by decide) rfl ?_
    exact xg_jump (gX12_announce_322 hl x0 h0 y3 hy3 xN 0 (by decide) M12 hM12) (xsb_s (xsb_n (xsb_n (xsb_n (xsb_n (xsb_n (xsb_n (xsb_n (xsb_n (xsb_s (xsb_s xsb_0))))))))))) (by decide) (by decide)
  · refine xg_iconst dX12_announce_187 (Eq.refl 188) ?_
    exact xg_iret rfl dX12_announce_188 rfl hM2 (by decide)
theorem gX12_announce_136 {l : Launch} {G : xG} (hl : l.stackTraces = false) (x0 : Nat) (h0 : xOb 12 x0) (x1 : Int) (h1 : R32 x1) (x2 : Int) (h2 : R32 x2) (x3 : Int) (h3 : R32 x3) (x4 : Int) (h4 : R32 x4) (x5 : Int) (h5 : R32 x5) (x6 : Int) (h6 : R32 x6) (x7 : Int) (h7 : R32 x7) (s0 : Int) (hs0 : B01 s0) (s1 : Int) (hs1 : B01 s1) (M : xM) (hM : xcan M) : Gv l G uX12_announce 3 0 0 0 136 [some (.ref x0), some (iv x1), some (iv x2), some (iv x3), some (iv x4), some (iv x5), some (iv x6), some (iv x7), none, none, none] [iv s0, iv s1] M (fX12_announce_136 x0 x1 x2 x3 x4 x5 x6 x7 s0 s1 M) := by
  unfold fX12_announce_136
  refine xg_iand dX12_announce_136 (Eq.refl 137) ?_
  refine xg_istore (ls2 := [some (.ref x0), some (iv x1), some (iv x2), some (iv x3), some (iv x4), some (iv x5), some (iv x6), some (iv x7), some (iv (xand s1 s0)), none, none]) dX12_announce_137 (Eq.refl 139) (by decide) rfl ?_
  refine xg_aload_n dX12_announce_139 (Eq.refl 140) rfl ?_
  refine xg_aload_n dX12_announce_140 (Eq.refl 141) rfl ?_
  refine xg_iload_n dX12_announce_141 (Eq.refl 142) rfl ?_
  refine xg_callV_Z (kc := 0) (ks := 0) (st := [.ref x0]) (mX12_isSecurity hl x0 h0 x2 h2 M hM) bX12_isSecurity xcl12 h0 rfl xq_293 rfl (by decide) rfl (Nat.le_of_ble_eq_true rfl) dX12_announce_142 (Eq.refl 145) rfl (by decide) (by decide) ?_
  intro z1 M2 hz1 hM2
  refine xg_if_ne (tgt := 152) dX12_announce_145 (Eq.refl 148) (by decide) (B01.r hz1) ?_ ?_
  · refine xg_iconst dX12_announce_148 (Eq.refl 149) ?_
    refine xg_goto (tgt := 181) dX12_announce_149 (by decide) ?_
    exact xg_jump (gX12_announce_181 hl x0 h0 x1 h1 x2 h2 x3 h3 x4 h4 x5 h5 x6 h6 x7 h7 1 (by decide) x0 h0 M2 hM2) (xsb_s (xsb_s (xsb_s (xsb_s (xsb_s (xsb_s (xsb_s (xsb_s (xsb_n (xsb_n (xsb_n xsb_0))))))))))) (by decide) (by decide)
  · refine xg_iload dX12_announce_152 (Eq.refl 154) rfl ?_
    refine xg_if_ne (tgt := 161) dX12_announce_154 (Eq.refl 157) (by decide) (B01.r (xand_b hs1 hs0)) ?_ ?_
    · refine xg_iconst dX12_announce_157 (Eq.refl 158) ?_
      refine xg_goto (tgt := 181) dX12_announce_158 (by decide) ?_
      exact xg_jump (gX12_announce_181 hl x0 h0 x1 h1 x2 h2 x3 h3 x4 h4 x5 h5 x6 h6 x7 h7 2 (by decide) x0 h0 M2 hM2) (xsb_s (xsb_s (xsb_s (xsb_s (xsb_s (xsb_s (xsb_s (xsb_s (xsb_n (xsb_n (xsb_n xsb_0))))))))))) (by decide) (by decide)
    · refine xg_aload_n dX12_announce_161 (Eq.refl 162) rfl ?_
      refine xg_getR (k := 0) xcl12 h0 rfl xq_122 rfl (xt_12_0 h0).1 dX12_announce_162 (Eq.refl 165) ?_
      refine xg_sipush dX12_announce_165 (Eq.refl 168) (by decide +kernel) ?_
      refine xg_laldk (k := 1546) (xt_12_0 h0).2 dX12_announce_168 (Eq.refl 169) rfl (by decide) ?_
      refine xg_ldc2 (z := 10) xq_178 dX12_announce_169 (Eq.refl 172) (by decide +kernel) ?_
      refine xg_lif_ne (tgt := 180) dX12_announce_172 (Eq.refl 173) dX12_announce_173 (Eq.refl 176) (by decide) (hM2.aj (xt_12_0 h0).2) (by decide) ?_ ?_
      · refine xg_iconst dX12_announce_176 (Eq.refl 177) ?_
        refine xg_goto (tgt := 181) dX12_announce_177 (by decide) ?_
        exact xg_jump (gX12_announce_181 hl x0 h0 x1 h1 x2 h2 x3 h3 x4 h4 x5 h5 x6 h6 x7 h7 3 (by decide) x0 h0 M2 hM2) (xsb_s (xsb_s (xsb_s (xsb_s (xsb_s (xsb_s (xsb_s (xsb_s (xsb_n (xsb_n (xsb_n xsb_0))))))))))) (by decide) (by decide)
      · refine xg_iconst dX12_announce_180 (Eq.refl 181) ?_
        exact xg_jump (gX12_announce_181 hl x0 h0 x1 h1 x2 h2 x3 h3 x4 h4 x5 h5 x6 h6 x7 h7 0 (by decide) x0 h0 M2 hM2) (xsb_s (xsb_s (xsb_s (xsb_s (xsb_s (xsb_s (xsb_s (xsb_s (xsb_n (xsb_n (xsb_n xsb_0))))))))))) (by decide) (by decide)
theorem gX12_announce_135 {l : Launch} {G : xG} (hl : l.stackTraces = false) (x0 : Nat) (h0 : xOb 12 x0) (x1 : Int) (h1 : R32 x1) (x2 : Int) (h2 : R32 x2) (x3 : Int) (h3 : R32 x3) (x4 : Int) (h4 : R32 x4) (x5 : Int) (h5 : R32 x5) (x6 : Int) (h6 : R32 x6) (x7 : Int) (h7 : R32 x7) (s0 : Int) (hs0 : B01 s0) (M : xM) (hM : xcan M) : Gv l G uX12_announce 3 0 0 0 135 [some (.ref x0), some (iv x1), some (iv x2), some (iv x3), some (iv x4), some (iv x5), some (iv x6), some (iv x7), none, none, none] [iv s0] M (fX12_announce_135 x0 x1 x2 x3 x4 x5 x6 x7 s0 M) := by
  unfold fX12_announce_135
  refine xg_iconst dX12_announce_135 (Eq.refl 136) ?_
  exact xg_jump (gX12_announce_136 hl x0 h0 x1 h1 x2 h2 x3 h3 x4 h4 x5 h5 x6 h6 x7 h7 0 (by decide) s0 hs0 M hM) (xsb_s (xsb_s (xsb_s (xsb_s (xsb_s (xsb_s (xsb_s (xsb_s (xsb_n (xsb_n (xsb_n xsb_0))))))))))) (by decide) (by decide)
theorem gX12_announce_94 {l : Launch} {G : xG} (hl : l.stackTraces = false) (x0 : Nat) (h0 : xOb 12 x0) (x1 : Int) (h1 : R32 x1) (x2 : Int) (h2 : R32 x2) (x3 : Int) (h3 : R32 x3) (x4 : Int) (h4 : R32 x4) (x5 : Int) (h5 : R32 x5) (x6 : Int) (h6 : R32 x6) (x7 : Int) (h7 : R32 x7) (s0 : Int) (hs0 : B01 s0) (M : xM) (hM : xcan M) : Gv l G uX12_announce 3 0 0 0 94 [some (.ref x0), some (iv x1), some (iv x2), some (iv x3), some (iv x4), some (iv x5), some (iv x6), some (iv x7), none, none, none] [iv s0] M (fX12_announce_94 x0 x1 x2 x3 x4 x5 x6 x7 s0 M) := by
  unfold fX12_announce_94
  refine xg_aload_n dX12_announce_94 (Eq.refl 95) rfl ?_
  refine xg_iload dX12_announce_95 (Eq.refl 97) rfl ?_
  refine xg_i2l dX12_announce_97 (Eq.refl 98) h6 ?_
  refine xg_aload_n dX12_announce_98 (Eq.refl 99) rfl ?_
  refine xg_getR (k := 0) xcl12 h0 rfl xq_122 rfl (xt_12_0 h0).1 dX12_announce_99 (Eq.refl 102) ?_
  refine xg_sipush dX12_announce_102 (Eq.refl 105) (by decide +kernel) ?_
  refine xg_laldk (k := 1547) (xt_12_0 h0).2 dX12_announce_105 (Eq.refl 106) rfl (by decide) ?_
  refine xg_ldc2 (z := 2000) xq_477 dX12_announce_106 (Eq.refl 109) (by decide +kernel) ?_
  refine xg_callV_Z (kc := 0) (ks := 0) (st := [iv s0]) (mX12_in hl x0 h0 x6 (R32.j h6) (M (xr x0 0) 1547) (hM.aj (xt_12_0 h0).2) 2000 (by decide) M hM) bX12_in xcl12 h0 rfl xq_179 rfl (by decide) rfl (Nat.le_of_ble_eq_true rfl) dX12_announce_109 (Eq.refl 112) rfl (by decide) (by decide) ?_
  intro z1 M2 hz1 hM2
  refine xg_if_eq (tgt := 135) dX12_announce_112 (Eq.refl 115) (by decide) (B01.r hz1) ?_ ?_
  · exact xg_jump (gX12_announce_135 hl x0 h0 x1 h1 x2 h2 x3 h3 x4 h4 x5 h5 x6 h6 x7 h7 s0 hs0 M2 hM2) (xsb_s (xsb_s (xsb_s (xsb_s (xsb_s (xsb_s (xsb_s (xsb_s (xsb_n (xsb_n (xsb_n xsb_0))))))))))) (by decide) (by decide)
  · refine xg_aload_n dX12_announce_115 (Eq.refl 116) rfl ?_
    refine xg_iload dX12_announce_116 (Eq.refl 118) rfl ?_
    refine xg_i2l dX12_announce_118 (Eq.refl 119) h7 ?_
    refine xg_iload dX12_announce_119 (Eq.refl 121) rfl ?_
    refine xg_i2l dX12_announce_121 (Eq.refl 122) h6 ?_
    refine xg_ldc2 (z := 2000) xq_477 dX12_announce_122 (Eq.refl 125) (by decide +kernel) ?_
    refine xg_callV_Z (kc := 0) (ks := 0) (st := [iv s0]) (mX12_in hl x0 h0 x7 (R32.j h7) x6 (R32.j h6) 2000 (by decide) M2 hM2) bX12_in xcl12 h0 rfl xq_179 rfl (by decide) rfl (Nat.le_of_ble_eq_true rfl) dX12_announce_125 (Eq.refl 128) rfl (by decide) (by decide) ?_
    intro z3 M4 hz3 hM4
    refine xg_if_eq (tgt := 135) dX12_announce_128 (Eq.refl 131) (by decide) (B01.r hz3) ?_ ?_
    · exact xg_jump (gX12_announce_135 hl x0 h0 x1 h1 x2 h2 x3 h3 x4 h4 x5 h5 x6 h6 x7 h7 s0 hs0 M4 hM4) (xsb_s (xsb_s (xsb_s (xsb_s (xsb_s (xsb_s (xsb_s (xsb_s (xsb_n (xsb_n (xsb_n xsb_0))))))))))) (by decide) (by decide)
    · refine xg_iconst dX12_announce_131 (Eq.refl 132) ?_
      refine xg_goto (tgt := 136) dX12_announce_132 (by decide) ?_
      exact xg_jump (gX12_announce_136 hl x0 h0 x1 h1 x2 h2 x3 h3 x4 h4 x5 h5 x6 h6 x7 h7 1 (by decide) s0 hs0 M4 hM4) (xsb_s (xsb_s (xsb_s (xsb_s (xsb_s (xsb_s (xsb_s (xsb_s (xsb_n (xsb_n (xsb_n xsb_0))))))))))) (by decide) (by decide)
theorem gX12_announce_71 {l : Launch} {G : xG} (hl : l.stackTraces = false) (x0 : Nat) (h0 : xOb 12 x0) (x1 : Int) (h1 : R32 x1) (x2 : Int) (h2 : R32 x2) (x3 : Int) (h3 : R32 x3) (x4 : Int) (h4 : R32 x4) (x5 : Int) (h5 : R32 x5) (x6 : Int) (h6 : R32 x6) (x7 : Int) (h7 : R32 x7) (s0 : Int) (hs0 : B01 s0) (M : xM) (hM : xcan M) : Gv l G uX12_announce 3 0 0 0 71 [some (.ref x0), some (iv x1), some (iv x2), some (iv x3), some (iv x4), some (iv x5), some (iv x6), some (iv x7), none, none, none] [iv s0] M (fX12_announce_71 x0 x1 x2 x3 x4 x5 x6 x7 s0 M) := by
  unfold fX12_announce_71
  refine xg_istore (ls2 := [some (.ref x0), some (iv x1), some (iv x2), some (iv x3), some (iv x4), some (iv x5), some (iv x6), some (iv x7), some (iv s0), none, none]) dX12_announce_71 (Eq.refl 73) (by decide) rfl ?_
  refine xg_iload dX12_announce_73 (Eq.refl 75) rfl ?_
  refine xg_iload_n dX12_announce_75 (Eq.refl 76) rfl ?_
  refine xg_iconst dX12_announce_76 (Eq.refl 77) ?_
  refine xg_icmp_ne (tgt := 94) dX12_announce_77 (Eq.refl 80) (by decide) h1 (by decide) ?_ ?_
  · refine xg_aload_n dX12_announce_80 (Eq.refl 81) rfl ?_
    refine xg_iload dX12_announce_81 (Eq.refl 83) rfl ?_
    refine xg_i2l dX12_announce_83 (Eq.refl 84) h5 ?_
    refine xg_lconst (z := 0) dX12_announce_84 (Eq.refl 85) rfl ?_
    refine xg_ldc2 (z := 100000) xq_274 dX12_announce_85 (Eq.refl 88) (by decide +kernel) ?_
    refine xg_callV_Z (kc := 0) (ks := 0) (st := [iv s0]) (mX12_in hl x0 h0 x5 (R32.j h5) 0 (by decide) 100000 (by decide) M hM) bX12_in xcl12 h0 rfl xq_179 rfl (by decide) rfl (Nat.le_of_ble_eq_true rfl) dX12_announce_88 (Eq.refl 91) rfl (by decide) (by decide) ?_
    intro z1 M2 hz1 hM2
    refine xg_if_eq (tgt := 135) dX12_announce_91 (Eq.refl 94) (by decide) (B01.r hz1) ?_ ?_
    · exact xg_jump (gX12_announce_135 hl x0 h0 x1 h1 x2 h2 x3 h3 x4 h4 x5 h5 x6 h6 x7 h7 s0 hs0 M2 hM2) (xsb_s (xsb_s (xsb_s (xsb_s (xsb_s (xsb_s (xsb_s (xsb_s (xsb_n (xsb_n (xsb_n xsb_0))))))))))) (by decide) (by decide)
    · exact xg_jump (gX12_announce_94 hl x0 h0 x1 h1 x2 h2 x3 h3 x4 h4 x5 h5 x6 h6 x7 h7 s0 hs0 M2 hM2) (xsb_s (xsb_s (xsb_s (xsb_s (xsb_s (xsb_s (xsb_s (xsb_s (xsb_n (xsb_n (xsb_n xsb_0))))))))))) (by decide) (by decide)
  · exact xg_jump (gX12_announce_94 hl x0 h0 x1 h1 x2 h2 x3 h3 x4 h4 x5 h5 x6 h6 x7 h7 s0 hs0 M hM) (xsb_s (xsb_s (xsb_s (xsb_s (xsb_s (xsb_s (xsb_s (xsb_s (xsb_n (xsb_n (xsb_n xsb_0))))))))))) (by decide) (by decide)
theorem gX12_announce_70 {l : Launch} {G : xG} (hl : l.stackTraces = false) (x0 : Nat) (h0 : xOb 12 x0) (x1 : Int) (h1 : R32 x1) (x2 : Int) (h2 : R32 x2) (x3 : Int) (h3 : R32 x3) (x4 : Int) (h4 : R32 x4) (x5 : Int) (h5 : R32 x5) (x6 : Int) (h6 : R32 x6) (x7 : Int) (h7 : R32 x7) (M : xM) (hM : xcan M) : Gv l G uX12_announce 3 0 0 0 70 [some (.ref x0), some (iv x1), some (iv x2), some (iv x3), some (iv x4), some (iv x5), some (iv x6), some (iv x7), none, none, none] [] M (fX12_announce_70 x0 x1 x2 x3 x4 x5 x6 x7 M) := by
  unfold fX12_announce_70
  refine xg_iconst dX12_announce_70 (Eq.refl 71) ?_
  exact xg_jump (gX12_announce_71 hl x0 h0 x1 h1 x2 h2 x3 h3 x4 h4 x5 h5 x6 h6 x7 h7 0 (by decide) M hM) (xsb_s (xsb_s (xsb_s (xsb_s (xsb_s (xsb_s (xsb_s (xsb_s (xsb_n (xsb_n (xsb_n xsb_0))))))))))) (by decide) (by decide)
theorem gX12_announce_66 {l : Launch} {G : xG} (hl : l.stackTraces = false) (x0 : Nat) (h0 : xOb 12 x0) (x1 : Int) (h1 : R32 x1) (x2 : Int) (h2 : R32 x2) (x3 : Int) (h3 : R32 x3) (x4 : Int) (h4 : R32 x4) (x5 : Int) (h5 : R32 x5) (x6 : Int) (h6 : R32 x6) (x7 : Int) (h7 : R32 x7) (M : xM) (hM : xcan M) : Gv l G uX12_announce 3 0 0 0 66 [some (.ref x0), some (iv x1), some (iv x2), some (iv x3), some (iv x4), some (iv x5), some (iv x6), some (iv x7), none, none, none] [] M (fX12_announce_66 x0 x1 x2 x3 x4 x5 x6 x7 M) := by
  unfold fX12_announce_66
  refine xg_iconst dX12_announce_66 (Eq.refl 67) ?_
  refine xg_goto (tgt := 71) dX12_announce_67 (by decide) ?_
  exact xg_jump (gX12_announce_71 hl x0 h0 x1 h1 x2 h2 x3 h3 x4 h4 x5 h5 x6 h6 x7 h7 1 (by decide) M hM) (xsb_s (xsb_s (xsb_s (xsb_s (xsb_s (xsb_s (xsb_s (xsb_s (xsb_n (xsb_n (xsb_n xsb_0))))))))))) (by decide) (by decide)
theorem gX12_announce_60 {l : Launch} {G : xG} (hl : l.stackTraces = false) (x0 : Nat) (h0 : xOb 12 x0) (x1 : Int) (h1 : R32 x1) (x2 : Int) (h2 : R32 x2) (x3 : Int) (h3 : R32 x3) (x4 : Int) (h4 : R32 x4) (x5 : Int) (h5 : R32 x5) (x6 : Int) (h6 : R32 x6) (x7 : Int) (h7 : R32 x7) (s0 : Int) (hs0 : R64 s0) (s1 : Int) (hs1 : R64 s1) (s2 : Int) (hs2 : R64 s2) (s3 : Nat) (hs3 : xOb 12 s3) (M : xM) (hM : xcan M) : Gv l G uX12_announce 3 0 0 0 60 [some (.ref x0), some (iv x1), some (iv x2), some (iv x3), some (iv x4), some (iv x5), some (iv x6), some (iv x7), none, none, none] [jv s0, jv s1, jv s2, .ref s3] M (fX12_announce_60 x0 x1 x2 x3 x4 x5 x6 x7 s0 s1 s2 s3 M) := by
  unfold fX12_announce_60
  refine xg_callV_Z (kc := 0) (ks := 0) (st := []) (mX12_in hl s3 hs3 s2 hs2 s1 hs1 s0 hs0 M hM) bX12_in xcl12 hs3 rfl xq_179 rfl (by decide) rfl (by decide) dX12_announce_60 (Eq.refl 63) rfl (by decide) (by decide) ?_
  intro z1 M2 hz1 hM2
  refine xg_if_eq (tgt := 70) dX12_announce_63 (Eq.refl 66) (by decide) (B01.r hz1) ?_ ?_
  · exact xg_jump (gX12_announce_70 hl x0 h0 x1 h1 x2 h2 x3 h3 x4 h4 x5 h5 x6 h6 x7 h7 M2 hM2) (xsb_s (xsb_s (xsb_s (xsb_s (xsb_s (xsb_s (xsb_s (xsb_s (xsb_n (xsb_n (xsb_n xsb_0))))))))))) (by decide) (by decide)
  · exact xg_jump (gX12_announce_66 hl x0 h0 x1 h1 x2 h2 x3 h3 x4 h4 x5 h5 x6 h6 x7 h7 M2 hM2) (xsb_s (xsb_s (xsb_s (xsb_s (xsb_s (xsb_s (xsb_s (xsb_s (xsb_n (xsb_n (xsb_n xsb_0))))))))))) (by decide) (by decide)
theorem gX12_announce_31 {l : Launch} {G : xG} (hl : l.stackTraces = false) (x0 : Nat) (h0 : xOb 12 x0) (x1 : Int) (h1 : R32 x1) (x2 : Int) (h2 : R32 x2) (x3 : Int) (h3 : R32 x3) (x4 : Int) (h4 : R32 x4) (x5 : Int) (h5 : R32 x5) (x6 : Int) (h6 : R32 x6) (x7 : Int) (h7 : R32 x7) (s0 : Int) (hs0 : R64 s0) (s1 : Int) (hs1 : R64 s1) (s2 : Int) (hs2 : R64 s2) (s3 : Nat) (hs3 : xOb 12 s3) (M : xM) (hM : xcan M) : Gv l G uX12_announce 3 0 0 0 31 [some (.ref x0), some (iv x1), some (iv x2), some (iv x3), some (iv x4), some (iv x5), some (iv x6), some (iv x7), none, none, none] [jv s0, jv s1, jv s2, .ref s3] M (fX12_announce_31 x0 x1 x2 x3 x4 x5 x6 x7 s0 s1 s2 s3 M) := by
  unfold fX12_announce_31
  refine xg_callV_Z (kc := 0) (ks := 0) (st := []) (mX12_in hl s3 hs3 s2 hs2 s1 hs1 s0 hs0 M hM) bX12_in xcl12 hs3 rfl xq_179 rfl (by decide) rfl (by decide) dX12_announce_31 (Eq.refl 34) rfl (by decide) (by decide) ?_
  intro z1 M2 hz1 hM2
  refine xg_if_eq (tgt := 70) dX12_announce_34 (Eq.refl 37) (by decide) (B01.r hz1) ?_ ?_
  · exact xg_jump (gX12_announce_70 hl x0 h0 x1 h1 x2 h2 x3 h3 x4 h4 x5 h5 x6 h6 x7 h7 M2 hM2) (xsb_s (xsb_s (xsb_s (xsb_s (xsb_s (xsb_s (xsb_s (xsb_s (xsb_n (xsb_n (xsb_n xsb_0))))))))))) (by decide) (by decide)
  · refine xg_iload_n dX12_announce_37 (Eq.refl 38) rfl ?_
    refine xg_if_eq (tgt := 66) dX12_announce_38 (Eq.refl 41) (by decide) h1 ?_ ?_
    · exact xg_jump (gX12_announce_66 hl x0 h0 x1 h1 x2 h2 x3 h3 x4 h4 x5 h5 x6 h6 x7 h7 M2 hM2) (xsb_s (xsb_s (xsb_s (xsb_s (xsb_s (xsb_s (xsb_s (xsb_s (xsb_n (xsb_n (xsb_n xsb_0))))))))))) (by decide) (by decide)
    · refine xg_aload_n dX12_announce_41 (Eq.refl 42) rfl ?_
      refine xg_iload dX12_announce_42 (Eq.refl 44) rfl ?_
      refine xg_i2l dX12_announce_44 (Eq.refl 45) h4 ?_
      refine xg_lconst (z := 1) dX12_announce_45 (Eq.refl 46) rfl ?_
      refine xg_iload_n dX12_announce_46 (Eq.refl 47) rfl ?_
      refine xg_iconst dX12_announce_47 (Eq.refl 48) ?_
      refine xg_icmp_ne (tgt := 57) dX12_announce_48 (Eq.refl 51) (by decide) h1 (by decide) ?_ ?_
      · refine xg_ldc2 (z := 3) xq_484 dX12_announce_51 (Eq.refl 54) (by decide +kernel) ?_
        refine xg_goto (tgt := 60) dX12_announce_54 (by decide) ?_
        exact xg_jump (gX12_announce_60 hl x0 h0 x1 h1 x2 h2 x3 h3 x4 h4 x5 h5 x6 h6 x7 h7 3 (by decide) 1 (by decide) x4 (R32.j h4) x0 h0 M2 hM2) (xsb_s (xsb_s (xsb_s (xsb_s (xsb_s (xsb_s (xsb_s (xsb_s (xsb_n (xsb_n (xsb_n xsb_0))))))))))) (by decide) (by decide)
      · refine xg_ldc2 (z := 10) xq_178 dX12_announce_57 (Eq.refl 60) (by decide +kernel) ?_
        exact xg_jump (gX12_announce_60 hl x0 h0 x1 h1 x2 h2 x3 h3 x4 h4 x5 h5 x6 h6 x7 h7 10 (by decide) 1 (by decide) x4 (R32.j h4) x0 h0 M2 hM2) (xsb_s (xsb_s (xsb_s (xsb_s (xsb_s (xsb_s (xsb_s (xsb_s (xsb_n (xsb_n (xsb_n xsb_0))))))))))) (by decide) (by decide)
theorem mX12_announce {l : Launch} {G : xG} (hl : l.stackTraces = false) (x0 : Nat) (h0 : xOb 12 x0) (x1 : Int) (h1 : R32 x1) (x2 : Int) (h2 : R32 x2) (x3 : Int) (h3 : R32 x3) (x4 : Int) (h4 : R32 x4) (x5 : Int) (h5 : R32 x5) (x6 : Int) (h6 : R32 x6) (x7 : Int) (h7 : R32 x7) (M : xM) (hM : xcan M) : Cm l G yX12_announce cX12_announce 11 (some .int) 3 0 0 0 [.ref x0, iv x1, iv x2, iv x3, iv x4, iv x5, iv x6, iv x7] M (fX12_announce x0 x1 x2 x3 x4 x5 x6 x7 M) := by
  refine xcm_of (u := uX12_announce) (ls := [some (.ref x0), some (iv x1), some (iv x2), some (iv x3), some (iv x4), some (iv x5), some (iv x6), some (iv x7), none, none, none]) 3 hl rfl (by decide +kernel) (Nat.le_of_ble_eq_true rfl) rfl ?_
  unfold fX12_announce
  refine xg_aload_n dX12_announce_0 (Eq.refl 1) rfl ?_
  refine xg_iload_n dX12_announce_1 (Eq.refl 2) rfl ?_
  refine xg_i2l dX12_announce_2 (Eq.refl 3) h1 ?_
  refine xg_lconst (z := 0) dX12_announce_3 (Eq.refl 4) rfl ?_
  refine xg_ldc2 (z := 2) xq_176 dX12_announce_4 (Eq.refl 7) (by decide +kernel) ?_
  refine xg_callV_Z (kc := 0) (ks := 0) (st := []) (mX12_in hl x0 h0 x1 (R32.j h1) 0 (by decide) 2 (by decide) M hM) bX12_in xcl12 h0 rfl xq_179 rfl (by decide) rfl (by decide) dX12_announce_7 (Eq.refl 10) rfl (by decide) (by decide) ?_
  intro z1 M2 hz1 hM2
  refine xg_if_eq (tgt := 70) dX12_announce_10 (Eq.refl 13) (by decide) (B01.r hz1) ?_ ?_
  · exact xg_jump (gX12_announce_70 hl x0 h0 x1 h1 x2 h2 x3 h3 x4 h4 x5 h5 x6 h6 x7 h7 M2 hM2) (xsb_s (xsb_s (xsb_s (xsb_s (xsb_s (xsb_s (xsb_s (xsb_s (xsb_n (xsb_n (xsb_n xsb_0))))))))))) (by decide) (by decide)
  · refine xg_aload_n dX12_announce_13 (Eq.refl 14) rfl ?_
    refine xg_iload_n dX12_announce_14 (Eq.refl 15) rfl ?_
    refine xg_i2l dX12_announce_15 (Eq.refl 16) h3 ?_
    refine xg_lconst (z := 1) dX12_announce_16 (Eq.refl 17) rfl ?_
    refine xg_iload_n dX12_announce_17 (Eq.refl 18) rfl ?_
    refine xg_iconst dX12_announce_18 (Eq.refl 19) ?_
    refine xg_icmp_ne (tgt := 28) dX12_announce_19 (Eq.refl 22) (by decide) h1 (by decide) ?_ ?_
    · refine xg_ldc2 (z := 3) xq_484 dX12_announce_22 (Eq.refl 25) (by decide +kernel) ?_
      refine xg_goto (tgt := 31) dX12_announce_25 (by decide) ?_
      exact xg_jump (gX12_announce_31 hl x0 h0 x1 h1 x2 h2 x3 h3 x4 h4 x5 h5 x6 h6 x7 h7 3 (by decide) 1 (by decide) x3 (R32.j h3) x0 h0 M2 hM2) (xsb_s (xsb_s (xsb_s (xsb_s (xsb_s (xsb_s (xsb_s (xsb_s (xsb_n (xsb_n (xsb_n xsb_0))))))))))) (by decide) (by decide)
    · refine xg_ldc2 (z := 1000) xq_275 dX12_announce_28 (Eq.refl 31) (by decide +kernel) ?_
      exact xg_jump (gX12_announce_31 hl x0 h0 x1 h1 x2 h2 x3 h3 x4 h4 x5 h5 x6 h6 x7 h7 1000 (by decide) 1 (by decide) x3 (R32.j h3) x0 h0 M2 hM2) (xsb_s (xsb_s (xsb_s (xsb_s (xsb_s (xsb_s (xsb_s (xsb_s (xsb_n (xsb_n (xsb_n xsb_0))))))))))) (by decide) (by decide)
abbrev uX12_elect : xU := (RX12, cX12_elect, 8, (some .long), [], "elect")
theorem bX12_elect : xYV yX12_elect cX12_elect 8 (some .long) 3 := ⟨xq_1338, xq_1339, xq_5, xq_1340, ⟨by decide +kernel, by decide +kernel, by decide +kernel⟩, by decide⟩
theorem gX12_elect_131 {l : Launch} {G : xG} (hl : l.stackTraces = false) (x0 : Nat) (h0 : xOb 12 x0) (x1 : Int) (h1 : R32 x1) (x2 : Int) (h2 : R32 x2) (x3 : Int) (h3 : R32 x3) (s0 : Int) (hs0 : R32 s0) (s1 : Nat) (hs1 : xOb 12 s1) (M : xM) (hM : xcan M) : Gv l G uX12_elect 3 2 0 0 131 [some (.ref x0), some (iv x1), some (iv x2), some (iv x3), none, none, none, none] [iv s0, .ref s1] M (fX12_elect_131 x0 x1 x2 x3 s0 s1 M) := by
  unfold fX12_elect_131
  refine xg_callV_Z (kc := 0) (ks := 0) (st := []) (mX12_holds hl s1 hs1 s0 hs0 M hM) bX12_holds xcl12 hs1 rfl xq_187 rfl (by decide) rfl (by decide) dX12_elect_131 (Eq.refl 134) rfl (by decide) (by decide) ?_
  intro z1 M2 hz1 hM2
  refine xg_if_eq (tgt := 141) dX12_elect_134 (Eq.refl 137) (by decide) (B01.r hz1) ?_ ?_
  · refine xg_aload_n dX12_elect_141 (Eq.refl 142) rfl ?_
    refine xg_getR (k := 0) xcl12 h0 rfl xq_122 rfl (xt_12_0 h0).1 dX12_elect_142 (Eq.refl 145) ?_
    refine xg_sipush dX12_elect_145 (Eq.refl 148) (by decide +kernel) ?_
    refine xg_bipush dX12_elect_148 (Eq.refl 150) (by decide +kernel) ?_
    refine xg_iload_n dX12_elect_150 (Eq.refl 151) rfl ?_
    refine xg_imul dX12_elect_151 (Eq.refl 152) ?_
    refine xg_iadd dX12_elect_152 (Eq.refl 153) ?_
    refine xg_iload_n dX12_elect_153 (Eq.refl 154) rfl ?_
    refine xg_iadd dX12_elect_154 (Eq.refl 155) ?_
    refine xg_lald (xt_12_0 h0).2 dX12_elect_155 (Eq.refl 156) ?_
    refine xg_lstoreL (P := R64) (ls2 := fun y3 => [some (.ref x0), some (iv x1), some (iv x2), some (iv x3), none, none, some (jv y3), none]) dX12_elect_156 (Eq.refl 158) (by decide) (hM2.aj (xt_12_0 h0).2) (fun _ => rfl) ?_
    intro y3 hy3
    refine xg_aload_n dX12_elect_158 (Eq.refl 159) rfl ?_
    refine xg_getR (k := 0) xcl12 h0 rfl xq_122 rfl (xt_12_0 h0).1 dX12_elect_159 (Eq.refl 162) ?_
    refine xg_sipush dX12_elect_162 (Eq.refl 165) (by decide +kernel) ?_
    refine xg_bipush dX12_elect_165 (Eq.refl 167) (by decide +kernel) ?_
    refine xg_iload_n dX12_elect_167 (Eq.refl 168) rfl ?_
    refine xg_imul dX12_elect_168 (Eq.refl 169) ?_
    refine xg_iadd dX12_elect_169 (Eq.refl 170) ?_
    refine xg_iload_n dX12_elect_170 (Eq.refl 171) rfl ?_
    refine xg_iadd dX12_elect_171 (Eq.refl 172) ?_
    refine xg_iload_n dX12_elect_172 (Eq.refl 173) rfl ?_
    refine xg_i2l dX12_elect_173 (Eq.refl 174) h3 ?_
    refine xg_last (xt_12_0 h0).2 dX12_elect_174 (Eq.refl 175) hM2 (R32.j h3) ?_
    intro M4 hM4
    refine xg_lload dX12_elect_175 (Eq.refl 177) rfl ?_
    exact xg_lret rfl dX12_elect_177 rfl hM4 hy3
  · refine xg_ldc2 (z := (-1)) xq_320 dX12_elect_137 (Eq.refl 140) (by decide +kernel) ?_
    exact xg_lret rfl dX12_elect_140 rfl hM2 (by decide)
theorem gX12_elect_101 {l : Launch} {G : xG} (hl : l.stackTraces = false) (x0 : Nat) (h0 : xOb 12 x0) (x1 : Int) (h1 : R32 x1) (x2 : Int) (h2 : R32 x2) (x3 : Int) (h3 : R32 x3) (x4 : Int) (h4 : B01 x4) (s0 : Int) (hs0 : B01 s0) (M : xM) (hM : xcan M) : Gv l G uX12_elect 3 2 0 0 101 [some (.ref x0), some (iv x1), some (iv x2), some (iv x3), some (iv x4), none, none, none] [iv s0] M (fX12_elect_101 x0 x1 x2 x3 x4 s0 M) := by
  unfold fX12_elect_101
  refine xg_istore (ls2 := [some (.ref x0), some (iv x1), some (iv x2), some (iv x3), some (iv x4), some (iv s0), none, none]) dX12_elect_101 (Eq.refl 103) (by decide) rfl ?_
  refine xg_aload_n dX12_elect_103 (Eq.refl 104) rfl ?_
  refine xg_iload dX12_elect_104 (Eq.refl 106) rfl ?_
  refine xg_if_ne (tgt := 113) dX12_elect_106 (Eq.refl 109) (by decide) (B01.r h4) ?_ ?_
  · refine xg_iconst dX12_elect_109 (Eq.refl 110) ?_
    refine xg_goto (tgt := 131) dX12_elect_110 (by decide) ?_
    exact xg_jump (gX12_elect_131 hl x0 h0 x1 h1 x2 h2 x3 h3 1 (by decide) x0 h0 M hM) (xsb_s (xsb_s (xsb_s (xsb_s (xsb_n (xsb_n (xsb_n (xsb_n xsb_0)))))))) (by decide) (by decide)
  · refine xg_iload_n dX12_elect_113 (Eq.refl 114) rfl ?_
    refine xg_if_ge (tgt := 121) dX12_elect_114 (Eq.refl 117) (by decide) h3 ?_ ?_
    · refine xg_iload dX12_elect_121 (Eq.refl 123) rfl ?_
      refine xg_if_eq (tgt := 130) dX12_elect_123 (Eq.refl 126) (by decide) (B01.r hs0) ?_ ?_
      · refine xg_iconst dX12_elect_130 (Eq.refl 131) ?_
        exact xg_jump (gX12_elect_131 hl x0 h0 x1 h1 x2 h2 x3 h3 0 (by decide) x0 h0 M hM) (xsb_s (xsb_s (xsb_s (xsb_s (xsb_n (xsb_n (xsb_n (xsb_n xsb_0)))))))) (by decide) (by decide)
      · refine xg_iconst dX12_elect_126 (Eq.refl 127) ?_
        refine xg_goto (tgt := 131) dX12_elect_127 (by decide) ?_
        exact xg_jump (gX12_elect_131 hl x0 h0 x1 h1 x2 h2 x3 h3 3 (by decide) x0 h0 M hM) (xsb_s (xsb_s (xsb_s (xsb_s (xsb_n (xsb_n (xsb_n (xsb_n xsb_0)))))))) (by decide) (by decide)
    · refine xg_iconst dX12_elect_117 (Eq.refl 118) ?_
      refine xg_goto (tgt := 131) dX12_elect_118 (by decide) ?_
      exact xg_jump (gX12_elect_131 hl x0 h0 x1 h1 x2 h2 x3 h3 2 (by decide) x0 h0 M hM) (xsb_s (xsb_s (xsb_s (xsb_s (xsb_n (xsb_n (xsb_n (xsb_n xsb_0)))))))) (by decide) (by decide)
theorem gX12_elect_100 {l : Launch} {G : xG} (hl : l.stackTraces = false) (x0 : Nat) (h0 : xOb 12 x0) (x1 : Int) (h1 : R32 x1) (x2 : Int) (h2 : R32 x2) (x3 : Int) (h3 : R32 x3) (x4 : Int) (h4 : B01 x4) (M : xM) (hM : xcan M) : Gv l G uX12_elect 3 2 0 0 100 [some (.ref x0), some (iv x1), some (iv x2), some (iv x3), some (iv x4), none, none, none] [] M (fX12_elect_100 x0 x1 x2 x3 x4 M) := by
  unfold fX12_elect_100
  refine xg_iconst dX12_elect_100 (Eq.refl 101) ?_
  exact xg_jump (gX12_elect_101 hl x0 h0 x1 h1 x2 h2 x3 h3 x4 h4 0 (by decide) M hM) (xsb_s (xsb_s (xsb_s (xsb_s (xsb_s (xsb_n (xsb_n (xsb_n xsb_0)))))))) (by decide) (by decide)
theorem gX12_elect_96 {l : Launch} {G : xG} (hl : l.stackTraces = false) (x0 : Nat) (h0 : xOb 12 x0) (x1 : Int) (h1 : R32 x1) (x2 : Int) (h2 : R32 x2) (x3 : Int) (h3 : R32 x3) (x4 : Int) (h4 : B01 x4) (M : xM) (hM : xcan M) : Gv l G uX12_elect 3 2 0 0 96 [some (.ref x0), some (iv x1), some (iv x2), some (iv x3), some (iv x4), none, none, none] [] M (fX12_elect_96 x0 x1 x2 x3 x4 M) := by
  unfold fX12_elect_96
  refine xg_iconst dX12_elect_96 (Eq.refl 97) ?_
  refine xg_goto (tgt := 101) dX12_elect_97 (by decide) ?_
  exact xg_jump (gX12_elect_101 hl x0 h0 x1 h1 x2 h2 x3 h3 x4 h4 1 (by decide) M hM) (xsb_s (xsb_s (xsb_s (xsb_s (xsb_s (xsb_n (xsb_n (xsb_n xsb_0)))))))) (by decide) (by decide)
theorem gX12_elect_21 {l : Launch} {G : xG} (hl : l.stackTraces = false) (x0 : Nat) (h0 : xOb 12 x0) (x1 : Int) (h1 : R32 x1) (x2 : Int) (h2 : R32 x2) (x3 : Int) (h3 : R32 x3) (s0 : Int) (hs0 : B01 s0) (M : xM) (hM : xcan M) : Gv l G uX12_elect 3 2 0 0 21 [some (.ref x0), some (iv x1), some (iv x2), some (iv x3), none, none, none, none] [iv s0] M (fX12_elect_21 x0 x1 x2 x3 s0 M) := by
  unfold fX12_elect_21
  refine xg_istore (ls2 := [some (.ref x0), some (iv x1), some (iv x2), some (iv x3), some (iv s0), none, none, none]) dX12_elect_21 (Eq.refl 23) (by decide) rfl ?_
  refine xg_iload dX12_elect_23 (Eq.refl 25) rfl ?_
  refine xg_if_eq (tgt := 100) dX12_elect_25 (Eq.refl 28) (by decide) (B01.r hs0) ?_ ?_
  · exact xg_jump (gX12_elect_100 hl x0 h0 x1 h1 x2 h2 x3 h3 s0 hs0 M hM) (xsb_s (xsb_s (xsb_s (xsb_s (xsb_s (xsb_n (xsb_n (xsb_n xsb_0)))))))) (by decide) (by decide)
  · refine xg_aload_n dX12_elect_28 (Eq.refl 29) rfl ?_
    refine xg_getR (k := 0) xcl12 h0 rfl xq_122 rfl (xt_12_0 h0).1 dX12_elect_29 (Eq.refl 32) ?_
    refine xg_sipush dX12_elect_32 (Eq.refl 35) (by decide +kernel) ?_
    refine xg_iload_n dX12_elect_35 (Eq.refl 36) rfl ?_
    refine xg_iadd dX12_elect_36 (Eq.refl 37) ?_
    refine xg_lald (xt_12_0 h0).2 dX12_elect_37 (Eq.refl 38) ?_
    refine xg_ldc2 (z := 2) xq_176 dX12_elect_38 (Eq.refl 41) (by decide +kernel) ?_
    refine xg_lif_ne (tgt := 96) dX12_elect_41 (Eq.refl 42) dX12_elect_42 (Eq.refl 45) (by decide) (hM.aj (xt_12_0 h0).2) (by decide) ?_ ?_
    · refine xg_aload_n dX12_elect_45 (Eq.refl 46) rfl ?_
      refine xg_getR (k := 0) xcl12 h0 rfl xq_122 rfl (xt_12_0 h0).1 dX12_elect_46 (Eq.refl 49) ?_
      refine xg_sipush dX12_elect_49 (Eq.refl 52) (by decide +kernel) ?_
      refine xg_iload_n dX12_elect_52 (Eq.refl 53) rfl ?_
      refine xg_iadd dX12_elect_53 (Eq.refl 54) ?_
      refine xg_lald (xt_12_0 h0).2 dX12_elect_54 (Eq.refl 55) ?_
      refine xg_lconst (z := 0) dX12_elect_55 (Eq.refl 56) rfl ?_
      refine xg_lif_eq (tgt := 96) dX12_elect_56 (Eq.refl 57) dX12_elect_57 (Eq.refl 60) (by decide) (hM.aj (xt_12_0 h0).2) (by decide) ?_ ?_
      · exact xg_jump (gX12_elect_96 hl x0 h0 x1 h1 x2 h2 x3 h3 s0 hs0 M hM) (xsb_s (xsb_s (xsb_s (xsb_s (xsb_s (xsb_n (xsb_n (xsb_n xsb_0)))))))) (by decide) (by decide)
      · refine xg_aload_n dX12_elect_60 (Eq.refl 61) rfl ?_
        refine xg_getR (k := 0) xcl12 h0 rfl xq_122 rfl (xt_12_0 h0).1 dX12_elect_61 (Eq.refl 64) ?_
        refine xg_sipush dX12_elect_64 (Eq.refl 67) (by decide +kernel) ?_
        refine xg_iload_n dX12_elect_67 (Eq.refl 68) rfl ?_
        refine xg_iadd dX12_elect_68 (Eq.refl 69) ?_
        refine xg_lald (xt_12_0 h0).2 dX12_elect_69 (Eq.refl 70) ?_
        refine xg_lconst (z := 1) dX12_elect_70 (Eq.refl 71) rfl ?_
        refine xg_lif_eq (tgt := 96) dX12_elect_71 (Eq.refl 72) dX12_elect_72 (Eq.refl 75) (by decide) (hM.aj (xt_12_0 h0).2) (by decide) ?_ ?_
        · exact xg_jump (gX12_elect_96 hl x0 h0 x1 h1 x2 h2 x3 h3 s0 hs0 M hM) (xsb_s (xsb_s (xsb_s (xsb_s (xsb_s (xsb_n (xsb_n (xsb_n xsb_0)))))))) (by decide) (by decide)
        · refine xg_aload_n dX12_elect_75 (Eq.refl 76) rfl ?_
          refine xg_getR (k := 0) xcl12 h0 rfl xq_122 rfl (xt_12_0 h0).1 dX12_elect_76 (Eq.refl 79) ?_
          refine xg_sipush dX12_elect_79 (Eq.refl 82) (by decide +kernel) ?_
          refine xg_bipush dX12_elect_82 (Eq.refl 84) (by decide +kernel) ?_
          refine xg_iload_n dX12_elect_84 (Eq.refl 85) rfl ?_
          refine xg_imul dX12_elect_85 (Eq.refl 86) ?_
          refine xg_iadd dX12_elect_86 (Eq.refl 87) ?_
          refine xg_iload_n dX12_elect_87 (Eq.refl 88) rfl ?_
          refine xg_iadd dX12_elect_88 (Eq.refl 89) ?_
          refine xg_lald (xt_12_0 h0).2 dX12_elect_89 (Eq.refl 90) ?_
          refine xg_iload_n dX12_elect_90 (Eq.refl 91) rfl ?_
          refine xg_i2l dX12_elect_91 (Eq.refl 92) h3 ?_
          refine xg_lif_ge (tgt := 100) dX12_elect_92 (Eq.refl 93) dX12_elect_93 (Eq.refl 96) (by decide) (hM.aj (xt_12_0 h0).2) (R32.j h3) ?_ ?_
          · exact xg_jump (gX12_elect_100 hl x0 h0 x1 h1 x2 h2 x3 h3 s0 hs0 M hM) (xsb_s (xsb_s (xsb_s (xsb_s (xsb_s (xsb_n (xsb_n (xsb_n xsb_0)))))))) (by decide) (by decide)
          · exact xg_jump (gX12_elect_96 hl x0 h0 x1 h1 x2 h2 x3 h3 s0 hs0 M hM) (xsb_s (xsb_s (xsb_s (xsb_s (xsb_s (xsb_n (xsb_n (xsb_n xsb_0)))))))) (by decide) (by decide)
    · exact xg_jump (gX12_elect_96 hl x0 h0 x1 h1 x2 h2 x3 h3 s0 hs0 M hM) (xsb_s (xsb_s (xsb_s (xsb_s (xsb_s (xsb_n (xsb_n (xsb_n xsb_0)))))))) (by decide) (by decide)
theorem gX12_elect_20 {l : Launch} {G : xG} (hl : l.stackTraces = false) (x0 : Nat) (h0 : xOb 12 x0) (x1 : Int) (h1 : R32 x1) (x2 : Int) (h2 : R32 x2) (x3 : Int) (h3 : R32 x3) (M : xM) (hM : xcan M) : Gv l G uX12_elect 3 2 0 0 20 [some (.ref x0), some (iv x1), some (iv x2), some (iv x3), none, none, none, none] [] M (fX12_elect_20 x0 x1 x2 x3 M) := by
  unfold fX12_elect_20
  refine xg_iconst dX12_elect_20 (Eq.refl 21) ?_
  exact xg_jump (gX12_elect_21 hl x0 h0 x1 h1 x2 h2 x3 h3 0 (by decide) M hM) (xsb_s (xsb_s (xsb_s (xsb_s (xsb_n (xsb_n (xsb_n (xsb_n xsb_0)))))))) (by decide) (by decide)
theorem mX12_elect {l : Launch} {G : xG} (hl : l.stackTraces = false) (x0 : Nat) (h0 : xOb 12 x0) (x1 : Int) (h1 : R32 x1) (x2 : Int) (h2 : R32 x2) (x3 : Int) (h3 : R32 x3) (M : xM) (hM : xcan M) : Cm l G yX12_elect cX12_elect 8 (some .long) 3 2 0 0 [.ref x0, iv x1, iv x2, iv x3] M (fX12_elect x0 x1 x2 x3 M) := by
  refine xcm_of (u := uX12_elect) (ls := [some (.ref x0), some (iv x1), some (iv x2), some (iv x3), none, none, none, none]) 4 hl rfl (by decide +kernel) (Nat.le_of_ble_eq_true rfl) rfl ?_
  unfold fX12_elect
  refine xg_aload_n dX12_elect_0 (Eq.refl 1) rfl ?_
  refine xg_iload_n dX12_elect_1 (Eq.refl 2) rfl ?_
  refine xg_callV_Z (kc := 0) (ks := 0) (st := []) (mX12_isAccount hl x0 h0 x1 h1 M hM) bX12_isAccount xcl12 h0 rfl xq_183 rfl (by decide) rfl (by decide) dX12_elect_2 (Eq.refl 5) rfl (by decide) (by decide) ?_
  intro z1 M2 hz1 hM2
  refine xg_if_eq (tgt := 20) dX12_elect_5 (Eq.refl 8) (by decide) (B01.r hz1) ?_ ?_
  · exact xg_jump (gX12_elect_20 hl x0 h0 x1 h1 x2 h2 x3 h3 M2 hM2) (xsb_s (xsb_s (xsb_s (xsb_s (xsb_n (xsb_n (xsb_n (xsb_n xsb_0)))))))) (by decide) (by decide)
  · refine xg_aload_n dX12_elect_8 (Eq.refl 9) rfl ?_
    refine xg_iload_n dX12_elect_9 (Eq.refl 10) rfl ?_
    refine xg_callV_Z (kc := 0) (ks := 0) (st := []) (mX12_isEvent hl x0 h0 x2 h2 M2 hM2) bX12_isEvent xcl12 h0 rfl xq_1341 rfl (by decide) rfl (by decide) dX12_elect_10 (Eq.refl 13) rfl (by decide) (by decide) ?_
    intro z3 M4 hz3 hM4
    refine xg_if_eq (tgt := 20) dX12_elect_13 (Eq.refl 16) (by decide) (B01.r hz3) ?_ ?_
    · exact xg_jump (gX12_elect_20 hl x0 h0 x1 h1 x2 h2 x3 h3 M4 hM4) (xsb_s (xsb_s (xsb_s (xsb_s (xsb_n (xsb_n (xsb_n (xsb_n xsb_0)))))))) (by decide) (by decide)
    · refine xg_iconst dX12_elect_16 (Eq.refl 17) ?_
      refine xg_goto (tgt := 21) dX12_elect_17 (by decide) ?_
      exact xg_jump (gX12_elect_21 hl x0 h0 x1 h1 x2 h2 x3 h3 1 (by decide) M4 hM4) (xsb_s (xsb_s (xsb_s (xsb_s (xsb_n (xsb_n (xsb_n (xsb_n xsb_0)))))))) (by decide) (by decide)
abbrev uX12_entitled : xU := (RX12, cX12_entitled, 4, (some .long), [], "entitled")
theorem bX12_entitled : xYV yX12_entitled cX12_entitled 4 (some .long) 2 := ⟨xq_1354, xq_1355, xq_5, xq_1356, ⟨by decide +kernel, by decide +kernel, by decide +kernel⟩, by decide⟩
theorem gX12_entitled_32 {l : Launch} {G : xG} (hl : l.stackTraces = false) (x0 : Nat) (h0 : xOb 12 x0) (x1 : Int) (h1 : R32 x1) (x2 : Int) (h2 : R32 x2) (s0 : Int) (hs0 : B01 s0) (s1 : Nat) (hs1 : xOb 12 s1) (M : xM) (hM : xcan M) : Gv l G uX12_entitled 3 2 0 0 32 [some (.ref x0), some (iv x1), some (iv x2), none] [iv s0, .ref s1] M (fX12_entitled_32 x0 x1 x2 s0 s1 M) := by
  unfold fX12_entitled_32
  refine xg_callV_Z (kc := 0) (ks := 0) (st := []) (mX12_holds hl s1 hs1 s0 (B01.r hs0) M hM) bX12_holds xcl12 hs1 rfl xq_187 rfl (by decide) rfl (by decide) dX12_entitled_32 (Eq.refl 35) rfl (by decide) (by decide) ?_
  intro z1 M2 hz1 hM2
  refine xg_if_eq (tgt := 42) dX12_entitled_35 (Eq.refl 38) (by decide) (B01.r hz1) ?_ ?_
  · refine xg_aload_n dX12_entitled_42 (Eq.refl 43) rfl ?_
    refine xg_getR (k := 0) xcl12 h0 rfl xq_122 rfl (xt_12_0 h0).1 dX12_entitled_43 (Eq.refl 46) ?_
    refine xg_sipush dX12_entitled_46 (Eq.refl 49) (by decide +kernel) ?_
    refine xg_iload_n dX12_entitled_49 (Eq.refl 50) rfl ?_
    refine xg_iadd dX12_entitled_50 (Eq.refl 51) ?_
    refine xg_lald (xt_12_0 h0).2 dX12_entitled_51 (Eq.refl 52) ?_
    refine xg_lconst (z := 0) dX12_entitled_52 (Eq.refl 53) rfl ?_
    refine xg_lif_ne (tgt := 63) dX12_entitled_53 (Eq.refl 54) dX12_entitled_54 (Eq.refl 57) (by decide) (hM2.aj (xt_12_0 h0).2) (by decide) ?_ ?_
    · refine xg_ldc2 (z := (-1)) xq_320 dX12_entitled_57 (Eq.refl 60) (by decide +kernel) ?_
      refine xg_goto (tgt := 78) dX12_entitled_60 (by decide) ?_
      exact xg_lret rfl dX12_entitled_78 rfl hM2 (by decide)
    · refine xg_aload_n dX12_entitled_63 (Eq.refl 64) rfl ?_
      refine xg_getR (k := 0) xcl12 h0 rfl xq_122 rfl (xt_12_0 h0).1 dX12_entitled_64 (Eq.refl 67) ?_
      refine xg_sipush dX12_entitled_67 (Eq.refl 70) (by decide +kernel) ?_
      refine xg_bipush dX12_entitled_70 (Eq.refl 72) (by decide +kernel) ?_
      refine xg_iload_n dX12_entitled_72 (Eq.refl 73) rfl ?_
      refine xg_imul dX12_entitled_73 (Eq.refl 74) ?_
      refine xg_iadd dX12_entitled_74 (Eq.refl 75) ?_
      refine xg_iload_n dX12_entitled_75 (Eq.refl 76) rfl ?_
      refine xg_iadd dX12_entitled_76 (Eq.refl 77) ?_
      refine xg_lald (xt_12_0 h0).2 dX12_entitled_77 (Eq.refl 78) ?_
      exact xg_lret rfl dX12_entitled_78 rfl hM2 (hM2.aj (xt_12_0 h0).2)
  · refine xg_ldc2 (z := (-1)) xq_320 dX12_entitled_38 (Eq.refl 41) (by decide +kernel) ?_
    exact xg_lret rfl dX12_entitled_41 rfl hM2 (by decide)
theorem gX12_entitled_21 {l : Launch} {G : xG} (hl : l.stackTraces = false) (x0 : Nat) (h0 : xOb 12 x0) (x1 : Int) (h1 : R32 x1) (x2 : Int) (h2 : R32 x2) (s0 : Int) (hs0 : B01 s0) (M : xM) (hM : xcan M) : Gv l G uX12_entitled 3 2 0 0 21 [some (.ref x0), some (iv x1), some (iv x2), none] [iv s0] M (fX12_entitled_21 x0 x1 x2 s0 M) := by
  unfold fX12_entitled_21
  refine xg_istore_n (ls2 := [some (.ref x0), some (iv x1), some (iv x2), some (iv s0)]) dX12_entitled_21 (Eq.refl 22) (by decide) rfl ?_
  refine xg_aload_n dX12_entitled_22 (Eq.refl 23) rfl ?_
  refine xg_iload_n dX12_entitled_23 (Eq.refl 24) rfl ?_
  refine xg_if_eq (tgt := 31) dX12_entitled_24 (Eq.refl 27) (by decide) (B01.r hs0) ?_ ?_
  · refine xg_iconst dX12_entitled_31 (Eq.refl 32) ?_
    exact xg_jump (gX12_entitled_32 hl x0 h0 x1 h1 x2 h2 1 (by decide) x0 h0 M hM) (xsb_s (xsb_s (xsb_s (xsb_n xsb_0)))) (by decide) (by decide)
  · refine xg_iconst dX12_entitled_27 (Eq.refl 28) ?_
    refine xg_goto (tgt := 32) dX12_entitled_28 (by decide) ?_
    exact xg_jump (gX12_entitled_32 hl x0 h0 x1 h1 x2 h2 0 (by decide) x0 h0 M hM) (xsb_s (xsb_s (xsb_s (xsb_n xsb_0)))) (by decide) (by decide)
theorem gX12_entitled_20 {l : Launch} {G : xG} (hl : l.stackTraces = false) (x0 : Nat) (h0 : xOb 12 x0) (x1 : Int) (h1 : R32 x1) (x2 : Int) (h2 : R32 x2) (M : xM) (hM : xcan M) : Gv l G uX12_entitled 3 2 0 0 20 [some (.ref x0), some (iv x1), some (iv x2), none] [] M (fX12_entitled_20 x0 x1 x2 M) := by
  unfold fX12_entitled_20
  refine xg_iconst dX12_entitled_20 (Eq.refl 21) ?_
  exact xg_jump (gX12_entitled_21 hl x0 h0 x1 h1 x2 h2 0 (by decide) M hM) (xsb_s (xsb_s (xsb_s (xsb_n xsb_0)))) (by decide) (by decide)
theorem mX12_entitled {l : Launch} {G : xG} (hl : l.stackTraces = false) (x0 : Nat) (h0 : xOb 12 x0) (x1 : Int) (h1 : R32 x1) (x2 : Int) (h2 : R32 x2) (M : xM) (hM : xcan M) : Cm l G yX12_entitled cX12_entitled 4 (some .long) 3 2 0 0 [.ref x0, iv x1, iv x2] M (fX12_entitled x0 x1 x2 M) := by
  refine xcm_of (u := uX12_entitled) (ls := [some (.ref x0), some (iv x1), some (iv x2), none]) 1 hl rfl (by decide +kernel) (Nat.le_of_ble_eq_true rfl) rfl ?_
  unfold fX12_entitled
  refine xg_aload_n dX12_entitled_0 (Eq.refl 1) rfl ?_
  refine xg_iload_n dX12_entitled_1 (Eq.refl 2) rfl ?_
  refine xg_callV_Z (kc := 0) (ks := 0) (st := []) (mX12_isEvent hl x0 h0 x1 h1 M hM) bX12_isEvent xcl12 h0 rfl xq_1341 rfl (by decide) rfl (by decide) dX12_entitled_2 (Eq.refl 5) rfl (by decide) (by decide) ?_
  intro z1 M2 hz1 hM2
  refine xg_if_eq (tgt := 20) dX12_entitled_5 (Eq.refl 8) (by decide) (B01.r hz1) ?_ ?_
  · exact xg_jump (gX12_entitled_20 hl x0 h0 x1 h1 x2 h2 M2 hM2) (xsb_s (xsb_s (xsb_s (xsb_n xsb_0)))) (by decide) (by decide)
  · refine xg_aload_n dX12_entitled_8 (Eq.refl 9) rfl ?_
    refine xg_iload_n dX12_entitled_9 (Eq.refl 10) rfl ?_
    refine xg_callV_Z (kc := 0) (ks := 0) (st := []) (mX12_isAccount hl x0 h0 x2 h2 M2 hM2) bX12_isAccount xcl12 h0 rfl xq_183 rfl (by decide) rfl (by decide) dX12_entitled_10 (Eq.refl 13) rfl (by decide) (by decide) ?_
    intro z3 M4 hz3 hM4
    refine xg_if_eq (tgt := 20) dX12_entitled_13 (Eq.refl 16) (by decide) (B01.r hz3) ?_ ?_
    · exact xg_jump (gX12_entitled_20 hl x0 h0 x1 h1 x2 h2 M4 hM4) (xsb_s (xsb_s (xsb_s (xsb_n xsb_0)))) (by decide) (by decide)
    · refine xg_iconst dX12_entitled_16 (Eq.refl 17) ?_
      refine xg_goto (tgt := 21) dX12_entitled_17 (by decide) ?_
      exact xg_jump (gX12_entitled_21 hl x0 h0 x1 h1 x2 h2 1 (by decide) M4 hM4) (xsb_s (xsb_s (xsb_s (xsb_n xsb_0)))) (by decide) (by decide)
