abbrev uL_law (tab : List ExceptionTableEntry) (nm : String) : xU := (RL, cL_law, 12, (some .boolean), tab, nm)
theorem gL_law_514 {l : Launch} {G : xG} {N : Nat} (hl : l.stackTraces = false) (tab : List ExceptionTableEntry) (nm : String) (sl : Nat) (sx : Nat → Int32) (hS : G.2.2.2.1.2 = (sl, sx)) (hsl : sl ≤ 2147483647) (k s : Nat) (rc208 : Int → Nat → xM → xO) (x1 : Nat) (h1 : xOb 11 x1) (x2 : Nat) (h2 : xAn 0 5 x2) (x3 : Int) (h3 : R32 x3) (hr208 : ∀ w3 : Int, R32 w3 → ∀ N : Nat, 401 ≤ N → ∀ M : xM, xcan M → Gv l (setN G N) (uL_law tab nm) 22 5 k s 208 [some (.ref xSCR), some (.ref x1), some (.ref x2), some (iv w3), none, none, none, none, none, none, none, none] [] M (rc208 w3 N M)) (hN : 401 ≤ N) (M : xM) (hM : xcan M) : Gv l (setN G N) (uL_law tab nm) 22 5 (k + 0) (s + 0) 514 [some (.ref xSCR), some (.ref x1), some (.ref x2), some (iv x3), none, none, none, none, none, none, none, none] [] M (fL_law_514 sl sx rc208 x1 x2 x3 N M) := by
  unfold fL_law_514
  refine xg_iinc (ls2 := [some (.ref xSCR), some (.ref x1), some (.ref x2), some (iv (w32 (x3 + 1))), none, none, none, none, none, none, none, none]) dL_law_514 (Eq.refl 517) rfl (show 3 < 12 by decide) rfl ?_
  refine xg_goto (tgt := 208) dL_law_517 (by decide) ?_
  exact xg_jump (hr208 (w32 (x3 + 1)) (w32_r _) N hN M hM) (xsb_s (xsb_s (xsb_s (xsb_s (xsb_n (xsb_n (xsb_n (xsb_n (xsb_n (xsb_n (xsb_n (xsb_n xsb_0)))))))))))) (by omega) (by omega)
theorem gL_law_495 {l : Launch} {G : xG} {N : Nat} (hl : l.stackTraces = false) (tab : List ExceptionTableEntry) (nm : String) (sl : Nat) (sx : Nat → Int32) (hS : G.2.2.2.1.2 = (sl, sx)) (hsl : sl ≤ 2147483647) (k s : Nat) (rc208 : Int → Nat → xM → xO) (x1 : Nat) (h1 : xOb 11 x1) (x2 : Nat) (h2 : xAn 0 5 x2) (x3 : Int) (h3 : R32 x3) (x4 : Int) (h4 : R32 x4) (hr208 : ∀ w3 : Int, R32 w3 → ∀ N : Nat, 401 ≤ N → ∀ M : xM, xcan M → Gv l (setN G N) (uL_law tab nm) 22 5 k s 208 [some (.ref xSCR), some (.ref x1), some (.ref x2), some (iv w3), none, none, none, none, none, none, none, none] [] M (rc208 w3 N M)) (hN : 401 ≤ N) (M : xM) (hM : xcan M) : Gv l (setN G N) (uL_law tab nm) 22 5 (k + 343) (s + 2058) 495 [some (.ref xSCR), some (.ref x1), some (.ref x2), some (iv x3), some (iv x4), none, none, none, none, none, none, none] [] M (fL_law_495 sl sx rc208 x1 x2 x3 x4 N M) := by
  unfold fL_law_495
  refine xg_iload dL_law_495 (Eq.refl 497) rfl ?_
  refine xg_iconst dL_law_497 (Eq.refl 498) ?_
  refine xg_callSC_I (kx9 := fun _ _ => none) (kc := (k + 343)) (ks := (s + 2058)) (st := []) (mL_low hl x4 h4 3 (by decide) M hM) bL_low xq_120 rfl (by decide) (by decide) dL_law_498 (Eq.refl 501) rfl (by omega) (by omega) ?_ xgx_nm
  intro z1 M2 hz1 hM2
  refine xg_if_ne (tgt := 514) dL_law_501 (Eq.refl 504) (by decide) hz1 ?_ ?_
  · refine xg_aload_n dL_law_504 (Eq.refl 505) rfl ?_
    refine xg_aload_n dL_law_505 (Eq.refl 506) rfl ?_
    refine xg_callSC_Z (kx9 := fun _ _ => none) (kc := (k + 0)) (ks := (s + 0)) (st := []) (mL_asks hl x1 h1 x2 h2 M2 hM2) bL_asks xq_999 rfl (by decide) (by decide) dL_law_506 (Eq.refl 509) rfl (by omega) (by omega) ?_ xgx_nm
    intro z3 M4 hz3 hM4
    refine xg_if_ne (tgt := 514) dL_law_509 (Eq.refl 512) (by decide) (B01.r hz3) ?_ ?_
    · refine xg_iconst dL_law_512 (Eq.refl 513) ?_
      exact xg_zretL rfl dL_law_513 rfl (by decide)
    · exact xg_jump (gL_law_514 (N := N) hl tab nm sl sx hS hsl (k) (s) rc208 x1 h1 x2 h2 x3 h3 hr208 hN M4 hM4) (xsb_s (xsb_s (xsb_s (xsb_s (xsb_n (xsb_n (xsb_n (xsb_n (xsb_n (xsb_n (xsb_n (xsb_n xsb_0)))))))))))) (by omega) (by omega)
  · exact xg_jump (gL_law_514 (N := N) hl tab nm sl sx hS hsl (k) (s) rc208 x1 h1 x2 h2 x3 h3 hr208 hN M2 hM2) (xsb_s (xsb_s (xsb_s (xsb_s (xsb_n (xsb_n (xsb_n (xsb_n (xsb_n (xsb_n (xsb_n (xsb_n xsb_0)))))))))))) (by omega) (by omega)
theorem gL_law_435 {l : Launch} {G : xG} {N : Nat} (hl : l.stackTraces = false) (tab : List ExceptionTableEntry) (nm : String) (sl : Nat) (sx : Nat → Int32) (hS : G.2.2.2.1.2 = (sl, sx)) (hsl : sl ≤ 2147483647) (k s : Nat) (rc208 : Int → Nat → xM → xO) (x1 : Nat) (h1 : xOb 11 x1) (x2 : Nat) (h2 : xAn 0 5 x2) (x3 : Int) (h3 : R32 x3) (x4 : Int) (h4 : R32 x4) (hr208 : ∀ w3 : Int, R32 w3 → ∀ N : Nat, 401 ≤ N → ∀ M : xM, xcan M → Gv l (setN G N) (uL_law tab nm) 22 5 k s 208 [some (.ref xSCR), some (.ref x1), some (.ref x2), some (iv w3), none, none, none, none, none, none, none, none] [] M (rc208 w3 N M)) (hN : 401 ≤ N) (M : xM) (hM : xcan M) : Gv l (setN G N) (uL_law tab nm) 22 5 (k + 675) (s + 4158) 435 [some (.ref xSCR), some (.ref x1), some (.ref x2), some (iv x3), some (iv x4), none, none, none, none, none, none, none] [] M (fL_law_435 sl sx rc208 x1 x2 x3 x4 N M) := by
  unfold fL_law_435
  refine xg_iload dL_law_435 (Eq.refl 437) rfl ?_
  refine xg_iconst dL_law_437 (Eq.refl 438) ?_
  refine xg_callSC_I (kx9 := fun _ _ => none) (kc := (k + 675)) (ks := (s + 4158)) (st := []) (mL_low hl x4 h4 5 (by decide) M hM) bL_low xq_120 rfl (by decide) (by decide) dL_law_438 (Eq.refl 441) rfl (by omega) (by omega) ?_ xgx_nm
  intro z1 M2 hz1 hM2
  refine xg_if_ne (tgt := 495) dL_law_441 (Eq.refl 444) (by decide) hz1 ?_ ?_
  · refine xg_aload_n dL_law_444 (Eq.refl 445) rfl ?_
    refine xg_callVC_I (kc := (k + 675)) (ks := (s + 4158)) (st := []) (mX11_keep hl x1 h1 M2 hM2) bX11_keep xcl11 h1 rfl xq_907 rfl (by decide) (by decide) dL_law_445 (Eq.refl 448) rfl (by omega) (by omega) ?_ ?_
    · intro z3 M4 hz3 hM4
      refine xg_pop dL_law_448 (Eq.refl 449) rfl ?_
      refine xg_aload_n dL_law_449 (Eq.refl 450) rfl ?_
      refine xg_aload_n dL_law_450 (Eq.refl 451) rfl ?_
      refine xg_tell (N := N) (kc := (k + 510)) (ks := (s + 3114)) (st := []) hN hl x1 h1 x2 h2 hM4 xq_198 (by decide) dL_law_451 (Eq.refl 454) rfl (by omega) (by omega) (xol_s (Or.inr rfl) (xol_s (Or.inl (Nat.lt_of_lt_of_le (xOb.lt h1 (by decide)) hN)) (xol_s (Or.inl (Nat.lt_of_lt_of_le (h2).lt hN)) (xol_s trivial (xol_s trivial (xol_n (xol_n (xol_n (xol_n (xol_n (xol_n (xol_n xol_nil)))))))))))) xok_nil ?_
      intro M6 hM6
      refine xg_astore (ls2 := [some (.ref xSCR), some (.ref x1), some (.ref x2), some (iv x3), some (iv x4), none, none, none, none, some (.ref N), none, none]) dL_law_454 (Eq.refl 456) (show 9 < 12 by decide) rfl ?_
      refine xg_aload_n dL_law_456 (Eq.refl 457) rfl ?_
      refine xg_callVC_I (kc := (k + 510)) (ks := (s + 3114)) (st := []) (mX11_cycle hl x1 h1 M6 hM6) bX11_cycle xcl11 h1 rfl xq_633 rfl (by decide) (by decide) dL_law_457 (Eq.refl 460) rfl (by omega) (by omega) ?_ ?_
      · intro z7 M8 hz7 hM8
        refine xg_pop dL_law_460 (Eq.refl 461) rfl ?_
        refine xg_aload_n dL_law_461 (Eq.refl 462) rfl ?_
        refine xg_callVC_I (kc := (k + 509)) (ks := (s + 3108)) (st := []) (mX11_endDay hl x1 h1 M8 hM8) bX11_endDay xcl11 h1 rfl xq_722 rfl (by decide) (by decide) dL_law_462 (Eq.refl 465) rfl (by omega) (by omega) ?_ ?_
        · intro z9 M10 hz9 hM10
          refine xg_pop dL_law_465 (Eq.refl 466) rfl ?_
          refine xg_aload_n dL_law_466 (Eq.refl 467) rfl ?_
          refine xg_callVC_I (kc := (k + 508)) (ks := (s + 3102)) (st := []) (mX11_goBack hl x1 h1 M10 hM10) bX11_goBack xcl11 h1 rfl xq_995 rfl (by decide) (by decide) dL_law_467 (Eq.refl 470) rfl (by omega) (by omega) ?_ ?_
          · intro z11 M12 hz11 hM12
            refine xg_i2l dL_law_470 (Eq.refl 471) hz11 ?_
            refine xg_aload dL_law_471 (Eq.refl 473) rfl ?_
            refine xg_bipush dL_law_473 (Eq.refl 475) (by decide +kernel) ?_
            refine xg_tald (xTa.new (G := G) hN) dL_law_475 (Eq.refl 476) ?_
            refine xg_lif_ne (tgt := 493) dL_law_476 (Eq.refl 477) dL_law_477 (Eq.refl 480) (by decide) (R32.j hz11) (w64_r _) ?_ ?_
            · refine xg_aload dL_law_480 (Eq.refl 482) rfl ?_
              refine xg_aload_n dL_law_482 (Eq.refl 483) rfl ?_
              refine xg_aload_n dL_law_483 (Eq.refl 484) rfl ?_
              refine xg_tell (N := (N + 1)) (kc := (k + 343)) (ks := (s + 2058)) (st := [.ref N]) (Nat.le_succ_of_le hN) hl x1 h1 x2 h2 hM12 xq_198 (Nat.le_of_ble_eq_true rfl) dL_law_484 (Eq.refl 487) rfl (by omega) (by omega) (xol_s (Or.inr rfl) (xol_s (Or.inl (Nat.lt_of_lt_of_le (xOb.lt h1 (by decide)) (Nat.le_succ_of_le hN))) (xol_s (Or.inl (Nat.lt_of_lt_of_le (h2).lt (Nat.le_succ_of_le hN))) (xol_s trivial (xol_s trivial (xol_n (xol_n (xol_n (xol_n (xol_s (Or.inl (xTa.lt (G := G) (xTa.new (G := G) hN) (Nat.le_succ_of_le hN))) (xol_n (xol_n xol_nil)))))))))))) (xok_c (Or.inl (xTa.lt (G := G) (xTa.new (G := G) hN) (Nat.le_succ_of_le hN))) xok_nil) ?_
              intro M14 hM14
              refine xg_callSC_Z (kx9 := fun _ _ => none) (kc := (k + 343)) (ks := (s + 2058)) (st := []) (mL_same hl N (xTa.up (G := G) (xTa.new (G := G) hN) (Nat.le_succ_of_le hN)) (N + 1) (xTa.new (G := G) (Nat.le_succ_of_le hN)) M14 hM14) bL_same xq_627 rfl (by decide) (by decide) dL_law_487 (Eq.refl 490) rfl (by omega) (by omega) ?_ xgx_nm
              intro z15 M16 hz15 hM16
              refine xg_if_ne (tgt := 495) dL_law_490 (Eq.refl 493) (by decide) (B01.r hz15) ?_ ?_
              · refine xg_iconst dL_law_493 (Eq.refl 494) ?_
                exact xg_zretL rfl dL_law_494 rfl (by decide)
              · exact xg_jump (gL_law_495 (N := ((N + 1) + 1)) hl tab nm sl sx hS hsl (k) (s) rc208 x1 h1 x2 h2 x3 h3 x4 h4 hr208 (Nat.le_succ_of_le (Nat.le_succ_of_le hN)) M16 hM16) (xsb_s (xsb_s (xsb_s (xsb_s (xsb_s (xsb_n (xsb_n (xsb_n (xsb_n (xsb_n (xsb_n (xsb_n xsb_0)))))))))))) (by omega) (by omega)
            · refine xg_iconst dL_law_493 (Eq.refl 494) ?_
              exact xg_zretL rfl dL_law_494 rfl (by decide)
          · intro e M9 he hM9
            exact xgx_none
        · intro e M9 he hM9
          exact xgx_none
      · intro e M9 he hM9
        exact xgx_none
    · intro e M9 he hM9
      exact xgx_none
  · exact xg_jump (gL_law_495 (N := N) hl tab nm sl sx hS hsl (k) (s) rc208 x1 h1 x2 h2 x3 h3 x4 h4 hr208 hN M2 hM2) (xsb_s (xsb_s (xsb_s (xsb_s (xsb_s (xsb_n (xsb_n (xsb_n (xsb_n (xsb_n (xsb_n (xsb_n xsb_0)))))))))))) (by omega) (by omega)
theorem gL_law_398 {l : Launch} {G : xG} {N : Nat} (hl : l.stackTraces = false) (tab : List ExceptionTableEntry) (nm : String) (sl : Nat) (sx : Nat → Int32) (hS : G.2.2.2.1.2 = (sl, sx)) (hsl : sl ≤ 2147483647) (k s : Nat) (rc208 : Int → Nat → xM → xO) (x1 : Nat) (h1 : xOb 11 x1) (x2 : Nat) (h2 : xAn 0 5 x2) (x3 : Int) (h3 : R32 x3) (x4 : Int) (h4 : R32 x4) (x7 : Int) (h7 : R32 x7) (hr208 : ∀ w3 : Int, R32 w3 → ∀ N : Nat, 401 ≤ N → ∀ M : xM, xcan M → Gv l (setN G N) (uL_law tab nm) 22 5 k s 208 [some (.ref xSCR), some (.ref x1), some (.ref x2), some (iv w3), none, none, none, none, none, none, none, none] [] M (rc208 w3 N M)) (hN : 401 ≤ N) (M : xM) (hM : xcan M) : Gv l (setN G N) (uL_law tab nm) 22 5 (k + 676) (s + 4164) 398 [some (.ref xSCR), some (.ref x1), some (.ref x2), some (iv x3), some (iv x4), none, none, some (iv x7), none, none, none, none] [] M (fL_law_398 sl sx rc208 x1 x2 x3 x4 x7 N M) := by
  unfold fL_law_398
  refine xg_iload dL_law_398 (Eq.refl 400) rfl ?_
  refine xg_bipush dL_law_400 (Eq.refl 402) (by decide +kernel) ?_
  refine xg_icmp_ne (tgt := 435) dL_law_402 (Eq.refl 405) (by decide) h7 (by decide) ?_ ?_
  · refine xg_aload_n dL_law_405 (Eq.refl 406) rfl ?_
    refine xg_callVC_I (kc := (k + 676)) (ks := (s + 4164)) (st := []) (mX11_today hl x1 h1 M hM) bX11_today xcl11 h1 rfl xq_270 rfl (by decide) (by decide) dL_law_406 (Eq.refl 409) rfl (by omega) (by omega) ?_ ?_
    · intro z1 M2 hz1 hM2
      refine xg_istore (ls2 := [some (.ref xSCR), some (.ref x1), some (.ref x2), some (iv x3), some (iv x4), none, none, some (iv x7), none, some (iv z1), none, none]) dL_law_409 (Eq.refl 411) (show 9 < 12 by decide) rfl ?_
      refine xg_aload_n dL_law_411 (Eq.refl 412) rfl ?_
      refine xg_callVC_I (kc := (k + 675)) (ks := (s + 4158)) (st := []) (mX11_endDay hl x1 h1 M2 hM2) bX11_endDay xcl11 h1 rfl xq_722 rfl (by decide) (by decide) dL_law_412 (Eq.refl 415) rfl (by omega) (by omega) ?_ ?_
      · intro z3 M4 hz3 hM4
        refine xg_istore (ls2 := [some (.ref xSCR), some (.ref x1), some (.ref x2), some (iv x3), some (iv x4), none, none, some (iv x7), none, some (iv z1), some (iv z3), none]) dL_law_415 (Eq.refl 417) (show 10 < 12 by decide) rfl ?_
        refine xg_iload dL_law_417 (Eq.refl 419) rfl ?_
        refine xg_if_lt (tgt := 433) dL_law_419 (Eq.refl 422) (by decide) hz3 ?_ ?_
        · refine xg_iconst dL_law_433 (Eq.refl 434) ?_
          exact xg_zretL rfl dL_law_434 rfl (by decide)
        · refine xg_aload_n dL_law_422 (Eq.refl 423) rfl ?_
          refine xg_callVC_I (kc := (k + 675)) (ks := (s + 4158)) (st := []) (mX11_today hl x1 h1 M4 hM4) bX11_today xcl11 h1 rfl xq_270 rfl (by decide) (by decide) dL_law_423 (Eq.refl 426) rfl (by omega) (by omega) ?_ ?_
          · intro z5 M6 hz5 hM6
            refine xg_iload dL_law_426 (Eq.refl 428) rfl ?_
            refine xg_iconst dL_law_428 (Eq.refl 429) ?_
            refine xg_iadd dL_law_429 (Eq.refl 430) ?_
            refine xg_icmp_eq (tgt := 435) dL_law_430 (Eq.refl 433) (by decide) hz5 (w32_r _) ?_ ?_
            · exact xg_jump (gL_law_435 (N := N) hl tab nm sl sx hS hsl (k) (s) rc208 x1 h1 x2 h2 x3 h3 x4 h4 hr208 hN M6 hM6) (xsb_s (xsb_s (xsb_s (xsb_s (xsb_s (xsb_n (xsb_n (xsb_n (xsb_n (xsb_n (xsb_n (xsb_n xsb_0)))))))))))) (by omega) (by omega)
            · refine xg_iconst dL_law_433 (Eq.refl 434) ?_
              exact xg_zretL rfl dL_law_434 rfl (by decide)
          · intro e M9 he hM9
            exact xgx_none
      · intro e M9 he hM9
        exact xgx_none
    · intro e M9 he hM9
      exact xgx_none
  · exact xg_jump (gL_law_435 (N := N) hl tab nm sl sx hS hsl (k) (s) rc208 x1 h1 x2 h2 x3 h3 x4 h4 hr208 hN M hM) (xsb_s (xsb_s (xsb_s (xsb_s (xsb_s (xsb_n (xsb_n (xsb_n (xsb_n (xsb_n (xsb_n (xsb_n xsb_0)))))))))))) (by omega) (by omega)
theorem gL_law_367 {l : Launch} {G : xG} {N : Nat} (hl : l.stackTraces = false) (tab : List ExceptionTableEntry) (nm : String) (sl : Nat) (sx : Nat → Int32) (hS : G.2.2.2.1.2 = (sl, sx)) (hsl : sl ≤ 2147483647) (k s : Nat) (rc208 : Int → Nat → xM → xO) (x1 : Nat) (h1 : xOb 11 x1) (x2 : Nat) (h2 : xAn 0 5 x2) (x3 : Int) (h3 : R32 x3) (x4 : Int) (h4 : R32 x4) (x7 : Int) (h7 : R32 x7) (hr208 : ∀ w3 : Int, R32 w3 → ∀ N : Nat, 401 ≤ N → ∀ M : xM, xcan M → Gv l (setN G N) (uL_law tab nm) 22 5 k s 208 [some (.ref xSCR), some (.ref x1), some (.ref x2), some (iv w3), none, none, none, none, none, none, none, none] [] M (rc208 w3 N M)) (hN : 401 ≤ N) (M : xM) (hM : xcan M) : Gv l (setN G N) (uL_law tab nm) 22 5 (k + 690) (s + 4248) 367 [some (.ref xSCR), some (.ref x1), some (.ref x2), some (iv x3), some (iv x4), none, none, some (iv x7), none, none, none, none] [] M (fL_law_367 sl sx rc208 x1 x2 x3 x4 x7 N M) := by
  unfold fL_law_367
  refine xg_aload_n dL_law_367 (Eq.refl 368) rfl ?_
  refine xg_aload_n dL_law_368 (Eq.refl 369) rfl ?_
  refine xg_callSC_J (kx9 := fun _ _ => none) (kc := (k + 683)) (ks := (s + 4206)) (st := []) (mL_cash hl x1 h1 x2 h2 M hM) bL_cash xq_630 rfl (by decide) (by decide) dL_law_369 (Eq.refl 372) rfl (by omega) (by omega) ?_ xgx_nm
  intro z1 M2 hz1 hM2
  refine xg_lstore (ls2 := [some (.ref xSCR), some (.ref x1), some (.ref x2), some (iv x3), some (iv x4), none, none, some (iv x7), none, some (jv z1), none, none]) dL_law_372 (Eq.refl 374) (show 9 + 1 < 12 by decide) rfl ?_
  refine xg_aload_n dL_law_374 (Eq.refl 375) rfl ?_
  refine xg_callVC_I (kc := (k + 683)) (ks := (s + 4206)) (st := []) (mX11_cycle hl x1 h1 M2 hM2) bX11_cycle xcl11 h1 rfl xq_633 rfl (by decide) (by decide) dL_law_375 (Eq.refl 378) rfl (by omega) (by omega) ?_ ?_
  · intro z3 M4 hz3 hM4
    refine xg_istore (ls2 := [some (.ref xSCR), some (.ref x1), some (.ref x2), some (iv x3), some (iv x4), none, none, some (iv x7), none, some (jv z1), none, some (iv z3)]) dL_law_378 (Eq.refl 380) (show 11 < 12 by decide) rfl ?_
    refine xg_iload dL_law_380 (Eq.refl 382) rfl ?_
    refine xg_if_lt (tgt := 396) dL_law_382 (Eq.refl 385) (by decide) hz3 ?_ ?_
    · refine xg_iconst dL_law_396 (Eq.refl 397) ?_
      exact xg_zretL rfl dL_law_397 rfl (by decide)
    · refine xg_aload_n dL_law_385 (Eq.refl 386) rfl ?_
      refine xg_aload_n dL_law_386 (Eq.refl 387) rfl ?_
      refine xg_callSC_J (kx9 := fun _ _ => none) (kc := (k + 676)) (ks := (s + 4164)) (st := []) (mL_cash hl x1 h1 x2 h2 M4 hM4) bL_cash xq_630 rfl (by decide) (by decide) dL_law_387 (Eq.refl 390) rfl (by omega) (by omega) ?_ xgx_nm
      intro z5 M6 hz5 hM6
      refine xg_lload dL_law_390 (Eq.refl 392) rfl ?_
      refine xg_lif_eq (tgt := 398) dL_law_392 (Eq.refl 393) dL_law_393 (Eq.refl 396) (by decide) hz5 hz1 ?_ ?_
      · exact xg_jump (gL_law_398 (N := N) hl tab nm sl sx hS hsl (k) (s) rc208 x1 h1 x2 h2 x3 h3 x4 h4 x7 h7 hr208 hN M6 hM6) (xsb_s (xsb_s (xsb_s (xsb_s (xsb_s (xsb_n (xsb_n (xsb_s (xsb_n (xsb_n (xsb_n (xsb_n xsb_0)))))))))))) (by omega) (by omega)
      · refine xg_iconst dL_law_396 (Eq.refl 397) ?_
        exact xg_zretL rfl dL_law_397 rfl (by decide)
  · intro e M9 he hM9
    exact xgx_none
theorem gL_law_353 {l : Launch} {G : xG} {N : Nat} (hl : l.stackTraces = false) (tab : List ExceptionTableEntry) (nm : String) (sl : Nat) (sx : Nat → Int32) (hS : G.2.2.2.1.2 = (sl, sx)) (hsl : sl ≤ 2147483647) (k s : Nat) (rc208 : Int → Nat → xM → xO) (x1 : Nat) (h1 : xOb 11 x1) (x2 : Nat) (h2 : xAn 0 5 x2) (x3 : Int) (h3 : R32 x3) (x4 : Int) (h4 : R32 x4) (x7 : Int) (h7 : R32 x7) (hr208 : ∀ w3 : Int, R32 w3 → ∀ N : Nat, 401 ≤ N → ∀ M : xM, xcan M → Gv l (setN G N) (uL_law tab nm) 22 5 k s 208 [some (.ref xSCR), some (.ref x1), some (.ref x2), some (iv w3), none, none, none, none, none, none, none, none] [] M (rc208 w3 N M)) (hN : 401 ≤ N) (M : xM) (hM : xcan M) : Gv l (setN G N) (uL_law tab nm) 22 5 (k + 690) (s + 4248) 353 [some (.ref xSCR), some (.ref x1), some (.ref x2), some (iv x3), some (iv x4), none, none, some (iv x7), none, none, none, none] [] M (fL_law_353 sl sx rc208 x1 x2 x3 x4 x7 N M) := by
  unfold fL_law_353
  refine xg_iload dL_law_353 (Eq.refl 355) rfl ?_
  refine xg_bipush dL_law_355 (Eq.refl 357) (by decide +kernel) ?_
  refine xg_icmp_eq (tgt := 367) dL_law_357 (Eq.refl 360) (by decide) h7 (by decide) ?_ ?_
  · exact xg_jump (gL_law_367 (N := N) hl tab nm sl sx hS hsl (k) (s) rc208 x1 h1 x2 h2 x3 h3 x4 h4 x7 h7 hr208 hN M hM) (xsb_s (xsb_s (xsb_s (xsb_s (xsb_s (xsb_n (xsb_n (xsb_s (xsb_n (xsb_n (xsb_n (xsb_n xsb_0)))))))))))) (by omega) (by omega)
  · refine xg_iload dL_law_360 (Eq.refl 362) rfl ?_
    refine xg_bipush dL_law_362 (Eq.refl 364) (by decide +kernel) ?_
    refine xg_icmp_ne (tgt := 398) dL_law_364 (Eq.refl 367) (by decide) h7 (by decide) ?_ ?_
    · exact xg_jump (gL_law_367 (N := N) hl tab nm sl sx hS hsl (k) (s) rc208 x1 h1 x2 h2 x3 h3 x4 h4 x7 h7 hr208 hN M hM) (xsb_s (xsb_s (xsb_s (xsb_s (xsb_s (xsb_n (xsb_n (xsb_s (xsb_n (xsb_n (xsb_n (xsb_n xsb_0)))))))))))) (by omega) (by omega)
    · exact xg_jump (gL_law_398 (N := N) hl tab nm sl sx hS hsl (k) (s) rc208 x1 h1 x2 h2 x3 h3 x4 h4 x7 h7 hr208 hN M hM) (xsb_s (xsb_s (xsb_s (xsb_s (xsb_s (xsb_n (xsb_n (xsb_s (xsb_n (xsb_n (xsb_n (xsb_n xsb_0)))))))))))) (by omega) (by omega)
theorem gL_law_316 {l : Launch} {G : xG} {N : Nat} (hl : l.stackTraces = false) (tab : List ExceptionTableEntry) (nm : String) (sl : Nat) (sx : Nat → Int32) (hS : G.2.2.2.1.2 = (sl, sx)) (hsl : sl ≤ 2147483647) (k s : Nat) (rc208 : Int → Nat → xM → xO) (x1 : Nat) (h1 : xOb 11 x1) (x2 : Nat) (h2 : xAn 0 5 x2) (x3 : Int) (h3 : R32 x3) (x4 : Int) (h4 : R32 x4) (x6 : Nat) (h6 : xTa (setN G N) x6) (x7 : Int) (h7 : R32 x7) (s0 : Int) (hs0 : R32 s0) (hr208 : ∀ w3 : Int, R32 w3 → ∀ N : Nat, 401 ≤ N → ∀ M : xM, xcan M → Gv l (setN G N) (uL_law tab nm) 22 5 k s 208 [some (.ref xSCR), some (.ref x1), some (.ref x2), some (iv w3), none, none, none, none, none, none, none, none] [] M (rc208 w3 N M)) (hN : 401 ≤ N) (M : xM) (hM : xcan M) : Gv l (setN G N) (uL_law tab nm) 22 5 (k + 855) (s + 5292) 316 [some (.ref xSCR), some (.ref x1), some (.ref x2), some (iv x3), some (iv x4), none, some (.ref x6), some (iv x7), none, none, none, none] [iv s0] M (fL_law_316 sl sx rc208 x1 x2 x3 x4 x6 x7 s0 N M) := by
  unfold fL_law_316
  refine xg_istore (ls2 := [some (.ref xSCR), some (.ref x1), some (.ref x2), some (iv x3), some (iv x4), none, some (.ref x6), some (iv x7), some (iv s0), none, none, none]) dL_law_316 (Eq.refl 318) (show 8 < 12 by decide) rfl ?_
  refine xg_iload dL_law_318 (Eq.refl 320) rfl ?_
  refine xg_bipush dL_law_320 (Eq.refl 322) (by decide +kernel) ?_
  refine xg_icmp_eq (tgt := 351) dL_law_322 (Eq.refl 325) (by decide) hs0 (by decide) ?_ ?_
  · refine xg_iconst dL_law_351 (Eq.refl 352) ?_
    exact xg_zretL rfl dL_law_352 rfl (by decide)
  · refine xg_iload dL_law_325 (Eq.refl 327) rfl ?_
    refine xg_iconst dL_law_327 (Eq.refl 328) ?_
    refine xg_icmp_ge (tgt := 353) dL_law_328 (Eq.refl 331) (by decide) hs0 (by decide) ?_ ?_
    · exact xg_jump (gL_law_353 (N := N) hl tab nm sl sx hS hsl (k) (s) rc208 x1 h1 x2 h2 x3 h3 x4 h4 x7 h7 hr208 hN M hM) (xsb_s (xsb_s (xsb_s (xsb_s (xsb_s (xsb_n (xsb_n (xsb_s (xsb_n (xsb_n (xsb_n (xsb_n xsb_0)))))))))))) (by omega) (by omega)
    · refine xg_iload dL_law_331 (Eq.refl 333) rfl ?_
      refine xg_bipush dL_law_333 (Eq.refl 335) (by decide +kernel) ?_
      refine xg_icmp_le (tgt := 353) dL_law_335 (Eq.refl 338) (by decide) hs0 (by decide) ?_ ?_
      · exact xg_jump (gL_law_353 (N := N) hl tab nm sl sx hS hsl (k) (s) rc208 x1 h1 x2 h2 x3 h3 x4 h4 x7 h7 hr208 hN M hM) (xsb_s (xsb_s (xsb_s (xsb_s (xsb_s (xsb_n (xsb_n (xsb_s (xsb_n (xsb_n (xsb_n (xsb_n xsb_0)))))))))))) (by omega) (by omega)
      · refine xg_aload dL_law_338 (Eq.refl 340) rfl ?_
        refine xg_aload_n dL_law_340 (Eq.refl 341) rfl ?_
        refine xg_aload_n dL_law_341 (Eq.refl 342) rfl ?_
        refine xg_tell (N := N) (kc := (k + 690)) (ks := (s + 4248)) (st := [.ref x6]) hN hl x1 h1 x2 h2 hM xq_198 (Nat.le_of_ble_eq_true rfl) dL_law_342 (Eq.refl 345) rfl (by omega) (by omega) (xol_s (Or.inr rfl) (xol_s (Or.inl (Nat.lt_of_lt_of_le (xOb.lt h1 (by decide)) hN)) (xol_s (Or.inl (Nat.lt_of_lt_of_le (h2).lt hN)) (xol_s trivial (xol_s trivial (xol_n (xol_s (Or.inl (xTa.lt (G := G) h6 hN)) (xol_s trivial (xol_s trivial (xol_n (xol_n (xol_n xol_nil)))))))))))) (xok_c (Or.inl (xTa.lt (G := G) h6 hN)) xok_nil) ?_
        intro M2 hM2
        refine xg_callSC_Z (kx9 := fun _ _ => none) (kc := (k + 690)) (ks := (s + 4248)) (st := []) (mL_same hl x6 (xTa.up (G := G) h6 hN) N (xTa.new (G := G) hN) M2 hM2) bL_same xq_627 rfl (by decide) (by decide) dL_law_345 (Eq.refl 348) rfl (by omega) (by omega) ?_ xgx_nm
        intro z3 M4 hz3 hM4
        refine xg_if_ne (tgt := 353) dL_law_348 (Eq.refl 351) (by decide) (B01.r hz3) ?_ ?_
        · refine xg_iconst dL_law_351 (Eq.refl 352) ?_
          exact xg_zretL rfl dL_law_352 rfl (by decide)
        · exact xg_jump (gL_law_353 (N := (N + 1)) hl tab nm sl sx hS hsl (k) (s) rc208 x1 h1 x2 h2 x3 h3 x4 h4 x7 h7 hr208 (Nat.le_succ_of_le hN) M4 hM4) (xsb_s (xsb_s (xsb_s (xsb_s (xsb_s (xsb_n (xsb_n (xsb_s (xsb_n (xsb_n (xsb_n (xsb_n xsb_0)))))))))))) (by omega) (by omega)
theorem gL_law_208 {l : Launch} {G : xG} (hl : l.stackTraces = false) (tab : List ExceptionTableEntry) (nm : String) (sl : Nat) (sx : Nat → Int32) (hS : G.2.2.2.1.2 = (sl, sx)) (hsl : sl ≤ 2147483647) (x1 : Nat) (h1 : xOb 11 x1) (x2 : Nat) (h2 : xAn 0 5 x2) : ∀ (n : Nat) (x3 : Int) (_ : R32 x3) (N : Nat) (_ : 401 ≤ N) (M : xM) (_ : xcan M), Gv l (setN G N) (uL_law tab nm) 22 5 (n * 1044 + 367) (n * 6480 + 2202) 208 [some (.ref xSCR), some (.ref x1), some (.ref x2), some (iv x3), none, none, none, none, none, none, none, none] [] M (fL_law_208 sl sx x1 x2 n x3 N M) := by
  intro n; induction n with
  | zero => intro x3 h3 N hN M hM; exact xg_none
  | succ n ih =>
    intro x3 h3 N hN M hM
    rw [fL_law_208]
    refine xg_room (kc' := ((n * 1044 + 367) + 1044)) (ks' := ((n * 6480 + 2202) + 6480)) ?_ (by omega) (by omega)
    refine xg_iload_n dL_law_208 (Eq.refl 209) rfl ?_
    refine xg_bipush dL_law_209 (Eq.refl 211) (by decide +kernel) ?_
    refine xg_icmp_ge (tgt := 520) dL_law_211 (Eq.refl 214) (by decide) h3 (by decide) ?_ ?_
    · refine xg_room (kc' := 367) (ks' := 2202) ?_ (by omega) (by omega)
      refine xg_aload_n dL_law_520 (Eq.refl 521) rfl ?_
      refine xg_aload_n dL_law_521 (Eq.refl 522) rfl ?_
      refine xg_callSC_Z (kx9 := fun _ _ => none) (kc := 24) (ks := 144) (st := []) (mL_asks hl x1 h1 x2 h2 M hM) bL_asks xq_999 rfl (by decide) (by decide) dL_law_522 (Eq.refl 525) rfl (by omega) (by omega) ?_ xgx_nm
      intro z1 M2 hz1 hM2
      refine xg_if_eq (tgt := 614) dL_law_525 (Eq.refl 528) (by decide) (B01.r hz1) ?_ ?_
      · refine xg_iconst dL_law_614 (Eq.refl 615) ?_
        exact xg_zretL rfl dL_law_615 rfl (by decide)
      · refine xg_aload_n dL_law_528 (Eq.refl 529) rfl ?_
        refine xg_aload_n dL_law_529 (Eq.refl 530) rfl ?_
        refine xg_iconst dL_law_530 (Eq.refl 531) ?_
        refine xg_ialdk (k := 2) h2 dL_law_531 (Eq.refl 532) rfl (by decide) ?_
        refine xg_callWC_I (kc := 22) (ks := 132) (st := []) (mL_cancels hl x1 h1 (M2 x2 2) (hM2.ai h2) M2 hM2) bL_cancels xq_525 rfl (by decide) (by decide) dL_law_532 (Eq.refl 535) rfl (by omega) (by omega) ?_
        intro z3 M4 hz3 hM4
        refine xg_bipush dL_law_535 (Eq.refl 537) (by decide +kernel) ?_
        refine xg_icmp_ne (tgt := 614) dL_law_537 (Eq.refl 540) (by decide) hz3 (by decide) ?_ ?_
        · refine xg_aload_n dL_law_540 (Eq.refl 541) rfl ?_
          refine xg_iconst dL_law_541 (Eq.refl 542) ?_
          refine xg_callWC_I (kc := 20) (ks := 120) (st := []) (mL_holds hl x1 h1 (-1) (by decide) M4 hM4) bL_holds xq_561 rfl (by decide) (by decide) dL_law_542 (Eq.refl 545) rfl (by omega) (by omega) ?_
          intro z5 M6 hz5 hM6
          refine xg_bipush dL_law_545 (Eq.refl 547) (by decide +kernel) ?_
          refine xg_icmp_ne (tgt := 614) dL_law_547 (Eq.refl 550) (by decide) hz5 (by decide) ?_ ?_
          · refine xg_aload_n dL_law_550 (Eq.refl 551) rfl ?_
            refine xg_aload_n dL_law_551 (Eq.refl 552) rfl ?_
            refine xg_callVC_I (kc := 20) (ks := 120) (st := [.ref x1]) (mX11_loans hl x1 h1 M6 hM6) bX11_loans xcl11 h1 rfl xq_275 rfl (by decide) (Nat.le_of_ble_eq_true rfl) dL_law_552 (Eq.refl 555) rfl (by omega) (by omega) ?_ ?_
            · intro z7 M8 hz7 hM8
              refine xg_callWC_J (kc := 18) (ks := 108) (st := []) (mL_recalls hl x1 h1 z7 hz7 M8 hM8) bL_recalls xq_586 rfl (by decide) (by decide) dL_law_555 (Eq.refl 558) rfl (by omega) (by omega) ?_
              intro z9 M10 hz9 hM10
              refine xg_ldc2 (z := (-2)) xq_4 dL_law_558 (Eq.refl 561) (by decide +kernel) ?_
              refine xg_lif_ne (tgt := 614) dL_law_561 (Eq.refl 562) dL_law_562 (Eq.refl 565) (by decide) hz9 (by decide) ?_ ?_
              · refine xg_aload_n dL_law_565 (Eq.refl 566) rfl ?_
                refine xg_bipush dL_law_566 (Eq.refl 568) (by decide +kernel) ?_
                refine xg_iconst dL_law_568 (Eq.refl 569) ?_
                refine xg_iconst dL_law_569 (Eq.refl 570) ?_
                refine xg_callWC_J (kc := 14) (ks := 84) (st := []) (mL_blocks hl x1 h1 6 (by decide) 0 (by decide) 0 (by decide) M10 hM10) bL_blocks xq_508 rfl (by decide) (by decide) dL_law_570 (Eq.refl 573) rfl (by omega) (by omega) ?_
                intro z11 M12 hz11 hM12
                refine xg_ldc2 (z := (-2)) xq_4 dL_law_573 (Eq.refl 576) (by decide +kernel) ?_
                refine xg_lif_ne (tgt := 614) dL_law_576 (Eq.refl 577) dL_law_577 (Eq.refl 580) (by decide) hz11 (by decide) ?_ ?_
                · refine xg_aload_n dL_law_580 (Eq.refl 581) rfl ?_
                  refine xg_iconst dL_law_581 (Eq.refl 582) ?_
                  refine xg_iconst dL_law_582 (Eq.refl 583) ?_
                  refine xg_iconst dL_law_583 (Eq.refl 584) ?_
                  refine xg_iconst dL_law_584 (Eq.refl 585) ?_
                  refine xg_aload_n dL_law_585 (Eq.refl 586) rfl ?_
                  refine xg_callVC_I (kc := 14) (ks := 84) (st := [iv 1, iv 1, iv 0, iv 3, .ref x1]) (mX11_today hl x1 h1 M12 hM12) bX11_today xcl11 h1 rfl xq_270 rfl (by decide) (Nat.le_of_ble_eq_true rfl) dL_law_586 (Eq.refl 589) rfl (by omega) (by omega) ?_ ?_
                  · intro z13 M14 hz13 hM14
                    refine xg_callWC_I (kc := 6) (ks := 36) (st := []) (mL_announces hl x1 h1 3 (by decide) 0 (by decide) 1 (by decide) 1 (by decide) z13 hz13 M14 hM14) bL_announces xq_604 rfl (by decide) (by decide) dL_law_589 (Eq.refl 592) rfl (by omega) (by omega) ?_
                    intro z15 M16 hz15 hM16
                    refine xg_bipush dL_law_592 (Eq.refl 594) (by decide +kernel) ?_
                    refine xg_icmp_ne (tgt := 614) dL_law_594 (Eq.refl 597) (by decide) hz15 (by decide) ?_ ?_
                    · refine xg_aload_n dL_law_597 (Eq.refl 598) rfl ?_
                      refine xg_bipush dL_law_598 (Eq.refl 600) (by decide +kernel) ?_
                      refine xg_iconst dL_law_600 (Eq.refl 601) ?_
                      refine xg_iconst dL_law_601 (Eq.refl 602) ?_
                      refine xg_callWC_I (kc := 0) (ks := 0) (st := []) (mL_issues hl x1 h1 6 (by decide) 1 (by decide) 1 (by decide) M16 hM16) bL_issues xq_172 rfl (by decide) (by decide) dL_law_602 (Eq.refl 605) rfl (by omega) (by omega) ?_
                      intro z17 M18 hz17 hM18
                      refine xg_bipush dL_law_605 (Eq.refl 607) (by decide +kernel) ?_
                      refine xg_icmp_ne (tgt := 614) dL_law_607 (Eq.refl 610) (by decide) hz17 (by decide) ?_ ?_
                      · refine xg_iconst dL_law_610 (Eq.refl 611) ?_
                        refine xg_goto (tgt := 615) dL_law_611 (by decide) ?_
                        exact xg_zretL rfl dL_law_615 rfl (by decide)
                      · refine xg_iconst dL_law_614 (Eq.refl 615) ?_
                        exact xg_zretL rfl dL_law_615 rfl (by decide)
                    · refine xg_iconst dL_law_614 (Eq.refl 615) ?_
                      exact xg_zretL rfl dL_law_615 rfl (by decide)
                  · intro e M9 he hM9
                    exact xgx_none
                · refine xg_iconst dL_law_614 (Eq.refl 615) ?_
                  exact xg_zretL rfl dL_law_615 rfl (by decide)
              · refine xg_iconst dL_law_614 (Eq.refl 615) ?_
                exact xg_zretL rfl dL_law_615 rfl (by decide)
            · intro e M9 he hM9
              exact xgx_none
          · refine xg_iconst dL_law_614 (Eq.refl 615) ?_
            exact xg_zretL rfl dL_law_615 rfl (by decide)
        · refine xg_iconst dL_law_614 (Eq.refl 615) ?_
          exact xg_zretL rfl dL_law_615 rfl (by decide)
    · refine xg_aload_n dL_law_214 (Eq.refl 215) rfl ?_
      refine xg_bipush dL_law_215 (Eq.refl 217) (by decide +kernel) ?_
      refine xg_iconst dL_law_217 (Eq.refl 218) ?_
      refine xg_iload_n dL_law_218 (Eq.refl 219) rfl ?_
      refine xg_imul dL_law_219 (Eq.refl 220) ?_
      refine xg_iadd dL_law_220 (Eq.refl 221) ?_
      refine xg_callSC_I (kx9 := fun _ _ => none) (kc := ((n * 1044 + 367) + 1044)) (ks := ((n * 6480 + 2202) + 6480)) (st := []) (mL_cell (G := setN G N) hl sl sx hS hsl (w32 (8 + (w32 (2 * x3)))) (w32_r _) M hM) bL_cell xq_115 rfl (by decide) (by decide) dL_law_221 (Eq.refl 224) rfl (by omega) (by omega) ?_ xgx_nm
      intro z19 M20 hz19 hM20
      refine xg_istore (ls2 := [some (.ref xSCR), some (.ref x1), some (.ref x2), some (iv x3), some (iv z19), none, none, none, none, none, none, none]) dL_law_224 (Eq.refl 226) (show 4 < 12 by decide) rfl ?_
      refine xg_aload_n dL_law_226 (Eq.refl 227) rfl ?_
      refine xg_bipush dL_law_227 (Eq.refl 229) (by decide +kernel) ?_
      refine xg_iconst dL_law_229 (Eq.refl 230) ?_
      refine xg_iload_n dL_law_230 (Eq.refl 231) rfl ?_
      refine xg_imul dL_law_231 (Eq.refl 232) ?_
      refine xg_iadd dL_law_232 (Eq.refl 233) ?_
      refine xg_callSC_I (kx9 := fun _ _ => none) (kc := ((n * 1044 + 367) + 1044)) (ks := ((n * 6480 + 2202) + 6480)) (st := []) (mL_cell (G := setN G N) hl sl sx hS hsl (w32 (9 + (w32 (2 * x3)))) (w32_r _) M20 hM20) bL_cell xq_115 rfl (by decide) (by decide) dL_law_233 (Eq.refl 236) rfl (by omega) (by omega) ?_ xgx_nm
      intro z21 M22 hz21 hM22
      refine xg_istore (ls2 := [some (.ref xSCR), some (.ref x1), some (.ref x2), some (iv x3), some (iv z19), some (iv z21), none, none, none, none, none, none]) dL_law_236 (Eq.refl 238) (show 5 < 12 by decide) rfl ?_
      refine xg_aload_n dL_law_238 (Eq.refl 239) rfl ?_
      refine xg_aload_n dL_law_239 (Eq.refl 240) rfl ?_
      refine xg_tell (N := N) (kc := ((n * 1044 + 367) + 879)) (ks := ((n * 6480 + 2202) + 5436)) (st := []) hN hl x1 h1 x2 h2 hM22 xq_198 (by decide) dL_law_240 (Eq.refl 243) rfl (by omega) (by omega) (xol_s (Or.inr rfl) (xol_s (Or.inl (Nat.lt_of_lt_of_le (xOb.lt h1 (by decide)) hN)) (xol_s (Or.inl (Nat.lt_of_lt_of_le (h2).lt hN)) (xol_s trivial (xol_s trivial (xol_s trivial (xol_n (xol_n (xol_n (xol_n (xol_n (xol_n xol_nil)))))))))))) xok_nil ?_
      intro M24 hM24
      refine xg_astore (ls2 := [some (.ref xSCR), some (.ref x1), some (.ref x2), some (iv x3), some (iv z19), some (iv z21), some (.ref N), none, none, none, none, none]) dL_law_243 (Eq.refl 245) (show 6 < 12 by decide) rfl ?_
      refine xg_iload dL_law_245 (Eq.refl 247) rfl ?_
      refine xg_iconst dL_law_247 (Eq.refl 248) ?_
      refine xg_ishr dL_law_248 (Eq.refl 249) ?_
      refine xg_bipush dL_law_249 (Eq.refl 251) (by decide +kernel) ?_
      refine xg_callSC_I (kx9 := fun _ _ => none) (kc := ((n * 1044 + 367) + 879)) (ks := ((n * 6480 + 2202) + 5436)) (st := []) (mL_low hl (xshr z19 3) (xshr_r _ _) 14 (by decide) M24 hM24) bL_low xq_120 rfl (by decide) (by decide) dL_law_251 (Eq.refl 254) rfl (by omega) (by omega) ?_ xgx_nm
      intro z25 M26 hz25 hM26
      refine xg_istore (ls2 := [some (.ref xSCR), some (.ref x1), some (.ref x2), some (iv x3), some (iv z19), some (iv z21), some (.ref N), some (iv z25), none, none, none, none]) dL_law_254 (Eq.refl 256) (show 7 < 12 by decide) rfl ?_
      refine xg_iload dL_law_256 (Eq.refl 258) rfl ?_
      refine xg_bipush dL_law_258 (Eq.refl 260) (by decide +kernel) ?_
      refine xg_icmp_ne (tgt := 296) dL_law_260 (Eq.refl 263) (by decide) hz25 (by decide) ?_ ?_
      · refine xg_iload dL_law_263 (Eq.refl 265) rfl ?_
        refine xg_iconst dL_law_265 (Eq.refl 266) ?_
        refine xg_callSC_I (kx9 := fun _ _ => none) (kc := ((n * 1044 + 367) + 879)) (ks := ((n * 6480 + 2202) + 5436)) (st := []) (mL_low hl z21 hz21 2 (by decide) M26 hM26) bL_low xq_120 rfl (by decide) (by decide) dL_law_266 (Eq.refl 269) rfl (by omega) (by omega) ?_ xgx_nm
        intro z27 M28 hz27 hM28
        refine xg_if_ne (tgt := 284) dL_law_269 (Eq.refl 272) (by decide) hz27 ?_ ?_
        · refine xg_aload_n dL_law_272 (Eq.refl 273) rfl ?_
          refine xg_iconst dL_law_273 (Eq.refl 274) ?_
          refine xg_iconst dL_law_274 (Eq.refl 275) ?_
          refine xg_iconst dL_law_275 (Eq.refl 276) ?_
          refine xg_iconst dL_law_276 (Eq.refl 277) ?_
          refine xg_iconst dL_law_277 (Eq.refl 278) ?_
          refine xg_callWC_I (kc := ((n * 1044 + 367) + 873)) (ks := ((n * 6480 + 2202) + 5400)) (st := []) (mL_opens hl x1 h1 2 (by decide) 1 (by decide) 0 (by decide) 0 (by decide) 0 (by decide) M28 hM28) bL_opens xq_124 rfl (by decide) (by decide) dL_law_278 (Eq.refl 281) rfl (by omega) (by omega) ?_
          intro z29 M30 hz29 hM30
          refine xg_goto (tgt := 316) dL_law_281 (by decide) ?_
          exact xg_jump (gL_law_316 (N := (N + 1)) hl tab nm sl sx hS hsl ((n * 1044 + 367)) ((n * 6480 + 2202)) (fL_law_208 sl sx x1 x2 n) x1 h1 x2 h2 x3 h3 z19 hz19 N (xTa.new (G := G) hN) z25 hz25 z29 hz29 ih (Nat.le_succ_of_le hN) M30 hM30) (xsb_s (xsb_s (xsb_s (xsb_s (xsb_s (xsb_n (xsb_s (xsb_s (xsb_n (xsb_n (xsb_n (xsb_n xsb_0)))))))))))) (by omega) (by omega)
        · refine xg_aload_n dL_law_284 (Eq.refl 285) rfl ?_
          refine xg_iconst dL_law_285 (Eq.refl 286) ?_
          refine xg_iconst dL_law_286 (Eq.refl 287) ?_
          refine xg_iconst dL_law_287 (Eq.refl 288) ?_
          refine xg_iconst dL_law_288 (Eq.refl 289) ?_
          refine xg_iconst dL_law_289 (Eq.refl 290) ?_
          refine xg_callWC_I (kc := ((n * 1044 + 367) + 873)) (ks := ((n * 6480 + 2202) + 5400)) (st := []) (mL_opens hl x1 h1 (-1) (by decide) 1 (by decide) 3 (by decide) 0 (by decide) 0 (by decide) M28 hM28) bL_opens xq_124 rfl (by decide) (by decide) dL_law_290 (Eq.refl 293) rfl (by omega) (by omega) ?_
          intro z31 M32 hz31 hM32
          refine xg_goto (tgt := 316) dL_law_293 (by decide) ?_
          exact xg_jump (gL_law_316 (N := (N + 1)) hl tab nm sl sx hS hsl ((n * 1044 + 367)) ((n * 6480 + 2202)) (fL_law_208 sl sx x1 x2 n) x1 h1 x2 h2 x3 h3 z19 hz19 N (xTa.new (G := G) hN) z25 hz25 z31 hz31 ih (Nat.le_succ_of_le hN) M32 hM32) (xsb_s (xsb_s (xsb_s (xsb_s (xsb_s (xsb_n (xsb_s (xsb_s (xsb_n (xsb_n (xsb_n (xsb_n xsb_0)))))))))))) (by omega) (by omega)
      · refine xg_iload dL_law_296 (Eq.refl 298) rfl ?_
        refine xg_bipush dL_law_298 (Eq.refl 300) (by decide +kernel) ?_
        refine xg_icmp_ge (tgt := 315) dL_law_300 (Eq.refl 303) (by decide) hz25 (by decide) ?_ ?_
        · refine xg_iconst dL_law_315 (Eq.refl 316) ?_
          exact xg_jump (gL_law_316 (N := (N + 1)) hl tab nm sl sx hS hsl ((n * 1044 + 367)) ((n * 6480 + 2202)) (fL_law_208 sl sx x1 x2 n) x1 h1 x2 h2 x3 h3 z19 hz19 N (xTa.new (G := G) hN) z25 hz25 0 (by decide) ih (Nat.le_succ_of_le hN) M26 hM26) (xsb_s (xsb_s (xsb_s (xsb_s (xsb_s (xsb_n (xsb_s (xsb_s (xsb_n (xsb_n (xsb_n (xsb_n xsb_0)))))))))))) (by omega) (by omega)
        · refine xg_aload_n dL_law_303 (Eq.refl 304) rfl ?_
          refine xg_aload_n dL_law_304 (Eq.refl 305) rfl ?_
          refine xg_iload dL_law_305 (Eq.refl 307) rfl ?_
          refine xg_iload dL_law_307 (Eq.refl 309) rfl ?_
          refine xg_callSC_I (kx9 := fun _ _ => none) (kc := ((n * 1044 + 367) + 855)) (ks := ((n * 6480 + 2202) + 5292)) (st := []) (mL_act hl x1 h1 x2 h2 z21 hz21 z25 hz25 M26 hM26) bL_act xq_424 rfl (by decide) (by decide) dL_law_309 (Eq.refl 312) rfl (by omega) (by omega) ?_ xgx_nm
          intro z33 M34 hz33 hM34
          refine xg_goto (tgt := 316) dL_law_312 (by decide) ?_
          exact xg_jump (gL_law_316 (N := (N + 1)) hl tab nm sl sx hS hsl ((n * 1044 + 367)) ((n * 6480 + 2202)) (fL_law_208 sl sx x1 x2 n) x1 h1 x2 h2 x3 h3 z19 hz19 N (xTa.new (G := G) hN) z25 hz25 z33 hz33 ih (Nat.le_succ_of_le hN) M34 hM34) (xsb_s (xsb_s (xsb_s (xsb_s (xsb_s (xsb_n (xsb_s (xsb_s (xsb_n (xsb_n (xsb_n (xsb_n xsb_0)))))))))))) (by omega) (by omega)
theorem gL_law_181 {l : Launch} {G : xG} {N : Nat} (hl : l.stackTraces = false) (tab : List ExceptionTableEntry) (nm : String) (sl : Nat) (sx : Nat → Int32) (hS : G.2.2.2.1.2 = (sl, sx)) (hsl : sl ≤ 2147483647) (k s : Nat) (rc124 : Int → Nat → xM → xO) (x1 : Nat) (h1 : xOb 11 x1) (x2 : Nat) (h2 : xAn 0 5 x2) (x3 : Int) (h3 : R32 x3) (s0 : Int) (hs0 : B01 s0) (s1 : Int) (hs1 : R32 s1) (s2 : Int) (hs2 : B01 s2) (s3 : Nat) (hs3 : xAn 0 5 s3) (hr124 : ∀ w3 : Int, R32 w3 → ∀ N : Nat, 401 ≤ N → ∀ M : xM, xcan M → Gv l (setN G N) (uL_law tab nm) 22 5 k s 124 [some (.ref xSCR), some (.ref x1), some (.ref x2), some (iv w3), none, none, none, none, none, none, none, none] [] M (rc124 w3 N M)) (hN : 401 ≤ N) (M : xM) (hM : xcan M) : Gv l (setN G N) (uL_law tab nm) 22 5 (k + 0) (s + 0) 181 [some (.ref xSCR), some (.ref x1), some (.ref x2), some (iv x3), none, none, none, none, none, none, none, none] [iv s0, iv s1, iv s2, .ref s3] M (fL_law_181 sl sx rc124 x1 x2 x3 s0 s1 s2 s3 N M) := by
  unfold fL_law_181
  refine xg_iadd dL_law_181 (Eq.refl 182) ?_
  refine xg_iast hs3 dL_law_182 (Eq.refl 183) hM (w32_r _) ?_
  intro M1 hM1
  refine xg_iinc (ls2 := [some (.ref xSCR), some (.ref x1), some (.ref x2), some (iv (w32 (x3 + 1))), none, none, none, none, none, none, none, none]) dL_law_183 (Eq.refl 186) rfl (show 3 < 12 by decide) rfl ?_
  refine xg_goto (tgt := 124) dL_law_186 (by decide) ?_
  exact xg_jump (hr124 (w32 (x3 + 1)) (w32_r _) N hN M1 hM1) (xsb_s (xsb_s (xsb_s (xsb_s (xsb_n (xsb_n (xsb_n (xsb_n (xsb_n (xsb_n (xsb_n (xsb_n xsb_0)))))))))))) (by omega) (by omega)
theorem gL_law_124 {l : Launch} {G : xG} (hl : l.stackTraces = false) (tab : List ExceptionTableEntry) (nm : String) (sl : Nat) (sx : Nat → Int32) (hS : G.2.2.2.1.2 = (sl, sx)) (hsl : sl ≤ 2147483647) (x1 : Nat) (h1 : xOb 11 x1) (x2 : Nat) (h2 : xAn 0 5 x2) : ∀ (n : Nat) (x3 : Int) (_ : R32 x3) (N : Nat) (_ : 401 ≤ N) (M : xM) (_ : xcan M), Gv l (setN G N) (uL_law tab nm) 22 5 (n * 6 + 28555) (n * 36 + 177162) 124 [some (.ref xSCR), some (.ref x1), some (.ref x2), some (iv x3), none, none, none, none, none, none, none, none] [] M (fL_law_124 sl sx x1 x2 n x3 N M) := by
  intro n; induction n with
  | zero => intro x3 h3 N hN M hM; exact xg_none
  | succ n ih =>
    intro x3 h3 N hN M hM
    rw [fL_law_124]
    refine xg_room (kc' := ((n * 6 + 28555) + 6)) (ks' := ((n * 36 + 177162) + 36)) ?_ (by omega) (by omega)
    refine xg_iload_n dL_law_124 (Eq.refl 125) rfl ?_
    refine xg_iconst dL_law_125 (Eq.refl 126) ?_
    refine xg_icmp_ge (tgt := 189) dL_law_126 (Eq.refl 129) (by decide) h3 (by decide) ?_ ?_
    · refine xg_room (kc' := 28555) (ks' := 177162) ?_ (by omega) (by omega)
      refine xg_aload_n dL_law_189 (Eq.refl 190) rfl ?_
      refine xg_iconst dL_law_190 (Eq.refl 191) ?_
      refine xg_ialdk (k := 0) h2 dL_law_191 (Eq.refl 192) rfl (by decide) ?_
      refine xg_bipush dL_law_192 (Eq.refl 194) (by decide +kernel) ?_
      refine xg_icmp_ne (tgt := 204) dL_law_194 (Eq.refl 197) (by decide) (hM.ai h2) (by decide) ?_ ?_
      · refine xg_aload_n dL_law_197 (Eq.refl 198) rfl ?_
        refine xg_iconst dL_law_198 (Eq.refl 199) ?_
        refine xg_ialdk (k := 1) h2 dL_law_199 (Eq.refl 200) rfl (by decide) ?_
        refine xg_iconst dL_law_200 (Eq.refl 201) ?_
        refine xg_icmp_eq (tgt := 206) dL_law_201 (Eq.refl 204) (by decide) (hM.ai h2) (by decide) ?_ ?_
        · refine xg_iconst dL_law_206 (Eq.refl 207) ?_
          refine xg_istore_n (ls2 := [some (.ref xSCR), some (.ref x1), some (.ref x2), some (iv 0), none, none, none, none, none, none, none, none]) dL_law_207 (Eq.refl 208) (show 3 < 12 by decide) rfl ?_
          exact xg_jump (gL_law_208 hl tab nm sl sx hS hsl x1 h1 x2 h2 27 0 (by decide) N hN M hM) (xsb_s (xsb_s (xsb_s (xsb_s (xsb_n (xsb_n (xsb_n (xsb_n (xsb_n (xsb_n (xsb_n (xsb_n xsb_0)))))))))))) (by omega) (by omega)
        · refine xg_iconst dL_law_204 (Eq.refl 205) ?_
          exact xg_zretL rfl dL_law_205 rfl (by decide)
      · refine xg_iconst dL_law_204 (Eq.refl 205) ?_
        exact xg_zretL rfl dL_law_205 rfl (by decide)
    · refine xg_aload_n dL_law_129 (Eq.refl 130) rfl ?_
      refine xg_iconst dL_law_130 (Eq.refl 131) ?_
      refine xg_dup2 dL_law_131 (Eq.refl 132) rfl rfl ?_
      refine xg_ialdk (k := 1) h2 dL_law_132 (Eq.refl 133) rfl (by decide) ?_
      refine xg_aload_n dL_law_133 (Eq.refl 134) rfl ?_
      refine xg_iload_n dL_law_134 (Eq.refl 135) rfl ?_
      refine xg_bipush dL_law_135 (Eq.refl 137) (by decide +kernel) ?_
      refine xg_aload_n dL_law_137 (Eq.refl 138) rfl ?_
      refine xg_bipush dL_law_138 (Eq.refl 140) (by decide +kernel) ?_
      refine xg_iload_n dL_law_140 (Eq.refl 141) rfl ?_
      refine xg_iadd dL_law_141 (Eq.refl 142) ?_
      refine xg_callSC_I (kx9 := fun _ _ => none) (kc := ((n * 6 + 28555) + 6)) (ks := ((n * 36 + 177162) + 36)) (st := [iv 50, iv x3, .ref x1, iv (M x2 1), iv 1, .ref x2]) (mL_cell (G := setN G N) hl sl sx hS hsl (w32 (6 + x3)) (w32_r _) M hM) bL_cell xq_115 rfl (by decide) (Nat.le_of_ble_eq_true rfl) dL_law_142 (Eq.refl 145) rfl (by omega) (by omega) ?_ xgx_nm
      intro z1 M2 hz1 hM2
      refine xg_sipush dL_law_145 (Eq.refl 148) (by decide +kernel) ?_
      refine xg_callSC_I (kx9 := fun _ _ => none) (kc := ((n * 6 + 28555) + 6)) (ks := ((n * 36 + 177162) + 36)) (st := [iv 50, iv x3, .ref x1, iv (M x2 1), iv 1, .ref x2]) (mL_low hl z1 hz1 200 (by decide) M2 hM2) bL_low xq_120 rfl (by decide) (Nat.le_of_ble_eq_true rfl) dL_law_148 (Eq.refl 151) rfl (by omega) (by omega) ?_ xgx_nm
      intro z3 M4 hz3 hM4
      refine xg_iadd dL_law_151 (Eq.refl 152) ?_
      refine xg_iconst dL_law_152 (Eq.refl 153) ?_
      refine xg_aload_n dL_law_153 (Eq.refl 154) rfl ?_
      refine xg_bipush dL_law_154 (Eq.refl 156) (by decide +kernel) ?_
      refine xg_iload_n dL_law_156 (Eq.refl 157) rfl ?_
      refine xg_iadd dL_law_157 (Eq.refl 158) ?_
      refine xg_callSC_I (kx9 := fun _ _ => none) (kc := ((n * 6 + 28555) + 6)) (ks := ((n * 36 + 177162) + 36)) (st := [iv 1, iv (w32 (50 + z3)), iv x3, .ref x1, iv (M x2 1), iv 1, .ref x2]) (mL_cell (G := setN G N) hl sl sx hS hsl (w32 (6 + x3)) (w32_r _) M4 hM4) bL_cell xq_115 rfl (by decide) (Nat.le_of_ble_eq_true rfl) dL_law_158 (Eq.refl 161) rfl (by omega) (by omega) ?_ xgx_nm
      intro z5 M6 hz5 hM6
      refine xg_iconst dL_law_161 (Eq.refl 162) ?_
      refine xg_ishr dL_law_162 (Eq.refl 163) ?_
      refine xg_bipush dL_law_163 (Eq.refl 165) (by decide +kernel) ?_
      refine xg_callSC_I (kx9 := fun _ _ => none) (kc := ((n * 6 + 28555) + 6)) (ks := ((n * 36 + 177162) + 36)) (st := [iv 1, iv (w32 (50 + z3)), iv x3, .ref x1, iv (M x2 1), iv 1, .ref x2]) (mL_low hl (xshr z5 4) (xshr_r _ _) 20 (by decide) M6 hM6) bL_low xq_120 rfl (by decide) (Nat.le_of_ble_eq_true rfl) dL_law_165 (Eq.refl 168) rfl (by omega) (by omega) ?_ xgx_nm
      intro z7 M8 hz7 hM8
      refine xg_iadd dL_law_168 (Eq.refl 169) ?_
      refine xg_callWC_I (kc := ((n * 6 + 28555) + 0)) (ks := ((n * 36 + 177162) + 0)) (st := [iv (M x2 1), iv 1, .ref x2]) (mL_issues hl x1 h1 x3 h3 (w32 (50 + z3)) (w32_r _) (w32 (1 + z7)) (w32_r _) M8 hM8) bL_issues xq_172 rfl (by decide) (Nat.le_of_ble_eq_true rfl) dL_law_169 (Eq.refl 172) rfl (by omega) (by omega) ?_
      intro z9 M10 hz9 hM10
      refine xg_iload_n dL_law_172 (Eq.refl 173) rfl ?_
      refine xg_icmp_ne (tgt := 180) dL_law_173 (Eq.refl 176) (by decide) hz9 h3 ?_ ?_
      · refine xg_iconst dL_law_176 (Eq.refl 177) ?_
        refine xg_goto (tgt := 181) dL_law_177 (by decide) ?_
        exact xg_jump (gL_law_181 (N := N) hl tab nm sl sx hS hsl ((n * 6 + 28555)) ((n * 36 + 177162)) (fL_law_124 sl sx x1 x2 n) x1 h1 x2 h2 x3 h3 1 (by decide) (M x2 1) (hM.ai h2) 1 (by decide) x2 h2 ih hN M10 hM10) (xsb_s (xsb_s (xsb_s (xsb_s (xsb_n (xsb_n (xsb_n (xsb_n (xsb_n (xsb_n (xsb_n (xsb_n xsb_0)))))))))))) (by omega) (by omega)
      · refine xg_iconst dL_law_180 (Eq.refl 181) ?_
        exact xg_jump (gL_law_181 (N := N) hl tab nm sl sx hS hsl ((n * 6 + 28555)) ((n * 36 + 177162)) (fL_law_124 sl sx x1 x2 n) x1 h1 x2 h2 x3 h3 0 (by decide) (M x2 1) (hM.ai h2) 1 (by decide) x2 h2 ih hN M10 hM10) (xsb_s (xsb_s (xsb_s (xsb_s (xsb_n (xsb_n (xsb_n (xsb_n (xsb_n (xsb_n (xsb_n (xsb_n xsb_0)))))))))))) (by omega) (by omega)
theorem gL_law_116 {l : Launch} {G : xG} {N : Nat} (hl : l.stackTraces = false) (tab : List ExceptionTableEntry) (nm : String) (sl : Nat) (sx : Nat → Int32) (hS : G.2.2.2.1.2 = (sl, sx)) (hsl : sl ≤ 2147483647) (k s : Nat) (rc14 : Int → Nat → xM → xO) (x1 : Nat) (h1 : xOb 11 x1) (x2 : Nat) (h2 : xAn 0 5 x2) (x3 : Int) (h3 : R32 x3) (hr14 : ∀ w3 : Int, R32 w3 → ∀ N : Nat, 401 ≤ N → ∀ M : xM, xcan M → Gv l (setN G N) (uL_law tab nm) 22 5 k s 14 [some (.ref xSCR), some (.ref x1), some (.ref x2), some (iv w3), none, none, none, none, none, none, none, none] [] M (rc14 w3 N M)) (hN : 401 ≤ N) (M : xM) (hM : xcan M) : Gv l (setN G N) (uL_law tab nm) 22 5 (k + 0) (s + 0) 116 [some (.ref xSCR), some (.ref x1), some (.ref x2), some (iv x3), none, none, none, none, none, none, none, none] [] M (fL_law_116 sl sx rc14 x1 x2 x3 N M) := by
  unfold fL_law_116
  refine xg_iinc (ls2 := [some (.ref xSCR), some (.ref x1), some (.ref x2), some (iv (w32 (x3 + 1))), none, none, none, none, none, none, none, none]) dL_law_116 (Eq.refl 119) rfl (show 3 < 12 by decide) rfl ?_
  refine xg_goto (tgt := 14) dL_law_119 (by decide) ?_
  exact xg_jump (hr14 (w32 (x3 + 1)) (w32_r _) N hN M hM) (xsb_s (xsb_s (xsb_s (xsb_s (xsb_n (xsb_n (xsb_n (xsb_n (xsb_n (xsb_n (xsb_n (xsb_n xsb_0)))))))))))) (by omega) (by omega)
theorem gL_law_96 {l : Launch} {G : xG} {N : Nat} (hl : l.stackTraces = false) (tab : List ExceptionTableEntry) (nm : String) (sl : Nat) (sx : Nat → Int32) (hS : G.2.2.2.1.2 = (sl, sx)) (hsl : sl ≤ 2147483647) (k s : Nat) (rc14 : Int → Nat → xM → xO) (x1 : Nat) (h1 : xOb 11 x1) (x2 : Nat) (h2 : xAn 0 5 x2) (x3 : Int) (h3 : R32 x3) (x4 : Int) (h4 : R32 x4) (s0 : Int) (hs0 : B01 s0) (s1 : Int) (hs1 : R32 s1) (s2 : Int) (hs2 : B01 s2) (s3 : Nat) (hs3 : xAn 0 5 s3) (hr14 : ∀ w3 : Int, R32 w3 → ∀ N : Nat, 401 ≤ N → ∀ M : xM, xcan M → Gv l (setN G N) (uL_law tab nm) 22 5 k s 14 [some (.ref xSCR), some (.ref x1), some (.ref x2), some (iv w3), none, none, none, none, none, none, none, none] [] M (rc14 w3 N M)) (hN : 401 ≤ N) (M : xM) (hM : xcan M) : Gv l (setN G N) (uL_law tab nm) 22 5 (k + 1) (s + 6) 96 [some (.ref xSCR), some (.ref x1), some (.ref x2), some (iv x3), some (iv x4), none, none, none, none, none, none, none] [iv s0, iv s1, iv s2, .ref s3] M (fL_law_96 sl sx rc14 x1 x2 x3 x4 s0 s1 s2 s3 N M) := by
  unfold fL_law_96
  refine xg_iadd dL_law_96 (Eq.refl 97) ?_
  refine xg_iast hs3 dL_law_97 (Eq.refl 98) hM (w32_r _) ?_
  intro M1 hM1
  refine xg_iload dL_law_98 (Eq.refl 100) rfl ?_
  refine xg_bipush dL_law_100 (Eq.refl 102) (by decide +kernel) ?_
  refine xg_ishr dL_law_102 (Eq.refl 103) ?_
  refine xg_iconst dL_law_103 (Eq.refl 104) ?_
  refine xg_callSC_I (kx9 := fun _ _ => none) (kc := (k + 1)) (ks := (s + 6)) (st := []) (mL_low hl (xshr x4 8) (xshr_r _ _) 2 (by decide) M1 hM1) bL_low xq_120 rfl (by decide) (by decide) dL_law_104 (Eq.refl 107) rfl (by omega) (by omega) ?_ xgx_nm
  intro z2 M3 hz2 hM3
  refine xg_if_ne (tgt := 116) dL_law_107 (Eq.refl 110) (by decide) hz2 ?_ ?_
  · refine xg_aload_n dL_law_110 (Eq.refl 111) rfl ?_
    refine xg_iload_n dL_law_111 (Eq.refl 112) rfl ?_
    refine xg_callVC_Z (kc := (k + 0)) (ks := (s + 0)) (st := []) (mX11_lend hl x1 h1 x3 h3 M3 hM3) bX11_lend xcl11 h1 rfl xq_167 rfl (by decide) (by decide) dL_law_112 (Eq.refl 115) rfl (by omega) (by omega) ?_ ?_
    · intro z4 M5 hz4 hM5
      refine xg_pop dL_law_115 (Eq.refl 116) rfl ?_
      exact xg_jump (gL_law_116 (N := N) hl tab nm sl sx hS hsl (k) (s) rc14 x1 h1 x2 h2 x3 h3 hr14 hN M5 hM5) (xsb_s (xsb_s (xsb_s (xsb_s (xsb_n (xsb_n (xsb_n (xsb_n (xsb_n (xsb_n (xsb_n (xsb_n xsb_0)))))))))))) (by omega) (by omega)
    · intro e M9 he hM9
      exact xgx_none
  · exact xg_jump (gL_law_116 (N := N) hl tab nm sl sx hS hsl (k) (s) rc14 x1 h1 x2 h2 x3 h3 hr14 hN M3 hM3) (xsb_s (xsb_s (xsb_s (xsb_s (xsb_n (xsb_n (xsb_n (xsb_n (xsb_n (xsb_n (xsb_n (xsb_n xsb_0)))))))))))) (by omega) (by omega)
theorem gL_law_56 {l : Launch} {G : xG} {N : Nat} (hl : l.stackTraces = false) (tab : List ExceptionTableEntry) (nm : String) (sl : Nat) (sx : Nat → Int32) (hS : G.2.2.2.1.2 = (sl, sx)) (hsl : sl ≤ 2147483647) (k s : Nat) (rc14 : Int → Nat → xM → xO) (x1 : Nat) (h1 : xOb 11 x1) (x2 : Nat) (h2 : xAn 0 5 x2) (x3 : Int) (h3 : R32 x3) (x4 : Int) (h4 : R32 x4) (s0 : Int) (hs0 : B01 s0) (s1 : Int) (hs1 : R32 s1) (s2 : Nat) (hs2 : xOb 11 s2) (s3 : Int) (hs3 : R32 s3) (s4 : Int) (hs4 : B01 s4) (s5 : Nat) (hs5 : xAn 0 5 s5) (hr14 : ∀ w3 : Int, R32 w3 → ∀ N : Nat, 401 ≤ N → ∀ M : xM, xcan M → Gv l (setN G N) (uL_law tab nm) 22 5 k s 14 [some (.ref xSCR), some (.ref x1), some (.ref x2), some (iv w3), none, none, none, none, none, none, none, none] [] M (rc14 w3 N M)) (hN : 401 ≤ N) (M : xM) (hM : xcan M) : Gv l (setN G N) (uL_law tab nm) 22 5 (k + 7) (s + 42) 56 [some (.ref xSCR), some (.ref x1), some (.ref x2), some (iv x3), some (iv x4), none, none, none, none, none, none, none] [iv s0, iv s1, .ref s2, iv s3, iv s4, .ref s5] M (fL_law_56 sl sx rc14 x1 x2 x3 x4 s0 s1 s2 s3 s4 s5 N M) := by
  unfold fL_law_56
  refine xg_iload dL_law_56 (Eq.refl 58) rfl ?_
  refine xg_iconst dL_law_58 (Eq.refl 59) ?_
  refine xg_ishr dL_law_59 (Eq.refl 60) ?_
  refine xg_iconst dL_law_60 (Eq.refl 61) ?_
  refine xg_callSC_I (kx9 := fun _ _ => none) (kc := (k + 7)) (ks := (s + 42)) (st := [iv s0, iv s1, .ref s2, iv s3, iv s4, .ref s5]) (mL_low hl (xshr x4 1) (xshr_r _ _) 3 (by decide) M hM) bL_low xq_120 rfl (by decide) (Nat.le_of_ble_eq_true rfl) dL_law_61 (Eq.refl 64) rfl (by omega) (by omega) ?_ xgx_nm
  intro z1 M2 hz1 hM2
  refine xg_iload dL_law_64 (Eq.refl 66) rfl ?_
  refine xg_iconst dL_law_66 (Eq.refl 67) ?_
  refine xg_ishr dL_law_67 (Eq.refl 68) ?_
  refine xg_sipush dL_law_68 (Eq.refl 71) (by decide +kernel) ?_
  refine xg_callSC_I (kx9 := fun _ _ => none) (kc := (k + 7)) (ks := (s + 42)) (st := [iv z1, iv s0, iv s1, .ref s2, iv s3, iv s4, .ref s5]) (mL_low hl (xshr x4 3) (xshr_r _ _) 5000 (by decide) M2 hM2) bL_low xq_120 rfl (by decide) (Nat.le_of_ble_eq_true rfl) dL_law_71 (Eq.refl 74) rfl (by omega) (by omega) ?_ xgx_nm
  intro z3 M4 hz3 hM4
  refine xg_iload dL_law_74 (Eq.refl 76) rfl ?_
  refine xg_iconst dL_law_76 (Eq.refl 77) ?_
  refine xg_ishr dL_law_77 (Eq.refl 78) ?_
  refine xg_sipush dL_law_78 (Eq.refl 81) (by decide +kernel) ?_
  refine xg_callSC_I (kx9 := fun _ _ => none) (kc := (k + 7)) (ks := (s + 42)) (st := [iv z3, iv z1, iv s0, iv s1, .ref s2, iv s3, iv s4, .ref s5]) (mL_low hl (xshr x4 5) (xshr_r _ _) 800 (by decide) M4 hM4) bL_low xq_120 rfl (by decide) (Nat.le_of_ble_eq_true rfl) dL_law_81 (Eq.refl 84) rfl (by omega) (by omega) ?_ xgx_nm
  intro z5 M6 hz5 hM6
  refine xg_callWC_I (kc := (k + 1)) (ks := (s + 6)) (st := [iv s3, iv s4, .ref s5]) (mL_opens hl s2 hs2 s1 hs1 s0 hs0 z1 hz1 z3 hz3 z5 hz5 M6 hM6) bL_opens xq_124 rfl (by decide) (Nat.le_of_ble_eq_true rfl) dL_law_84 (Eq.refl 87) rfl (by omega) (by omega) ?_
  intro z7 M8 hz7 hM8
  refine xg_iload_n dL_law_87 (Eq.refl 88) rfl ?_
  refine xg_icmp_ne (tgt := 95) dL_law_88 (Eq.refl 91) (by decide) hz7 h3 ?_ ?_
  · refine xg_iconst dL_law_91 (Eq.refl 92) ?_
    refine xg_goto (tgt := 96) dL_law_92 (by decide) ?_
    exact xg_jump (gL_law_96 (N := N) hl tab nm sl sx hS hsl (k) (s) rc14 x1 h1 x2 h2 x3 h3 x4 h4 1 (by decide) s3 hs3 s4 hs4 s5 hs5 hr14 hN M8 hM8) (xsb_s (xsb_s (xsb_s (xsb_s (xsb_s (xsb_n (xsb_n (xsb_n (xsb_n (xsb_n (xsb_n (xsb_n xsb_0)))))))))))) (by omega) (by omega)
  · refine xg_iconst dL_law_95 (Eq.refl 96) ?_
    exact xg_jump (gL_law_96 (N := N) hl tab nm sl sx hS hsl (k) (s) rc14 x1 h1 x2 h2 x3 h3 x4 h4 0 (by decide) s3 hs3 s4 hs4 s5 hs5 hr14 hN M8 hM8) (xsb_s (xsb_s (xsb_s (xsb_s (xsb_s (xsb_n (xsb_n (xsb_n (xsb_n (xsb_n (xsb_n (xsb_n xsb_0)))))))))))) (by omega) (by omega)
theorem gL_law_42 {l : Launch} {G : xG} {N : Nat} (hl : l.stackTraces = false) (tab : List ExceptionTableEntry) (nm : String) (sl : Nat) (sx : Nat → Int32) (hS : G.2.2.2.1.2 = (sl, sx)) (hsl : sl ≤ 2147483647) (k s : Nat) (rc14 : Int → Nat → xM → xO) (x1 : Nat) (h1 : xOb 11 x1) (x2 : Nat) (h2 : xAn 0 5 x2) (x3 : Int) (h3 : R32 x3) (x4 : Int) (h4 : R32 x4) (s0 : Int) (hs0 : R32 s0) (s1 : Nat) (hs1 : xOb 11 s1) (s2 : Int) (hs2 : R32 s2) (s3 : Int) (hs3 : B01 s3) (s4 : Nat) (hs4 : xAn 0 5 s4) (hr14 : ∀ w3 : Int, R32 w3 → ∀ N : Nat, 401 ≤ N → ∀ M : xM, xcan M → Gv l (setN G N) (uL_law tab nm) 22 5 k s 14 [some (.ref xSCR), some (.ref x1), some (.ref x2), some (iv w3), none, none, none, none, none, none, none, none] [] M (rc14 w3 N M)) (hN : 401 ≤ N) (M : xM) (hM : xcan M) : Gv l (setN G N) (uL_law tab nm) 22 5 (k + 7) (s + 42) 42 [some (.ref xSCR), some (.ref x1), some (.ref x2), some (iv x3), some (iv x4), none, none, none, none, none, none, none] [iv s0, .ref s1, iv s2, iv s3, .ref s4] M (fL_law_42 sl sx rc14 x1 x2 x3 x4 s0 s1 s2 s3 s4 N M) := by
  unfold fL_law_42
  refine xg_iload dL_law_42 (Eq.refl 44) rfl ?_
  refine xg_iconst dL_law_44 (Eq.refl 45) ?_
  refine xg_callSC_I (kx9 := fun _ _ => none) (kc := (k + 7)) (ks := (s + 42)) (st := [iv s0, .ref s1, iv s2, iv s3, .ref s4]) (mL_low hl x4 h4 2 (by decide) M hM) bL_low xq_120 rfl (by decide) (Nat.le_of_ble_eq_true rfl) dL_law_45 (Eq.refl 48) rfl (by omega) (by omega) ?_ xgx_nm
  intro z1 M2 hz1 hM2
  refine xg_if_ne (tgt := 55) dL_law_48 (Eq.refl 51) (by decide) hz1 ?_ ?_
  · refine xg_iconst dL_law_51 (Eq.refl 52) ?_
    refine xg_goto (tgt := 56) dL_law_52 (by decide) ?_
    exact xg_jump (gL_law_56 (N := N) hl tab nm sl sx hS hsl (k) (s) rc14 x1 h1 x2 h2 x3 h3 x4 h4 1 (by decide) s0 hs0 s1 hs1 s2 hs2 s3 hs3 s4 hs4 hr14 hN M2 hM2) (xsb_s (xsb_s (xsb_s (xsb_s (xsb_s (xsb_n (xsb_n (xsb_n (xsb_n (xsb_n (xsb_n (xsb_n xsb_0)))))))))))) (by omega) (by omega)
  · refine xg_iconst dL_law_55 (Eq.refl 56) ?_
    exact xg_jump (gL_law_56 (N := N) hl tab nm sl sx hS hsl (k) (s) rc14 x1 h1 x2 h2 x3 h3 x4 h4 0 (by decide) s0 hs0 s1 hs1 s2 hs2 s3 hs3 s4 hs4 hr14 hN M2 hM2) (xsb_s (xsb_s (xsb_s (xsb_s (xsb_s (xsb_n (xsb_n (xsb_n (xsb_n (xsb_n (xsb_n (xsb_n xsb_0)))))))))))) (by omega) (by omega)
theorem gL_law_14 {l : Launch} {G : xG} (hl : l.stackTraces = false) (tab : List ExceptionTableEntry) (nm : String) (sl : Nat) (sx : Nat → Int32) (hS : G.2.2.2.1.2 = (sl, sx)) (hsl : sl ≤ 2147483647) (x1 : Nat) (h1 : xOb 11 x1) (x2 : Nat) (h2 : xAn 0 5 x2) : ∀ (n : Nat) (x3 : Int) (_ : R32 x3) (N : Nat) (_ : 401 ≤ N) (M : xM) (_ : xcan M), Gv l (setN G N) (uL_law tab nm) 22 5 (n * 7 + 28573) (n * 42 + 177270) 14 [some (.ref xSCR), some (.ref x1), some (.ref x2), some (iv x3), none, none, none, none, none, none, none, none] [] M (fL_law_14 sl sx x1 x2 n x3 N M) := by
  intro n; induction n with
  | zero => intro x3 h3 N hN M hM; exact xg_none
  | succ n ih =>
    intro x3 h3 N hN M hM
    rw [fL_law_14]
    refine xg_room (kc' := ((n * 7 + 28573) + 7)) (ks' := ((n * 42 + 177270) + 42)) ?_ (by omega) (by omega)
    refine xg_iload_n dL_law_14 (Eq.refl 15) rfl ?_
    refine xg_bipush dL_law_15 (Eq.refl 17) (by decide +kernel) ?_
    refine xg_icmp_ge (tgt := 122) dL_law_17 (Eq.refl 20) (by decide) h3 (by decide) ?_ ?_
    · refine xg_room (kc' := 28573) (ks' := 177270) ?_ (by omega) (by omega)
      refine xg_iconst dL_law_122 (Eq.refl 123) ?_
      refine xg_istore_n (ls2 := [some (.ref xSCR), some (.ref x1), some (.ref x2), some (iv 0), none, none, none, none, none, none, none, none]) dL_law_123 (Eq.refl 124) (show 3 < 12 by decide) rfl ?_
      exact xg_jump (gL_law_124 hl tab nm sl sx hS hsl x1 h1 x2 h2 3 0 (by decide) N hN M hM) (xsb_s (xsb_s (xsb_s (xsb_s (xsb_n (xsb_n (xsb_n (xsb_n (xsb_n (xsb_n (xsb_n (xsb_n xsb_0)))))))))))) (by omega) (by omega)
    · refine xg_aload_n dL_law_20 (Eq.refl 21) rfl ?_
      refine xg_iload_n dL_law_21 (Eq.refl 22) rfl ?_
      refine xg_callSC_I (kx9 := fun _ _ => none) (kc := ((n * 7 + 28573) + 7)) (ks := ((n * 42 + 177270) + 42)) (st := []) (mL_cell (G := setN G N) hl sl sx hS hsl x3 h3 M hM) bL_cell xq_115 rfl (by decide) (by decide) dL_law_22 (Eq.refl 25) rfl (by omega) (by omega) ?_ xgx_nm
      intro z1 M2 hz1 hM2
      refine xg_istore (ls2 := [some (.ref xSCR), some (.ref x1), some (.ref x2), some (iv x3), some (iv z1), none, none, none, none, none, none, none]) dL_law_25 (Eq.refl 27) (show 4 < 12 by decide) rfl ?_
      refine xg_aload_n dL_law_27 (Eq.refl 28) rfl ?_
      refine xg_iconst dL_law_28 (Eq.refl 29) ?_
      refine xg_dup2 dL_law_29 (Eq.refl 30) rfl rfl ?_
      refine xg_ialdk (k := 0) h2 dL_law_30 (Eq.refl 31) rfl (by decide) ?_
      refine xg_aload_n dL_law_31 (Eq.refl 32) rfl ?_
      refine xg_iload_n dL_law_32 (Eq.refl 33) rfl ?_
      refine xg_iconst dL_law_33 (Eq.refl 34) ?_
      refine xg_icmp_ne (tgt := 41) dL_law_34 (Eq.refl 37) (by decide) h3 (by decide) ?_ ?_
      · refine xg_iconst dL_law_37 (Eq.refl 38) ?_
        refine xg_goto (tgt := 42) dL_law_38 (by decide) ?_
        exact xg_jump (gL_law_42 (N := N) hl tab nm sl sx hS hsl ((n * 7 + 28573)) ((n * 42 + 177270)) (fL_law_14 sl sx x1 x2 n) x1 h1 x2 h2 x3 h3 z1 hz1 1 (by decide) x1 h1 (M2 x2 0) (hM2.ai h2) 0 (by decide) x2 h2 ih hN M2 hM2) (xsb_s (xsb_s (xsb_s (xsb_s (xsb_s (xsb_n (xsb_n (xsb_n (xsb_n (xsb_n (xsb_n (xsb_n xsb_0)))))))))))) (by omega) (by omega)
      · refine xg_iconst dL_law_41 (Eq.refl 42) ?_
        exact xg_jump (gL_law_42 (N := N) hl tab nm sl sx hS hsl ((n * 7 + 28573)) ((n * 42 + 177270)) (fL_law_14 sl sx x1 x2 n) x1 h1 x2 h2 x3 h3 z1 hz1 (-1) (by decide) x1 h1 (M2 x2 0) (hM2.ai h2) 0 (by decide) x2 h2 ih hN M2 hM2) (xsb_s (xsb_s (xsb_s (xsb_s (xsb_s (xsb_n (xsb_n (xsb_n (xsb_n (xsb_n (xsb_n (xsb_n xsb_0)))))))))))) (by omega) (by omega)
theorem gL_law {l : Launch} {G : xG} {N : Nat} (hl : l.stackTraces = false) (tab : List ExceptionTableEntry) (nm : String) (sl : Nat) (sx : Nat → Int32) (hS : G.2.2.2.1.2 = (sl, sx)) (hsl : sl ≤ 2147483647) (x1 : Nat) (h1 : xOb 11 x1) (x2 : Nat) (h2 : xAn 0 5 x2) (hN : 401 ≤ N) (M : xM) (hM : xcan M) : Gv l (setN G N) (uL_law tab nm) 22 5 28622 177564 12 [some (.ref xSCR), some (.ref x1), some (.ref x2), none, none, none, none, none, none, none, none, none] [] M (fL_law sl sx x1 x2 N M) := by
  unfold fL_law
  refine xg_iconst dL_law_12 (Eq.refl 13) ?_
  refine xg_istore_n (ls2 := [some (.ref xSCR), some (.ref x1), some (.ref x2), some (iv 0), none, none, none, none, none, none, none, none]) dL_law_13 (Eq.refl 14) (show 3 < 12 by decide) rfl ?_
  exact xg_jump (gL_law_14 hl tab nm sl sx hS hsl x1 h1 x2 h2 7 0 (by decide) N hN M hM) (xsb_s (xsb_s (xsb_s (xsb_s (xsb_n (xsb_n (xsb_n (xsb_n (xsb_n (xsb_n (xsb_n (xsb_n xsb_0)))))))))))) (by omega) (by omega)
