abbrev uX12_lends : xU := (RX12, cX12_lends, 7, none, [], "lends")
theorem bX12_lends : xYV yX12_lends cX12_lends 7 none 5 := ⟨xq_887, xq_888, xq_5, xq_889, ⟨by decide +kernel, by decide +kernel, by decide +kernel⟩, by decide⟩
theorem mX12_lends {l : Launch} {G : xG} (hl : l.stackTraces = false) (x0 : Nat) (h0 : xOb 12 x0) (x1 : Int) (h1 : R32 x1) (x2 : Int) (h2 : R32 x2) (x3 : Int) (h3 : R32 x3) (x4 : Int) (h4 : R32 x4) (x5 : Int) (h5 : R64 x5) (M : xM) (hM : xcan M) : Cm l G yX12_lends cX12_lends 7 none 1 3 0 0 [.ref x0, iv x1, iv x2, iv x3, iv x4, jv x5] M (fX12_lends x0 x1 x2 x3 x4 x5 M) := by
  refine xcm_of (u := uX12_lends) (ls := [some (.ref x0), some (iv x1), some (iv x2), some (iv x3), some (iv x4), some (jv x5), none]) 0 hl rfl (by decide +kernel) (Nat.le_of_ble_eq_true rfl) rfl ?_
  unfold fX12_lends
  refine xg_iload_n dX12_lends_0 (Eq.refl 1) rfl ?_
  refine xg_bipush dX12_lends_1 (Eq.refl 3) (by decide +kernel) ?_
  refine xg_icmp_ge (tgt := 154) dX12_lends_3 (Eq.refl 6) (by decide) h1 (by decide) ?_ ?_
  · exact xg_vret rfl dX12_lends_154 rfl hM
  · refine xg_aload_n dX12_lends_6 (Eq.refl 7) rfl ?_
    refine xg_getR (k := 0) xcl12 h0 rfl xq_122 rfl (xt_12_0 h0).1 dX12_lends_7 (Eq.refl 10) ?_
    refine xg_sipush dX12_lends_10 (Eq.refl 13) (by decide +kernel) ?_
    refine xg_iload_n dX12_lends_13 (Eq.refl 14) rfl ?_
    refine xg_iadd dX12_lends_14 (Eq.refl 15) ?_
    refine xg_iload_n dX12_lends_15 (Eq.refl 16) rfl ?_
    refine xg_i2l dX12_lends_16 (Eq.refl 17) h2 ?_
    refine xg_last (xt_12_0 h0).2 dX12_lends_17 (Eq.refl 18) hM (R32.j h2) ?_
    intro M1 hM1
    refine xg_aload_n dX12_lends_18 (Eq.refl 19) rfl ?_
    refine xg_getR (k := 0) xcl12 h0 rfl xq_122 rfl (xt_12_0 h0).1 dX12_lends_19 (Eq.refl 22) ?_
    refine xg_sipush dX12_lends_22 (Eq.refl 25) (by decide +kernel) ?_
    refine xg_iload_n dX12_lends_25 (Eq.refl 26) rfl ?_
    refine xg_iadd dX12_lends_26 (Eq.refl 27) ?_
    refine xg_iload_n dX12_lends_27 (Eq.refl 28) rfl ?_
    refine xg_i2l dX12_lends_28 (Eq.refl 29) h3 ?_
    refine xg_last (xt_12_0 h0).2 dX12_lends_29 (Eq.refl 30) hM1 (R32.j h3) ?_
    intro M2 hM2
    refine xg_aload_n dX12_lends_30 (Eq.refl 31) rfl ?_
    refine xg_getR (k := 0) xcl12 h0 rfl xq_122 rfl (xt_12_0 h0).1 dX12_lends_31 (Eq.refl 34) ?_
    refine xg_sipush dX12_lends_34 (Eq.refl 37) (by decide +kernel) ?_
    refine xg_iload_n dX12_lends_37 (Eq.refl 38) rfl ?_
    refine xg_iadd dX12_lends_38 (Eq.refl 39) ?_
    refine xg_iload dX12_lends_39 (Eq.refl 41) rfl ?_
    refine xg_i2l dX12_lends_41 (Eq.refl 42) h4 ?_
    refine xg_last (xt_12_0 h0).2 dX12_lends_42 (Eq.refl 43) hM2 (R32.j h4) ?_
    intro M3 hM3
    refine xg_aload_n dX12_lends_43 (Eq.refl 44) rfl ?_
    refine xg_getR (k := 0) xcl12 h0 rfl xq_122 rfl (xt_12_0 h0).1 dX12_lends_44 (Eq.refl 47) ?_
    refine xg_sipush dX12_lends_47 (Eq.refl 50) (by decide +kernel) ?_
    refine xg_iload_n dX12_lends_50 (Eq.refl 51) rfl ?_
    refine xg_iadd dX12_lends_51 (Eq.refl 52) ?_
    refine xg_lload dX12_lends_52 (Eq.refl 54) rfl ?_
    refine xg_last (xt_12_0 h0).2 dX12_lends_54 (Eq.refl 55) hM3 h5 ?_
    intro M4 hM4
    refine xg_aload_n dX12_lends_55 (Eq.refl 56) rfl ?_
    refine xg_getR (k := 0) xcl12 h0 rfl xq_122 rfl (xt_12_0 h0).1 dX12_lends_56 (Eq.refl 59) ?_
    refine xg_sipush dX12_lends_59 (Eq.refl 62) (by decide +kernel) ?_
    refine xg_iload_n dX12_lends_62 (Eq.refl 63) rfl ?_
    refine xg_iadd dX12_lends_63 (Eq.refl 64) ?_
    refine xg_lload dX12_lends_64 (Eq.refl 66) rfl ?_
    refine xg_aload_n dX12_lends_66 (Eq.refl 67) rfl ?_
    refine xg_getR (k := 0) xcl12 h0 rfl xq_122 rfl (xt_12_0 h0).1 dX12_lends_67 (Eq.refl 70) ?_
    refine xg_sipush dX12_lends_70 (Eq.refl 73) (by decide +kernel) ?_
    refine xg_iload dX12_lends_73 (Eq.refl 75) rfl ?_
    refine xg_iadd dX12_lends_75 (Eq.refl 76) ?_
    refine xg_lald (xt_12_0 h0).2 dX12_lends_76 (Eq.refl 77) ?_
    refine xg_lmul dX12_lends_77 (Eq.refl 78) ?_
    refine xg_last (xt_12_0 h0).2 dX12_lends_78 (Eq.refl 79) hM4 (w64_r _) ?_
    intro M5 hM5
    refine xg_aload_n dX12_lends_79 (Eq.refl 80) rfl ?_
    refine xg_getR (k := 0) xcl12 h0 rfl xq_122 rfl (xt_12_0 h0).1 dX12_lends_80 (Eq.refl 83) ?_
    refine xg_sipush dX12_lends_83 (Eq.refl 86) (by decide +kernel) ?_
    refine xg_iload_n dX12_lends_86 (Eq.refl 87) rfl ?_
    refine xg_iadd dX12_lends_87 (Eq.refl 88) ?_
    refine xg_lconst (z := 0) dX12_lends_88 (Eq.refl 89) rfl ?_
    refine xg_last (xt_12_0 h0).2 dX12_lends_89 (Eq.refl 90) hM5 (by decide) ?_
    intro M6 hM6
    refine xg_aload_n dX12_lends_90 (Eq.refl 91) rfl ?_
    refine xg_getR (k := 0) xcl12 h0 rfl xq_122 rfl (xt_12_0 h0).1 dX12_lends_91 (Eq.refl 94) ?_
    refine xg_bipush dX12_lends_94 (Eq.refl 96) (by decide +kernel) ?_
    refine xg_iconst dX12_lends_96 (Eq.refl 97) ?_
    refine xg_iload_n dX12_lends_97 (Eq.refl 98) rfl ?_
    refine xg_imul dX12_lends_98 (Eq.refl 99) ?_
    refine xg_iadd dX12_lends_99 (Eq.refl 100) ?_
    refine xg_iload dX12_lends_100 (Eq.refl 102) rfl ?_
    refine xg_iadd dX12_lends_102 (Eq.refl 103) ?_
    refine xg_dup2 dX12_lends_103 (Eq.refl 104) rfl rfl ?_
    refine xg_lald (xt_12_0 h0).2 dX12_lends_104 (Eq.refl 105) ?_
    refine xg_lload dX12_lends_105 (Eq.refl 107) rfl ?_
    refine xg_lsub dX12_lends_107 (Eq.refl 108) ?_
    refine xg_last (xt_12_0 h0).2 dX12_lends_108 (Eq.refl 109) hM6 (w64_r _) ?_
    intro M7 hM7
    refine xg_aload_n dX12_lends_109 (Eq.refl 110) rfl ?_
    refine xg_getR (k := 0) xcl12 h0 rfl xq_122 rfl (xt_12_0 h0).1 dX12_lends_110 (Eq.refl 113) ?_
    refine xg_bipush dX12_lends_113 (Eq.refl 115) (by decide +kernel) ?_
    refine xg_iconst dX12_lends_115 (Eq.refl 116) ?_
    refine xg_iload_n dX12_lends_116 (Eq.refl 117) rfl ?_
    refine xg_imul dX12_lends_117 (Eq.refl 118) ?_
    refine xg_iadd dX12_lends_118 (Eq.refl 119) ?_
    refine xg_iload dX12_lends_119 (Eq.refl 121) rfl ?_
    refine xg_iadd dX12_lends_121 (Eq.refl 122) ?_
    refine xg_dup2 dX12_lends_122 (Eq.refl 123) rfl rfl ?_
    refine xg_lald (xt_12_0 h0).2 dX12_lends_123 (Eq.refl 124) ?_
    refine xg_lload dX12_lends_124 (Eq.refl 126) rfl ?_
    refine xg_ladd dX12_lends_126 (Eq.refl 127) ?_
    refine xg_last (xt_12_0 h0).2 dX12_lends_127 (Eq.refl 128) hM7 (w64_r _) ?_
    intro M8 hM8
    refine xg_aload_n dX12_lends_128 (Eq.refl 129) rfl ?_
    refine xg_getR (k := 0) xcl12 h0 rfl xq_122 rfl (xt_12_0 h0).1 dX12_lends_129 (Eq.refl 132) ?_
    refine xg_bipush dX12_lends_132 (Eq.refl 134) (by decide +kernel) ?_
    refine xg_iload_n dX12_lends_134 (Eq.refl 135) rfl ?_
    refine xg_iadd dX12_lends_135 (Eq.refl 136) ?_
    refine xg_dup2 dX12_lends_136 (Eq.refl 137) rfl rfl ?_
    refine xg_lald (xt_12_0 h0).2 dX12_lends_137 (Eq.refl 138) ?_
    refine xg_lload dX12_lends_138 (Eq.refl 140) rfl ?_
    refine xg_aload_n dX12_lends_140 (Eq.refl 141) rfl ?_
    refine xg_getR (k := 0) xcl12 h0 rfl xq_122 rfl (xt_12_0 h0).1 dX12_lends_141 (Eq.refl 144) ?_
    refine xg_sipush dX12_lends_144 (Eq.refl 147) (by decide +kernel) ?_
    refine xg_iload dX12_lends_147 (Eq.refl 149) rfl ?_
    refine xg_iadd dX12_lends_149 (Eq.refl 150) ?_
    refine xg_lald (xt_12_0 h0).2 dX12_lends_150 (Eq.refl 151) ?_
    refine xg_lmul dX12_lends_151 (Eq.refl 152) ?_
    refine xg_ladd dX12_lends_152 (Eq.refl 153) ?_
    refine xg_last (xt_12_0 h0).2 dX12_lends_153 (Eq.refl 154) hM8 (w64_r _) ?_
    intro M9 hM9
    exact xg_vret rfl dX12_lends_154 rfl hM9
abbrev uX12_borrows : xU := (RX12, cX12_borrows, 12, (some .boolean), [], "borrows")
theorem bX12_borrows : xYV yX12_borrows cX12_borrows 12 (some .boolean) 1 := ⟨xq_879, xq_880, xq_5, xq_881, ⟨by decide +kernel, by decide +kernel, by decide +kernel⟩, by decide⟩
theorem gX12_borrows_351 {l : Launch} {G : xG} (hl : l.stackTraces = false) (x0 : Nat) (h0 : xOb 12 x0) (x2 : Int) (h2 : R32 x2) (x4 : Int) (h4 : R32 x4) (x8 : Int) (h8 : R32 x8) (x9 : Int) (h9 : B01 x9) : ∀ (n : Nat) (x10 : Int) (_ : R32 x10) (M : xM) (_ : xcan M), Gv l G uX12_borrows 4 1 0 0 351 [some (.ref x0), none, some (iv x2), none, some (iv x4), none, none, none, some (iv x8), some (iv x9), some (iv x10), none] [] M (fX12_borrows_351 x0 x2 x4 x8 x9 n x10 M) := by
  intro n; induction n with
  | zero => intro x10 h10 M hM; exact xg_none
  | succ n ih =>
    intro x10 h10 M hM
    rw [fX12_borrows_351]
    refine xg_iload dX12_borrows_351 (Eq.refl 353) rfl ?_
    refine xg_iload dX12_borrows_353 (Eq.refl 355) rfl ?_
    refine xg_icmp_ge (tgt := 404) dX12_borrows_355 (Eq.refl 358) (by decide) h10 h8 ?_ ?_
    · refine xg_iload dX12_borrows_404 (Eq.refl 406) rfl ?_
      exact xg_zret rfl dX12_borrows_406 rfl hM h9
    · refine xg_iload dX12_borrows_358 (Eq.refl 360) rfl ?_
      refine xg_bipush dX12_borrows_360 (Eq.refl 362) (by decide +kernel) ?_
      refine xg_icmp_ge (tgt := 404) dX12_borrows_362 (Eq.refl 365) (by decide) h10 (by decide) ?_ ?_
      · refine xg_iload dX12_borrows_404 (Eq.refl 406) rfl ?_
        exact xg_zret rfl dX12_borrows_406 rfl hM h9
      · refine xg_aload_n dX12_borrows_365 (Eq.refl 366) rfl ?_
        refine xg_iload dX12_borrows_366 (Eq.refl 368) rfl ?_
        refine xg_iload_n dX12_borrows_368 (Eq.refl 369) rfl ?_
        refine xg_aload_n dX12_borrows_369 (Eq.refl 370) rfl ?_
        refine xg_getR (k := 0) xcl12 h0 rfl xq_122 rfl (xt_12_0 h0).1 dX12_borrows_370 (Eq.refl 373) ?_
        refine xg_sipush dX12_borrows_373 (Eq.refl 376) (by decide +kernel) ?_
        refine xg_iload dX12_borrows_376 (Eq.refl 378) rfl ?_
        refine xg_iadd dX12_borrows_378 (Eq.refl 379) ?_
        refine xg_lald (xt_12_0 h0).2 dX12_borrows_379 (Eq.refl 380) ?_
        refine xg_l2i dX12_borrows_380 (Eq.refl 381) ?_
        refine xg_iload dX12_borrows_381 (Eq.refl 383) rfl ?_
        refine xg_aload_n dX12_borrows_383 (Eq.refl 384) rfl ?_
        refine xg_getR (k := 0) xcl12 h0 rfl xq_122 rfl (xt_12_0 h0).1 dX12_borrows_384 (Eq.refl 387) ?_
        refine xg_sipush dX12_borrows_387 (Eq.refl 390) (by decide +kernel) ?_
        refine xg_iload dX12_borrows_390 (Eq.refl 392) rfl ?_
        refine xg_iadd dX12_borrows_392 (Eq.refl 393) ?_
        refine xg_lald (xt_12_0 h0).2 dX12_borrows_393 (Eq.refl 394) ?_
        refine xg_lneg dX12_borrows_394 (Eq.refl 395) ?_
        refine xg_callV_N (kc := 0) (ks := 0) (st := []) (mX12_lends hl x0 h0 x10 h10 x2 h2 (w32 (M (xr x0 0) (w32 (950 + x10)).toNat)) (w32_r _) x4 h4 (w64 (-(M (xr x0 0) (w32 (990 + x10)).toNat))) (w64_r _) M hM) bX12_lends xcl12 h0 rfl xq_886 rfl (by decide) rfl (by decide) dX12_borrows_395 (Eq.refl 398) rfl (by decide) (by decide) ?_
        intro z1 M2 hz1 hM2
        refine xg_iinc (ls2 := [some (.ref x0), none, some (iv x2), none, some (iv x4), none, none, none, some (iv x8), some (iv x9), some (iv (w32 (x10 + 1))), none]) dX12_borrows_398 (Eq.refl 401) rfl (by decide) rfl ?_
        refine xg_goto (tgt := 351) dX12_borrows_401 (by decide) ?_
        exact xg_jump (ih (w32 (x10 + 1)) (w32_r _) M2 hM2) (xsb_s (xsb_n (xsb_s (xsb_n (xsb_s (xsb_n (xsb_n (xsb_n (xsb_s (xsb_s (xsb_s (xsb_n xsb_0)))))))))))) (by decide) (by decide)
theorem gX12_borrows_295 {l : Launch} {G : xG} (hl : l.stackTraces = false) (x0 : Nat) (h0 : xOb 12 x0) (x1 : Int) (h1 : R32 x1) (x2 : Int) (h2 : R32 x2) (x4 : Int) (h4 : R32 x4) (x7 : Int) (h7 : R32 x7) (x8 : Int) (h8 : R32 x8) (x9 : Int) (h9 : B01 x9) (M : xM) (hM : xcan M) : Gv l G uX12_borrows 4 1 0 0 295 [some (.ref x0), some (iv x1), some (iv x2), none, some (iv x4), none, none, some (iv x7), some (iv x8), some (iv x9), none, none] [] M (fX12_borrows_295 x0 x1 x2 x4 x7 x8 x9 M) := by
  unfold fX12_borrows_295
  refine xg_iload dX12_borrows_295 (Eq.refl 297) rfl ?_
  refine xg_if_eq (tgt := 320) dX12_borrows_297 (Eq.refl 300) (by decide) (B01.r h9) ?_ ?_
  · refine xg_aload_n dX12_borrows_320 (Eq.refl 321) rfl ?_
    refine xg_iload_n dX12_borrows_321 (Eq.refl 322) rfl ?_
    refine xg_aload_n dX12_borrows_322 (Eq.refl 323) rfl ?_
    refine xg_getR (k := 0) xcl12 h0 rfl xq_122 rfl (xt_12_0 h0).1 dX12_borrows_323 (Eq.refl 326) ?_
    refine xg_sipush dX12_borrows_326 (Eq.refl 329) (by decide +kernel) ?_
    refine xg_iload_n dX12_borrows_329 (Eq.refl 330) rfl ?_
    refine xg_iadd dX12_borrows_330 (Eq.refl 331) ?_
    refine xg_lald (xt_12_0 h0).2 dX12_borrows_331 (Eq.refl 332) ?_
    refine xg_lneg dX12_borrows_332 (Eq.refl 333) ?_
    refine xg_aload_n dX12_borrows_333 (Eq.refl 334) rfl ?_
    refine xg_getR (k := 0) xcl12 h0 rfl xq_122 rfl (xt_12_0 h0).1 dX12_borrows_334 (Eq.refl 337) ?_
    refine xg_sipush dX12_borrows_337 (Eq.refl 340) (by decide +kernel) ?_
    refine xg_iload_n dX12_borrows_340 (Eq.refl 341) rfl ?_
    refine xg_iadd dX12_borrows_341 (Eq.refl 342) ?_
    refine xg_lald (xt_12_0 h0).2 dX12_borrows_342 (Eq.refl 343) ?_
    refine xg_lneg dX12_borrows_343 (Eq.refl 344) ?_
    refine xg_callV_N (kc := 0) (ks := 0) (st := []) (mX12_move hl x0 h0 x1 h1 (w64 (-(M (xr x0 0) (w32 (770 + x1)).toNat))) (w64_r _) (w64 (-(M (xr x0 0) (w32 (790 + x1)).toNat))) (w64_r _) M hM) bX12_move xcl12 h0 rfl xq_874 rfl (by decide) rfl (by decide) dX12_borrows_344 (Eq.refl 347) rfl (by decide) (by decide) ?_
    intro z1 M2 hz1 hM2
    refine xg_iload dX12_borrows_347 (Eq.refl 349) rfl ?_
    refine xg_istore (ls2 := [some (.ref x0), some (iv x1), some (iv x2), none, some (iv x4), none, none, some (iv x7), some (iv x8), some (iv x9), some (iv x7), none]) dX12_borrows_349 (Eq.refl 351) (by decide) rfl ?_
    exact xg_jump (gX12_borrows_351 hl x0 h0 x2 h2 x4 h4 x8 h8 x9 h9 xN x7 h7 M2 hM2) (xsb_s (xsb_n (xsb_s (xsb_n (xsb_s (xsb_n (xsb_n (xsb_n (xsb_s (xsb_s (xsb_s (xsb_n xsb_0)))))))))))) (by decide) (by decide)
  · refine xg_aload_n dX12_borrows_300 (Eq.refl 301) rfl ?_
    refine xg_getR (k := 0) xcl12 h0 rfl xq_122 rfl (xt_12_0 h0).1 dX12_borrows_301 (Eq.refl 304) ?_
    refine xg_sipush dX12_borrows_304 (Eq.refl 307) (by decide +kernel) ?_
    refine xg_iload dX12_borrows_307 (Eq.refl 309) rfl ?_
    refine xg_i2l dX12_borrows_309 (Eq.refl 310) h8 ?_
    refine xg_lastk (k := 1545) (xt_12_0 h0).2 dX12_borrows_310 (Eq.refl 311) rfl (by decide) hM (R32.j h8) ?_
    intro M3 hM3
    refine xg_aload_n dX12_borrows_311 (Eq.refl 312) rfl ?_
    refine xg_iload_n dX12_borrows_312 (Eq.refl 313) rfl ?_
    refine xg_iconst dX12_borrows_313 (Eq.refl 314) ?_
    refine xg_callV_N (kc := 0) (ks := 0) (st := []) (mX12_over hl x0 h0 x1 h1 1 (by decide) M3 hM3) bX12_over xcl12 h0 rfl xq_566 rfl (by decide) rfl (by decide) dX12_borrows_314 (Eq.refl 317) rfl (by decide) (by decide) ?_
    intro z4 M5 hz4 hM5
    refine xg_goto (tgt := 404) dX12_borrows_317 (by decide) ?_
    refine xg_iload dX12_borrows_404 (Eq.refl 406) rfl ?_
    exact xg_zret rfl dX12_borrows_406 rfl hM5 h9
theorem gX12_borrows_254 {l : Launch} {G : xG} (hl : l.stackTraces = false) (x0 : Nat) (h0 : xOb 12 x0) (x1 : Int) (h1 : R32 x1) (x2 : Int) (h2 : R32 x2) (x4 : Int) (h4 : R32 x4) (x7 : Int) (h7 : R32 x7) (x8 : Int) (h8 : R32 x8) : ∀ (n : Nat) (x9 : Int) (_ : B01 x9) (x10 : Int) (_ : R32 x10) (M : xM) (_ : xcan M), Gv l G uX12_borrows 4 1 0 0 254 [some (.ref x0), some (iv x1), some (iv x2), none, some (iv x4), none, none, some (iv x7), some (iv x8), some (iv x9), some (iv x10), none] [] M (fX12_borrows_254 x0 x1 x2 x4 x7 x8 n x9 x10 M) := by
  intro n; induction n with
  | zero => intro x9 h9 x10 h10 M hM; exact xg_none
  | succ n ih =>
    intro x9 h9 x10 h10 M hM
    rw [fX12_borrows_254]
    refine xg_iload dX12_borrows_254 (Eq.refl 256) rfl ?_
    refine xg_iload dX12_borrows_256 (Eq.refl 258) rfl ?_
    refine xg_icmp_ge (tgt := 295) dX12_borrows_258 (Eq.refl 261) (by decide) h10 h8 ?_ ?_
    · exact xg_jump (gX12_borrows_295 hl x0 h0 x1 h1 x2 h2 x4 h4 x7 h7 x8 h8 x9 h9 M hM) (xsb_s (xsb_s (xsb_s (xsb_n (xsb_s (xsb_n (xsb_n (xsb_s (xsb_s (xsb_s (xsb_n (xsb_n xsb_0)))))))))))) (by decide) (by decide)
    · refine xg_iload dX12_borrows_261 (Eq.refl 263) rfl ?_
      refine xg_bipush dX12_borrows_263 (Eq.refl 265) (by decide +kernel) ?_
      refine xg_icmp_ge (tgt := 295) dX12_borrows_265 (Eq.refl 268) (by decide) h10 (by decide) ?_ ?_
      · exact xg_jump (gX12_borrows_295 hl x0 h0 x1 h1 x2 h2 x4 h4 x7 h7 x8 h8 x9 h9 M hM) (xsb_s (xsb_s (xsb_s (xsb_n (xsb_s (xsb_n (xsb_n (xsb_s (xsb_s (xsb_s (xsb_n (xsb_n xsb_0)))))))))))) (by decide) (by decide)
      · refine xg_iload dX12_borrows_268 (Eq.refl 270) rfl ?_
        refine xg_aload_n dX12_borrows_270 (Eq.refl 271) rfl ?_
        refine xg_aload_n dX12_borrows_271 (Eq.refl 272) rfl ?_
        refine xg_getR (k := 0) xcl12 h0 rfl xq_122 rfl (xt_12_0 h0).1 dX12_borrows_272 (Eq.refl 275) ?_
        refine xg_sipush dX12_borrows_275 (Eq.refl 278) (by decide +kernel) ?_
        refine xg_iload dX12_borrows_278 (Eq.refl 280) rfl ?_
        refine xg_iadd dX12_borrows_280 (Eq.refl 281) ?_
        refine xg_lald (xt_12_0 h0).2 dX12_borrows_281 (Eq.refl 282) ?_
        refine xg_l2i dX12_borrows_282 (Eq.refl 283) ?_
        refine xg_callV_Z (kc := 0) (ks := 0) (st := [iv x9]) (mX12_sound hl x0 h0 (w32 (M (xr x0 0) (w32 (950 + x10)).toNat)) (w32_r _) M hM) bX12_sound xcl12 h0 rfl xq_358 rfl (by decide) rfl (Nat.le_of_ble_eq_true rfl) dX12_borrows_283 (Eq.refl 286) rfl (by decide) (by decide) ?_
        intro z1 M2 hz1 hM2
        refine xg_iand dX12_borrows_286 (Eq.refl 287) ?_
        refine xg_istore (ls2 := [some (.ref x0), some (iv x1), some (iv x2), none, some (iv x4), none, none, some (iv x7), some (iv x8), some (iv (xand x9 z1)), some (iv x10), none]) dX12_borrows_287 (Eq.refl 289) (by decide) rfl ?_
        refine xg_iinc (ls2 := [some (.ref x0), some (iv x1), some (iv x2), none, some (iv x4), none, none, some (iv x7), some (iv x8), some (iv (xand x9 z1)), some (iv (w32 (x10 + 1))), none]) dX12_borrows_289 (Eq.refl 292) rfl (by decide) rfl ?_
        refine xg_goto (tgt := 254) dX12_borrows_292 (by decide) ?_
        exact xg_jump (ih (xand x9 z1) (xand_b h9 hz1) (w32 (x10 + 1)) (w32_r _) M2 hM2) (xsb_s (xsb_s (xsb_s (xsb_n (xsb_s (xsb_n (xsb_n (xsb_s (xsb_s (xsb_s (xsb_s (xsb_n xsb_0)))))))))))) (by decide) (by decide)
theorem gX12_borrows_248 {l : Launch} {G : xG} (hl : l.stackTraces = false) (x0 : Nat) (h0 : xOb 12 x0) (x1 : Int) (h1 : R32 x1) (x2 : Int) (h2 : R32 x2) (x4 : Int) (h4 : R32 x4) (x7 : Int) (h7 : R32 x7) (x8 : Int) (h8 : R32 x8) (s0 : Int) (hs0 : B01 s0) (M : xM) (hM : xcan M) : Gv l G uX12_borrows 4 1 0 0 248 [some (.ref x0), some (iv x1), some (iv x2), none, some (iv x4), none, none, some (iv x7), some (iv x8), none, none, none] [iv s0] M (fX12_borrows_248 x0 x1 x2 x4 x7 x8 s0 M) := by
  unfold fX12_borrows_248
  refine xg_istore (ls2 := [some (.ref x0), some (iv x1), some (iv x2), none, some (iv x4), none, none, some (iv x7), some (iv x8), some (iv s0), none, none]) dX12_borrows_248 (Eq.refl 250) (by decide) rfl ?_
  refine xg_iload dX12_borrows_250 (Eq.refl 252) rfl ?_
  refine xg_istore (ls2 := [some (.ref x0), some (iv x1), some (iv x2), none, some (iv x4), none, none, some (iv x7), some (iv x8), some (iv s0), some (iv x7), none]) dX12_borrows_252 (Eq.refl 254) (by decide) rfl ?_
  exact xg_jump (gX12_borrows_254 hl x0 h0 x1 h1 x2 h2 x4 h4 x7 h7 x8 h8 xN s0 hs0 x7 h7 M hM) (xsb_s (xsb_s (xsb_s (xsb_n (xsb_s (xsb_n (xsb_n (xsb_s (xsb_s (xsb_s (xsb_s (xsb_n xsb_0)))))))))))) (by decide) (by decide)
theorem gX12_borrows_247 {l : Launch} {G : xG} (hl : l.stackTraces = false) (x0 : Nat) (h0 : xOb 12 x0) (x1 : Int) (h1 : R32 x1) (x2 : Int) (h2 : R32 x2) (x4 : Int) (h4 : R32 x4) (x7 : Int) (h7 : R32 x7) (x8 : Int) (h8 : R32 x8) (M : xM) (hM : xcan M) : Gv l G uX12_borrows 4 1 0 0 247 [some (.ref x0), some (iv x1), some (iv x2), none, some (iv x4), none, none, some (iv x7), some (iv x8), none, none, none] [] M (fX12_borrows_247 x0 x1 x2 x4 x7 x8 M) := by
  unfold fX12_borrows_247
  refine xg_iconst dX12_borrows_247 (Eq.refl 248) ?_
  exact xg_jump (gX12_borrows_248 hl x0 h0 x1 h1 x2 h2 x4 h4 x7 h7 x8 h8 0 (by decide) M hM) (xsb_s (xsb_s (xsb_s (xsb_n (xsb_s (xsb_n (xsb_n (xsb_s (xsb_s (xsb_n (xsb_n (xsb_n xsb_0)))))))))))) (by decide) (by decide)
theorem gX12_borrows_188 {l : Launch} {G : xG} (hl : l.stackTraces = false) (x0 : Nat) (h0 : xOb 12 x0) (x1 : Int) (h1 : R32 x1) (x2 : Int) (h2 : R32 x2) (x3 : Int) (h3 : R32 x3) (x4 : Int) (h4 : R32 x4) (x5 : Int) (h5 : R64 x5) (x7 : Int) (h7 : R32 x7) (x8 : Int) (h8 : R32 x8) (M : xM) (hM : xcan M) : Gv l G uX12_borrows 4 1 0 0 188 [some (.ref x0), some (iv x1), some (iv x2), some (iv x3), some (iv x4), some (jv x5), none, some (iv x7), some (iv x8), none, none, none] [] M (fX12_borrows_188 x0 x1 x2 x3 x4 x5 x7 x8 M) := by
  unfold fX12_borrows_188
  refine xg_aload_n dX12_borrows_188 (Eq.refl 189) rfl ?_
  refine xg_iload_n dX12_borrows_189 (Eq.refl 190) rfl ?_
  refine xg_aload_n dX12_borrows_190 (Eq.refl 191) rfl ?_
  refine xg_getR (k := 0) xcl12 h0 rfl xq_122 rfl (xt_12_0 h0).1 dX12_borrows_191 (Eq.refl 194) ?_
  refine xg_sipush dX12_borrows_194 (Eq.refl 197) (by decide +kernel) ?_
  refine xg_iload_n dX12_borrows_197 (Eq.refl 198) rfl ?_
  refine xg_iadd dX12_borrows_198 (Eq.refl 199) ?_
  refine xg_lald (xt_12_0 h0).2 dX12_borrows_199 (Eq.refl 200) ?_
  refine xg_aload_n dX12_borrows_200 (Eq.refl 201) rfl ?_
  refine xg_getR (k := 0) xcl12 h0 rfl xq_122 rfl (xt_12_0 h0).1 dX12_borrows_201 (Eq.refl 204) ?_
  refine xg_sipush dX12_borrows_204 (Eq.refl 207) (by decide +kernel) ?_
  refine xg_iload_n dX12_borrows_207 (Eq.refl 208) rfl ?_
  refine xg_iadd dX12_borrows_208 (Eq.refl 209) ?_
  refine xg_lald (xt_12_0 h0).2 dX12_borrows_209 (Eq.refl 210) ?_
  refine xg_callV_N (kc := 0) (ks := 0) (st := []) (mX12_move hl x0 h0 x1 h1 (M (xr x0 0) (w32 (770 + x1)).toNat) (hM.aj (xt_12_0 h0).2) (M (xr x0 0) (w32 (790 + x1)).toNat) (hM.aj (xt_12_0 h0).2) M hM) bX12_move xcl12 h0 rfl xq_874 rfl (by decide) rfl (by decide) dX12_borrows_210 (Eq.refl 213) rfl (by decide) (by decide) ?_
  intro z1 M2 hz1 hM2
  refine xg_lload dX12_borrows_213 (Eq.refl 215) rfl ?_
  refine xg_lconst (z := 0) dX12_borrows_215 (Eq.refl 216) rfl ?_
  refine xg_lif_ne (tgt := 247) dX12_borrows_216 (Eq.refl 217) dX12_borrows_217 (Eq.refl 220) (by decide) h5 (by decide) ?_ ?_
  · refine xg_iload dX12_borrows_220 (Eq.refl 222) rfl ?_
    refine xg_bipush dX12_borrows_222 (Eq.refl 224) (by decide +kernel) ?_
    refine xg_icmp_gt (tgt := 247) dX12_borrows_224 (Eq.refl 227) (by decide) h8 (by decide) ?_ ?_
    · exact xg_jump (gX12_borrows_247 hl x0 h0 x1 h1 x2 h2 x4 h4 x7 h7 x8 h8 M2 hM2) (xsb_s (xsb_s (xsb_s (xsb_n (xsb_s (xsb_n (xsb_n (xsb_s (xsb_s (xsb_n (xsb_n (xsb_n xsb_0)))))))))))) (by decide) (by decide)
    · refine xg_aload_n dX12_borrows_227 (Eq.refl 228) rfl ?_
      refine xg_iload_n dX12_borrows_228 (Eq.refl 229) rfl ?_
      refine xg_callV_Z (kc := 0) (ks := 0) (st := []) (mX12_sound hl x0 h0 x2 h2 M2 hM2) bX12_sound xcl12 h0 rfl xq_358 rfl (by decide) rfl (by decide) dX12_borrows_229 (Eq.refl 232) rfl (by decide) (by decide) ?_
      intro z3 M4 hz3 hM4
      refine xg_if_eq (tgt := 247) dX12_borrows_232 (Eq.refl 235) (by decide) (B01.r hz3) ?_ ?_
      · exact xg_jump (gX12_borrows_247 hl x0 h0 x1 h1 x2 h2 x4 h4 x7 h7 x8 h8 M4 hM4) (xsb_s (xsb_s (xsb_s (xsb_n (xsb_s (xsb_n (xsb_n (xsb_s (xsb_s (xsb_n (xsb_n (xsb_n xsb_0)))))))))))) (by decide) (by decide)
      · refine xg_aload_n dX12_borrows_235 (Eq.refl 236) rfl ?_
        refine xg_iload_n dX12_borrows_236 (Eq.refl 237) rfl ?_
        refine xg_callV_Z (kc := 0) (ks := 0) (st := []) (mX12_sound hl x0 h0 x3 h3 M4 hM4) bX12_sound xcl12 h0 rfl xq_358 rfl (by decide) rfl (by decide) dX12_borrows_237 (Eq.refl 240) rfl (by decide) (by decide) ?_
        intro z5 M6 hz5 hM6
        refine xg_if_eq (tgt := 247) dX12_borrows_240 (Eq.refl 243) (by decide) (B01.r hz5) ?_ ?_
        · exact xg_jump (gX12_borrows_247 hl x0 h0 x1 h1 x2 h2 x4 h4 x7 h7 x8 h8 M6 hM6) (xsb_s (xsb_s (xsb_s (xsb_n (xsb_s (xsb_n (xsb_n (xsb_s (xsb_s (xsb_n (xsb_n (xsb_n xsb_0)))))))))))) (by decide) (by decide)
        · refine xg_iconst dX12_borrows_243 (Eq.refl 244) ?_
          refine xg_goto (tgt := 248) dX12_borrows_244 (by decide) ?_
          exact xg_jump (gX12_borrows_248 hl x0 h0 x1 h1 x2 h2 x4 h4 x7 h7 x8 h8 1 (by decide) M6 hM6) (xsb_s (xsb_s (xsb_s (xsb_n (xsb_s (xsb_n (xsb_n (xsb_s (xsb_s (xsb_n (xsb_n (xsb_n xsb_0)))))))))))) (by decide) (by decide)
  · exact xg_jump (gX12_borrows_247 hl x0 h0 x1 h1 x2 h2 x4 h4 x7 h7 x8 h8 M2 hM2) (xsb_s (xsb_s (xsb_s (xsb_n (xsb_s (xsb_n (xsb_n (xsb_s (xsb_s (xsb_n (xsb_n (xsb_n xsb_0)))))))))))) (by decide) (by decide)
theorem gX12_borrows_182 {l : Launch} {G : xG} (hl : l.stackTraces = false) (rc74 : Int → Int → Int → xM → xO) (x0 : Nat) (h0 : xOb 12 x0) (x1 : Int) (h1 : R32 x1) (x2 : Int) (h2 : R32 x2) (x3 : Int) (h3 : R32 x3) (x4 : Int) (h4 : R32 x4) (x5 : Int) (h5 : R64 x5) (x7 : Int) (h7 : R32 x7) (x8 : Int) (h8 : R32 x8) (x9 : Int) (h9 : R32 x9) (hr74 : ∀ w5 : Int, R64 w5 → ∀ w8 : Int, R32 w8 → ∀ w9 : Int, R32 w9 → ∀ M : xM, xcan M → Gv l G uX12_borrows 4 1 0 0 74 [some (.ref x0), some (iv x1), some (iv x2), some (iv x3), some (iv x4), some (jv w5), none, some (iv x7), some (iv w8), some (iv w9), none, none] [] M (rc74 w5 w8 w9 M)) (M : xM) (hM : xcan M) : Gv l G uX12_borrows 4 1 0 0 182 [some (.ref x0), some (iv x1), some (iv x2), some (iv x3), some (iv x4), some (jv x5), none, some (iv x7), some (iv x8), some (iv x9), none, none] [] M (fX12_borrows_182 rc74 x0 x1 x2 x3 x4 x5 x7 x8 x9 M) := by
  unfold fX12_borrows_182
  refine xg_iinc (ls2 := [some (.ref x0), some (iv x1), some (iv x2), some (iv x3), some (iv x4), some (jv x5), none, some (iv x7), some (iv x8), some (iv (w32 (x9 + 1))), none, none]) dX12_borrows_182 (Eq.refl 185) rfl (by decide) rfl ?_
  refine xg_goto (tgt := 74) dX12_borrows_185 (by decide) ?_
  exact xg_jump (hr74 x5 h5 x8 h8 (w32 (x9 + 1)) (w32_r _) M hM) (xsb_s (xsb_s (xsb_s (xsb_s (xsb_s (xsb_s (xsb_n (xsb_s (xsb_s (xsb_s (xsb_n (xsb_n xsb_0)))))))))))) (by decide) (by decide)
theorem gX12_borrows_123 {l : Launch} {G : xG} (hl : l.stackTraces = false) (rc74 : Int → Int → Int → xM → xO) (x0 : Nat) (h0 : xOb 12 x0) (x1 : Int) (h1 : R32 x1) (x2 : Int) (h2 : R32 x2) (x3 : Int) (h3 : R32 x3) (x4 : Int) (h4 : R32 x4) (x5 : Int) (h5 : R64 x5) (x7 : Int) (h7 : R32 x7) (x8 : Int) (h8 : R32 x8) (x9 : Int) (h9 : R32 x9) (s0 : Int) (hs0 : R64 s0) (hr74 : ∀ w5 : Int, R64 w5 → ∀ w8 : Int, R32 w8 → ∀ w9 : Int, R32 w9 → ∀ M : xM, xcan M → Gv l G uX12_borrows 4 1 0 0 74 [some (.ref x0), some (iv x1), some (iv x2), some (iv x3), some (iv x4), some (jv w5), none, some (iv x7), some (iv w8), some (iv w9), none, none] [] M (rc74 w5 w8 w9 M)) (M : xM) (hM : xcan M) : Gv l G uX12_borrows 4 1 0 0 123 [some (.ref x0), some (iv x1), some (iv x2), some (iv x3), some (iv x4), some (jv x5), none, some (iv x7), some (iv x8), some (iv x9), none, none] [jv s0] M (fX12_borrows_123 rc74 x0 x1 x2 x3 x4 x5 x7 x8 x9 s0 M) := by
  unfold fX12_borrows_123
  refine xg_lstore (ls2 := [some (.ref x0), some (iv x1), some (iv x2), some (iv x3), some (iv x4), some (jv x5), none, some (iv x7), some (iv x8), some (iv x9), some (jv s0), none]) dX12_borrows_123 (Eq.refl 125) (by decide) rfl ?_
  refine xg_aload_n dX12_borrows_125 (Eq.refl 126) rfl ?_
  refine xg_getR (k := 0) xcl12 h0 rfl xq_122 rfl (xt_12_0 h0).1 dX12_borrows_126 (Eq.refl 129) ?_
  refine xg_bipush dX12_borrows_129 (Eq.refl 131) (by decide +kernel) ?_
  refine xg_iload dX12_borrows_131 (Eq.refl 133) rfl ?_
  refine xg_iadd dX12_borrows_133 (Eq.refl 134) ?_
  refine xg_lald (xt_12_0 h0).2 dX12_borrows_134 (Eq.refl 135) ?_
  refine xg_lconst (z := 1) dX12_borrows_135 (Eq.refl 136) rfl ?_
  refine xg_lif_ne (tgt := 182) dX12_borrows_136 (Eq.refl 137) dX12_borrows_137 (Eq.refl 140) (by decide) (hM.aj (xt_12_0 h0).2) (by decide) ?_ ?_
  · refine xg_iload dX12_borrows_140 (Eq.refl 142) rfl ?_
    refine xg_iload_n dX12_borrows_142 (Eq.refl 143) rfl ?_
    refine xg_icmp_eq (tgt := 182) dX12_borrows_143 (Eq.refl 146) (by decide) h9 h2 ?_ ?_
    · exact xg_jump (gX12_borrows_182 hl rc74 x0 h0 x1 h1 x2 h2 x3 h3 x4 h4 x5 h5 x7 h7 x8 h8 x9 h9 hr74 M hM) (xsb_s (xsb_s (xsb_s (xsb_s (xsb_s (xsb_s (xsb_n (xsb_s (xsb_s (xsb_s (xsb_n (xsb_n xsb_0)))))))))))) (by decide) (by decide)
    · refine xg_iload dX12_borrows_146 (Eq.refl 148) rfl ?_
      refine xg_iload_n dX12_borrows_148 (Eq.refl 149) rfl ?_
      refine xg_icmp_eq (tgt := 182) dX12_borrows_149 (Eq.refl 152) (by decide) h9 h3 ?_ ?_
      · exact xg_jump (gX12_borrows_182 hl rc74 x0 h0 x1 h1 x2 h2 x3 h3 x4 h4 x5 h5 x7 h7 x8 h8 x9 h9 hr74 M hM) (xsb_s (xsb_s (xsb_s (xsb_s (xsb_s (xsb_s (xsb_n (xsb_s (xsb_s (xsb_s (xsb_n (xsb_n xsb_0)))))))))))) (by decide) (by decide)
      · refine xg_lload dX12_borrows_152 (Eq.refl 154) rfl ?_
        refine xg_lconst (z := 0) dX12_borrows_154 (Eq.refl 155) rfl ?_
        refine xg_lif_le (tgt := 182) dX12_borrows_155 (Eq.refl 156) dX12_borrows_156 (Eq.refl 159) (by decide) hs0 (by decide) ?_ ?_
        · exact xg_jump (gX12_borrows_182 hl rc74 x0 h0 x1 h1 x2 h2 x3 h3 x4 h4 x5 h5 x7 h7 x8 h8 x9 h9 hr74 M hM) (xsb_s (xsb_s (xsb_s (xsb_s (xsb_s (xsb_s (xsb_n (xsb_s (xsb_s (xsb_s (xsb_n (xsb_n xsb_0)))))))))))) (by decide) (by decide)
        · refine xg_aload_n dX12_borrows_159 (Eq.refl 160) rfl ?_
          refine xg_iload dX12_borrows_160 (Eq.refl 162) rfl ?_
          refine xg_iload_n dX12_borrows_162 (Eq.refl 163) rfl ?_
          refine xg_iload dX12_borrows_163 (Eq.refl 165) rfl ?_
          refine xg_iload dX12_borrows_165 (Eq.refl 167) rfl ?_
          refine xg_lload dX12_borrows_167 (Eq.refl 169) rfl ?_
          refine xg_callV_N (kc := 0) (ks := 0) (st := []) (mX12_lends hl x0 h0 x8 h8 x2 h2 x9 h9 x4 h4 s0 hs0 M hM) bX12_lends xcl12 h0 rfl xq_886 rfl (by decide) rfl (by decide) dX12_borrows_169 (Eq.refl 172) rfl (by decide) (by decide) ?_
          intro z1 M2 hz1 hM2
          refine xg_lload dX12_borrows_172 (Eq.refl 174) rfl ?_
          refine xg_lload dX12_borrows_174 (Eq.refl 176) rfl ?_
          refine xg_lsub dX12_borrows_176 (Eq.refl 177) ?_
          refine xg_lstoreL (P := R64) (ls2 := fun y3 => [some (.ref x0), some (iv x1), some (iv x2), some (iv x3), some (iv x4), some (jv y3), none, some (iv x7), some (iv x8), some (iv x9), some (jv s0), none]) dX12_borrows_177 (Eq.refl 179) (by decide) (w64_r _) (fun _ => rfl) ?_
          intro y3 hy3
          refine xg_iinc (ls2 := [some (.ref x0), some (iv x1), some (iv x2), some (iv x3), some (iv x4), some (jv y3), none, some (iv x7), some (iv (w32 (x8 + 1))), some (iv x9), some (jv s0), none]) dX12_borrows_179 (Eq.refl 182) rfl (by decide) rfl ?_
          exact xg_jump (gX12_borrows_182 hl rc74 x0 h0 x1 h1 x2 h2 x3 h3 x4 h4 y3 hy3 x7 h7 (w32 (x8 + 1)) (w32_r _) x9 h9 hr74 M2 hM2) (xsb_s (xsb_s (xsb_s (xsb_s (xsb_s (xsb_s (xsb_n (xsb_s (xsb_s (xsb_s (xsb_n (xsb_n xsb_0)))))))))))) (by decide) (by decide)
  · exact xg_jump (gX12_borrows_182 hl rc74 x0 h0 x1 h1 x2 h2 x3 h3 x4 h4 x5 h5 x7 h7 x8 h8 x9 h9 hr74 M hM) (xsb_s (xsb_s (xsb_s (xsb_s (xsb_s (xsb_s (xsb_n (xsb_s (xsb_s (xsb_s (xsb_n (xsb_n xsb_0)))))))))))) (by decide) (by decide)
theorem gX12_borrows_74 {l : Launch} {G : xG} (hl : l.stackTraces = false) (x0 : Nat) (h0 : xOb 12 x0) (x1 : Int) (h1 : R32 x1) (x2 : Int) (h2 : R32 x2) (x3 : Int) (h3 : R32 x3) (x4 : Int) (h4 : R32 x4) (x7 : Int) (h7 : R32 x7) : ∀ (n : Nat) (x5 : Int) (_ : R64 x5) (x8 : Int) (_ : R32 x8) (x9 : Int) (_ : R32 x9) (M : xM) (_ : xcan M), Gv l G uX12_borrows 4 1 0 0 74 [some (.ref x0), some (iv x1), some (iv x2), some (iv x3), some (iv x4), some (jv x5), none, some (iv x7), some (iv x8), some (iv x9), none, none] [] M (fX12_borrows_74 x0 x1 x2 x3 x4 x7 n x5 x8 x9 M) := by
  intro n; induction n with
  | zero => intro x5 h5 x8 h8 x9 h9 M hM; exact xg_none
  | succ n ih =>
    intro x5 h5 x8 h8 x9 h9 M hM
    rw [fX12_borrows_74]
    refine xg_iload dX12_borrows_74 (Eq.refl 76) rfl ?_
    refine xg_i2l dX12_borrows_76 (Eq.refl 77) h9 ?_
    refine xg_aload_n dX12_borrows_77 (Eq.refl 78) rfl ?_
    refine xg_getR (k := 0) xcl12 h0 rfl xq_122 rfl (xt_12_0 h0).1 dX12_borrows_78 (Eq.refl 81) ?_
    refine xg_sipush dX12_borrows_81 (Eq.refl 84) (by decide +kernel) ?_
    refine xg_laldk (k := 1540) (xt_12_0 h0).2 dX12_borrows_84 (Eq.refl 85) rfl (by decide) ?_
    refine xg_lif_ge (tgt := 188) dX12_borrows_85 (Eq.refl 86) dX12_borrows_86 (Eq.refl 89) (by decide) (R32.j h9) (hM.aj (xt_12_0 h0).2) ?_ ?_
    · exact xg_jump (gX12_borrows_188 hl x0 h0 x1 h1 x2 h2 x3 h3 x4 h4 x5 h5 x7 h7 x8 h8 M hM) (xsb_s (xsb_s (xsb_s (xsb_s (xsb_s (xsb_s (xsb_n (xsb_s (xsb_s (xsb_n (xsb_n (xsb_n xsb_0)))))))))))) (by decide) (by decide)
    · refine xg_lload dX12_borrows_89 (Eq.refl 91) rfl ?_
      refine xg_lconst (z := 0) dX12_borrows_91 (Eq.refl 92) rfl ?_
      refine xg_lif_le (tgt := 188) dX12_borrows_92 (Eq.refl 93) dX12_borrows_93 (Eq.refl 96) (by decide) h5 (by decide) ?_ ?_
      · exact xg_jump (gX12_borrows_188 hl x0 h0 x1 h1 x2 h2 x3 h3 x4 h4 x5 h5 x7 h7 x8 h8 M hM) (xsb_s (xsb_s (xsb_s (xsb_s (xsb_s (xsb_s (xsb_n (xsb_s (xsb_s (xsb_n (xsb_n (xsb_n xsb_0)))))))))))) (by decide) (by decide)
      · refine xg_aload_n dX12_borrows_96 (Eq.refl 97) rfl ?_
        refine xg_iload dX12_borrows_97 (Eq.refl 99) rfl ?_
        refine xg_iload dX12_borrows_99 (Eq.refl 101) rfl ?_
        refine xg_callV_J (kc := 0) (ks := 0) (st := []) (mX12_freeOf hl x0 h0 x9 h9 x4 h4 M hM) bX12_freeOf xcl12 h0 rfl xq_370 rfl (by decide) rfl (by decide) dX12_borrows_101 (Eq.refl 104) rfl (by decide) (by decide) ?_
        intro z1 M2 hz1 hM2
        refine xg_lload dX12_borrows_104 (Eq.refl 106) rfl ?_
        refine xg_lif_ge (tgt := 121) dX12_borrows_106 (Eq.refl 107) dX12_borrows_107 (Eq.refl 110) (by decide) hz1 h5 ?_ ?_
        · refine xg_lload dX12_borrows_121 (Eq.refl 123) rfl ?_
          exact xg_jump (gX12_borrows_123 hl (fX12_borrows_74 x0 x1 x2 x3 x4 x7 n) x0 h0 x1 h1 x2 h2 x3 h3 x4 h4 x5 h5 x7 h7 x8 h8 x9 h9 x5 h5 ih M2 hM2) (xsb_s (xsb_s (xsb_s (xsb_s (xsb_s (xsb_s (xsb_n (xsb_s (xsb_s (xsb_s (xsb_n (xsb_n xsb_0)))))))))))) (by decide) (by decide)
        · refine xg_aload_n dX12_borrows_110 (Eq.refl 111) rfl ?_
          refine xg_iload dX12_borrows_111 (Eq.refl 113) rfl ?_
          refine xg_iload dX12_borrows_113 (Eq.refl 115) rfl ?_
          refine xg_callV_J (kc := 0) (ks := 0) (st := []) (mX12_freeOf hl x0 h0 x9 h9 x4 h4 M2 hM2) bX12_freeOf xcl12 h0 rfl xq_370 rfl (by decide) rfl (by decide) dX12_borrows_115 (Eq.refl 118) rfl (by decide) (by decide) ?_
          intro z3 M4 hz3 hM4
          refine xg_goto (tgt := 123) dX12_borrows_118 (by decide) ?_
          exact xg_jump (gX12_borrows_123 hl (fX12_borrows_74 x0 x1 x2 x3 x4 x7 n) x0 h0 x1 h1 x2 h2 x3 h3 x4 h4 x5 h5 x7 h7 x8 h8 x9 h9 z3 hz3 ih M4 hM4) (xsb_s (xsb_s (xsb_s (xsb_s (xsb_s (xsb_s (xsb_n (xsb_s (xsb_s (xsb_s (xsb_n (xsb_n xsb_0)))))))))))) (by decide) (by decide)
theorem mX12_borrows {l : Launch} {G : xG} (hl : l.stackTraces = false) (x0 : Nat) (h0 : xOb 12 x0) (x1 : Int) (h1 : R32 x1) (M : xM) (hM : xcan M) : Cm l G yX12_borrows cX12_borrows 12 (some .boolean) 4 1 0 0 [.ref x0, iv x1] M (fX12_borrows x0 x1 M) := by
  refine xcm_of (u := uX12_borrows) (ls := [some (.ref x0), some (iv x1), none, none, none, none, none, none, none, none, none, none]) 10 hl rfl (by decide +kernel) (Nat.le_of_ble_eq_true rfl) rfl ?_
  unfold fX12_borrows
  refine xg_aload_n dX12_borrows_0 (Eq.refl 1) rfl ?_
  refine xg_iload_n dX12_borrows_1 (Eq.refl 2) rfl ?_
  refine xg_callV_I (kc := 0) (ks := 0) (st := []) (mX12_deliverer hl x0 h0 x1 h1 M hM) bX12_deliverer xcl12 h0 rfl xq_493 rfl (by decide) rfl (by decide) dX12_borrows_2 (Eq.refl 5) rfl (by decide) (by decide) ?_
  intro z1 M2 hz1 hM2
  refine xg_istore_n (ls2 := [some (.ref x0), some (iv x1), some (iv z1), none, none, none, none, none, none, none, none, none]) dX12_borrows_5 (Eq.refl 6) (by decide) rfl ?_
  refine xg_aload_n dX12_borrows_6 (Eq.refl 7) rfl ?_
  refine xg_iload_n dX12_borrows_7 (Eq.refl 8) rfl ?_
  refine xg_callV_I (kc := 0) (ks := 0) (st := []) (mX12_receiver hl x0 h0 x1 h1 M2 hM2) bX12_receiver xcl12 h0 rfl xq_497 rfl (by decide) rfl (by decide) dX12_borrows_8 (Eq.refl 11) rfl (by decide) (by decide) ?_
  intro z3 M4 hz3 hM4
  refine xg_istore_n (ls2 := [some (.ref x0), some (iv x1), some (iv z1), some (iv z3), none, none, none, none, none, none, none, none]) dX12_borrows_11 (Eq.refl 12) (by decide) rfl ?_
  refine xg_aload_n dX12_borrows_12 (Eq.refl 13) rfl ?_
  refine xg_iload_n dX12_borrows_13 (Eq.refl 14) rfl ?_
  refine xg_callV_I (kc := 0) (ks := 0) (st := []) (mX12_paper hl x0 h0 x1 h1 M4 hM4) bX12_paper xcl12 h0 rfl xq_842 rfl (by decide) rfl (by decide) dX12_borrows_14 (Eq.refl 17) rfl (by decide) (by decide) ?_
  intro z5 M6 hz5 hM6
  refine xg_istore (ls2 := [some (.ref x0), some (iv x1), some (iv z1), some (iv z3), some (iv z5), none, none, none, none, none, none, none]) dX12_borrows_17 (Eq.refl 19) (by decide) rfl ?_
  refine xg_aload_n dX12_borrows_19 (Eq.refl 20) rfl ?_
  refine xg_getR (k := 0) xcl12 h0 rfl xq_122 rfl (xt_12_0 h0).1 dX12_borrows_20 (Eq.refl 23) ?_
  refine xg_sipush dX12_borrows_23 (Eq.refl 26) (by decide +kernel) ?_
  refine xg_iload_n dX12_borrows_26 (Eq.refl 27) rfl ?_
  refine xg_iadd dX12_borrows_27 (Eq.refl 28) ?_
  refine xg_lald (xt_12_0 h0).2 dX12_borrows_28 (Eq.refl 29) ?_
  refine xg_aload_n dX12_borrows_29 (Eq.refl 30) rfl ?_
  refine xg_iload_n dX12_borrows_30 (Eq.refl 31) rfl ?_
  refine xg_iload dX12_borrows_31 (Eq.refl 33) rfl ?_
  refine xg_callV_J (kc := 0) (ks := 0) (st := [jv (M6 (xr x0 0) (w32 (770 + x1)).toNat)]) (mX12_freeOf hl x0 h0 z1 hz1 z5 hz5 M6 hM6) bX12_freeOf xcl12 h0 rfl xq_370 rfl (by decide) rfl (Nat.le_of_ble_eq_true rfl) dX12_borrows_33 (Eq.refl 36) rfl (by decide) (by decide) ?_
  intro z7 M8 hz7 hM8
  refine xg_lsub dX12_borrows_36 (Eq.refl 37) ?_
  refine xg_lstoreL (P := R64) (ls2 := fun y9 => [some (.ref x0), some (iv x1), some (iv z1), some (iv z3), some (iv z5), some (jv y9), none, none, none, none, none, none]) dX12_borrows_37 (Eq.refl 39) (by decide) (w64_r _) (fun _ => rfl) ?_
  intro y9 hy9
  refine xg_aload_n dX12_borrows_39 (Eq.refl 40) rfl ?_
  refine xg_getR (k := 0) xcl12 h0 rfl xq_122 rfl (xt_12_0 h0).1 dX12_borrows_40 (Eq.refl 43) ?_
  refine xg_sipush dX12_borrows_43 (Eq.refl 46) (by decide +kernel) ?_
  refine xg_laldk (k := 1545) (xt_12_0 h0).2 dX12_borrows_46 (Eq.refl 47) rfl (by decide) ?_
  refine xg_l2i dX12_borrows_47 (Eq.refl 48) ?_
  refine xg_istoreL (P := R32) (ls2 := fun y10 => [some (.ref x0), some (iv x1), some (iv z1), some (iv z3), some (iv z5), some (jv y9), none, some (iv y10), none, none, none, none]) dX12_borrows_48 (Eq.refl 50) (by decide) (w32_r _) (fun _ => rfl) ?_
  intro y10 hy10
  refine xg_iload dX12_borrows_50 (Eq.refl 52) rfl ?_
  refine xg_istore (ls2 := [some (.ref x0), some (iv x1), some (iv z1), some (iv z3), some (iv z5), some (jv y9), none, some (iv y10), some (iv y10), none, none, none]) dX12_borrows_52 (Eq.refl 54) (by decide) rfl ?_
  refine xg_lload dX12_borrows_54 (Eq.refl 56) rfl ?_
  refine xg_lconst (z := 0) dX12_borrows_56 (Eq.refl 57) rfl ?_
  refine xg_lif_le (tgt := 69) dX12_borrows_57 (Eq.refl 58) dX12_borrows_58 (Eq.refl 61) (by decide) hy9 (by decide) ?_ ?_
  · refine xg_iconst dX12_borrows_69 (Eq.refl 70) ?_
    exact xg_zret rfl dX12_borrows_70 rfl hM8 (by decide)
  · refine xg_aload_n dX12_borrows_61 (Eq.refl 62) rfl ?_
    refine xg_iload_n dX12_borrows_62 (Eq.refl 63) rfl ?_
    refine xg_callV_Z (kc := 0) (ks := 0) (st := []) (mX12_linked hl x0 h0 x1 h1 M8 hM8) bX12_linked xcl12 h0 rfl xq_882 rfl (by decide) rfl (by decide) dX12_borrows_63 (Eq.refl 66) rfl (by decide) (by decide) ?_
    intro z11 M12 hz11 hM12
    refine xg_if_eq (tgt := 71) dX12_borrows_66 (Eq.refl 69) (by decide) (B01.r hz11) ?_ ?_
    · refine xg_iconst dX12_borrows_71 (Eq.refl 72) ?_
      refine xg_istore (ls2 := [some (.ref x0), some (iv x1), some (iv z1), some (iv z3), some (iv z5), some (jv y9), none, some (iv y10), some (iv y10), some (iv 0), none, none]) dX12_borrows_72 (Eq.refl 74) (by decide) rfl ?_
      exact xg_jump (gX12_borrows_74 hl x0 h0 x1 h1 z1 hz1 z3 hz3 z5 hz5 y10 hy10 xN y9 hy9 y10 hy10 0 (by decide) M12 hM12) (xsb_s (xsb_s (xsb_s (xsb_s (xsb_s (xsb_s (xsb_n (xsb_s (xsb_s (xsb_s (xsb_n (xsb_n xsb_0)))))))))))) (by decide) (by decide)
    · refine xg_iconst dX12_borrows_69 (Eq.refl 70) ?_
      exact xg_zret rfl dX12_borrows_70 rfl hM12 (by decide)
abbrev uX12_part : xU := (RX12, cX12_part, 6, none, [], "part")
theorem bX12_part : xYV yX12_part cX12_part 6 none 1 := ⟨xq_891, xq_892, xq_5, xq_893, ⟨by decide +kernel, by decide +kernel, by decide +kernel⟩, by decide⟩
theorem gX12_part_140 {l : Launch} {G : xG} (hl : l.stackTraces = false) (x0 : Nat) (h0 : xOb 12 x0) (x1 : Int) (h1 : R32 x1) (x2 : Int) (h2 : R64 x2) (x4 : Int) (h4 : R64 x4) (M : xM) (hM : xcan M) : Gv l G uX12_part 4 3 0 0 140 [some (.ref x0), some (iv x1), some (jv x2), none, some (jv x4), none] [] M (fX12_part_140 x0 x1 x2 x4 M) := by
  unfold fX12_part_140
  refine xg_aload_n dX12_part_140 (Eq.refl 141) rfl ?_
  refine xg_iload_n dX12_part_141 (Eq.refl 142) rfl ?_
  refine xg_lload_n dX12_part_142 (Eq.refl 143) rfl ?_
  refine xg_lneg dX12_part_143 (Eq.refl 144) ?_
  refine xg_lload dX12_part_144 (Eq.refl 146) rfl ?_
  refine xg_lneg dX12_part_146 (Eq.refl 147) ?_
  refine xg_callV_N (kc := 0) (ks := 0) (st := []) (mX12_move hl x0 h0 x1 h1 (w64 (-x2)) (w64_r _) (w64 (-x4)) (w64_r _) M hM) bX12_move xcl12 h0 rfl xq_874 rfl (by decide) rfl (by decide) dX12_part_147 (Eq.refl 150) rfl (by decide) (by decide) ?_
  intro z1 M2 hz1 hM2
  exact xg_vret rfl dX12_part_150 rfl hM2
theorem mX12_part {l : Launch} {G : xG} (hl : l.stackTraces = false) (x0 : Nat) (h0 : xOb 12 x0) (x1 : Int) (h1 : R32 x1) (M : xM) (hM : xcan M) : Cm l G yX12_part cX12_part 6 none 4 3 0 0 [.ref x0, iv x1] M (fX12_part x0 x1 M) := by
  refine xcm_of (u := uX12_part) (ls := [some (.ref x0), some (iv x1), none, none, none, none]) 4 hl rfl (by decide +kernel) (Nat.le_of_ble_eq_true rfl) rfl ?_
  unfold fX12_part
  refine xg_aload_n dX12_part_0 (Eq.refl 1) rfl ?_
  refine xg_aload_n dX12_part_1 (Eq.refl 2) rfl ?_
  refine xg_iload_n dX12_part_2 (Eq.refl 3) rfl ?_
  refine xg_callV_I (kc := 0) (ks := 0) (st := [.ref x0]) (mX12_deliverer hl x0 h0 x1 h1 M hM) bX12_deliverer xcl12 h0 rfl xq_493 rfl (by decide) rfl (Nat.le_of_ble_eq_true rfl) dX12_part_3 (Eq.refl 6) rfl (by decide) (by decide) ?_
  intro z1 M2 hz1 hM2
  refine xg_aload_n dX12_part_6 (Eq.refl 7) rfl ?_
  refine xg_iload_n dX12_part_7 (Eq.refl 8) rfl ?_
  refine xg_callV_I (kc := 0) (ks := 0) (st := [iv z1, .ref x0]) (mX12_paper hl x0 h0 x1 h1 M2 hM2) bX12_paper xcl12 h0 rfl xq_842 rfl (by decide) rfl (Nat.le_of_ble_eq_true rfl) dX12_part_8 (Eq.refl 11) rfl (by decide) (by decide) ?_
  intro z3 M4 hz3 hM4
  refine xg_callV_J (kc := 0) (ks := 0) (st := []) (mX12_freeOf hl x0 h0 z1 hz1 z3 hz3 M4 hM4) bX12_freeOf xcl12 h0 rfl xq_370 rfl (by decide) rfl (by decide) dX12_part_11 (Eq.refl 14) rfl (by decide) (by decide) ?_
  intro z5 M6 hz5 hM6
  refine xg_lstore_n (ls2 := [some (.ref x0), some (iv x1), some (jv z5), none, none, none]) dX12_part_14 (Eq.refl 15) (by decide) rfl ?_
  refine xg_lload_n dX12_part_15 (Eq.refl 16) rfl ?_
  refine xg_aload_n dX12_part_16 (Eq.refl 17) rfl ?_
  refine xg_getR (k := 0) xcl12 h0 rfl xq_122 rfl (xt_12_0 h0).1 dX12_part_17 (Eq.refl 20) ?_
  refine xg_sipush dX12_part_20 (Eq.refl 23) (by decide +kernel) ?_
  refine xg_iload_n dX12_part_23 (Eq.refl 24) rfl ?_
  refine xg_iadd dX12_part_24 (Eq.refl 25) ?_
  refine xg_lald (xt_12_0 h0).2 dX12_part_25 (Eq.refl 26) ?_
  refine xg_lif_ge (tgt := 45) dX12_part_26 (Eq.refl 27) dX12_part_27 (Eq.refl 30) (by decide) hz5 (hM6.aj (xt_12_0 h0).2) ?_ ?_
  · exact xg_vret rfl dX12_part_45 rfl hM6
  · refine xg_lload_n dX12_part_30 (Eq.refl 31) rfl ?_
    refine xg_aload_n dX12_part_31 (Eq.refl 32) rfl ?_
    refine xg_getR (k := 0) xcl12 h0 rfl xq_122 rfl (xt_12_0 h0).1 dX12_part_32 (Eq.refl 35) ?_
    refine xg_sipush dX12_part_35 (Eq.refl 38) (by decide +kernel) ?_
    refine xg_iload_n dX12_part_38 (Eq.refl 39) rfl ?_
    refine xg_iadd dX12_part_39 (Eq.refl 40) ?_
    refine xg_lald (xt_12_0 h0).2 dX12_part_40 (Eq.refl 41) ?_
    refine xg_lif_ge (tgt := 46) dX12_part_41 (Eq.refl 42) dX12_part_42 (Eq.refl 45) (by decide) hz5 (hM6.aj (xt_12_0 h0).2) ?_ ?_
    · refine xg_aload_n dX12_part_46 (Eq.refl 47) rfl ?_
      refine xg_getR (k := 0) xcl12 h0 rfl xq_122 rfl (xt_12_0 h0).1 dX12_part_47 (Eq.refl 50) ?_
      refine xg_sipush dX12_part_50 (Eq.refl 53) (by decide +kernel) ?_
      refine xg_iload_n dX12_part_53 (Eq.refl 54) rfl ?_
      refine xg_iadd dX12_part_54 (Eq.refl 55) ?_
      refine xg_lald (xt_12_0 h0).2 dX12_part_55 (Eq.refl 56) ?_
      refine xg_lload_n dX12_part_56 (Eq.refl 57) rfl ?_
      refine xg_lmul dX12_part_57 (Eq.refl 58) ?_
      refine xg_aload_n dX12_part_58 (Eq.refl 59) rfl ?_
      refine xg_getR (k := 0) xcl12 h0 rfl xq_122 rfl (xt_12_0 h0).1 dX12_part_59 (Eq.refl 62) ?_
      refine xg_sipush dX12_part_62 (Eq.refl 65) (by decide +kernel) ?_
      refine xg_iload_n dX12_part_65 (Eq.refl 66) rfl ?_
      refine xg_iadd dX12_part_66 (Eq.refl 67) ?_
      refine xg_lald (xt_12_0 h0).2 dX12_part_67 (Eq.refl 68) ?_
      refine xg_ldiv dX12_part_68 (Eq.refl 69) (w64_r _) (hM6.aj (xt_12_0 h0).2) ?_
      intro q7
      refine xg_lstoreL (P := R64) (ls2 := fun y8 => [some (.ref x0), some (iv x1), some (jv z5), none, some (jv y8), none]) dX12_part_69 (Eq.refl 71) (by decide) (xtd_r (w64_r _) q7) (fun _ => rfl) ?_
      intro y8 hy8
      refine xg_aload_n dX12_part_71 (Eq.refl 72) rfl ?_
      refine xg_iload_n dX12_part_72 (Eq.refl 73) rfl ?_
      refine xg_lload_n dX12_part_73 (Eq.refl 74) rfl ?_
      refine xg_lload dX12_part_74 (Eq.refl 76) rfl ?_
      refine xg_callV_N (kc := 0) (ks := 0) (st := []) (mX12_move hl x0 h0 x1 h1 z5 hz5 y8 hy8 M6 hM6) bX12_move xcl12 h0 rfl xq_874 rfl (by decide) rfl (by decide) dX12_part_76 (Eq.refl 79) rfl (by decide) (by decide) ?_
      intro z9 M10 hz9 hM10
      refine xg_aload_n dX12_part_79 (Eq.refl 80) rfl ?_
      refine xg_aload_n dX12_part_80 (Eq.refl 81) rfl ?_
      refine xg_iload_n dX12_part_81 (Eq.refl 82) rfl ?_
      refine xg_callV_I (kc := 0) (ks := 0) (st := [.ref x0]) (mX12_deliverer hl x0 h0 x1 h1 M10 hM10) bX12_deliverer xcl12 h0 rfl xq_493 rfl (by decide) rfl (Nat.le_of_ble_eq_true rfl) dX12_part_82 (Eq.refl 85) rfl (by decide) (by decide) ?_
      intro z11 M12 hz11 hM12
      refine xg_callV_Z (kc := 0) (ks := 0) (st := []) (mX12_sound hl x0 h0 z11 hz11 M12 hM12) bX12_sound xcl12 h0 rfl xq_358 rfl (by decide) rfl (by decide) dX12_part_85 (Eq.refl 88) rfl (by decide) (by decide) ?_
      intro z13 M14 hz13 hM14
      refine xg_if_eq (tgt := 140) dX12_part_88 (Eq.refl 91) (by decide) (B01.r hz13) ?_ ?_
      · exact xg_jump (gX12_part_140 hl x0 h0 x1 h1 z5 hz5 y8 hy8 M14 hM14) (xsb_s (xsb_s (xsb_s (xsb_n (xsb_s (xsb_n xsb_0)))))) (by decide) (by decide)
      · refine xg_aload_n dX12_part_91 (Eq.refl 92) rfl ?_
        refine xg_aload_n dX12_part_92 (Eq.refl 93) rfl ?_
        refine xg_iload_n dX12_part_93 (Eq.refl 94) rfl ?_
        refine xg_callV_I (kc := 0) (ks := 0) (st := [.ref x0]) (mX12_receiver hl x0 h0 x1 h1 M14 hM14) bX12_receiver xcl12 h0 rfl xq_497 rfl (by decide) rfl (Nat.le_of_ble_eq_true rfl) dX12_part_94 (Eq.refl 97) rfl (by decide) (by decide) ?_
        intro z15 M16 hz15 hM16
        refine xg_callV_Z (kc := 0) (ks := 0) (st := []) (mX12_sound hl x0 h0 z15 hz15 M16 hM16) bX12_sound xcl12 h0 rfl xq_358 rfl (by decide) rfl (by decide) dX12_part_97 (Eq.refl 100) rfl (by decide) (by decide) ?_
        intro z17 M18 hz17 hM18
        refine xg_if_eq (tgt := 140) dX12_part_100 (Eq.refl 103) (by decide) (B01.r hz17) ?_ ?_
        · exact xg_jump (gX12_part_140 hl x0 h0 x1 h1 z5 hz5 y8 hy8 M18 hM18) (xsb_s (xsb_s (xsb_s (xsb_n (xsb_s (xsb_n xsb_0)))))) (by decide) (by decide)
        · refine xg_aload_n dX12_part_103 (Eq.refl 104) rfl ?_
          refine xg_getR (k := 0) xcl12 h0 rfl xq_122 rfl (xt_12_0 h0).1 dX12_part_104 (Eq.refl 107) ?_
          refine xg_sipush dX12_part_107 (Eq.refl 110) (by decide +kernel) ?_
          refine xg_iload_n dX12_part_110 (Eq.refl 111) rfl ?_
          refine xg_iadd dX12_part_111 (Eq.refl 112) ?_
          refine xg_dup2 dX12_part_112 (Eq.refl 113) rfl rfl ?_
          refine xg_lald (xt_12_0 h0).2 dX12_part_113 (Eq.refl 114) ?_
          refine xg_lload_n dX12_part_114 (Eq.refl 115) rfl ?_
          refine xg_lsub dX12_part_115 (Eq.refl 116) ?_
          refine xg_last (xt_12_0 h0).2 dX12_part_116 (Eq.refl 117) hM18 (w64_r _) ?_
          intro M19 hM19
          refine xg_aload_n dX12_part_117 (Eq.refl 118) rfl ?_
          refine xg_getR (k := 0) xcl12 h0 rfl xq_122 rfl (xt_12_0 h0).1 dX12_part_118 (Eq.refl 121) ?_
          refine xg_sipush dX12_part_121 (Eq.refl 124) (by decide +kernel) ?_
          refine xg_iload_n dX12_part_124 (Eq.refl 125) rfl ?_
          refine xg_iadd dX12_part_125 (Eq.refl 126) ?_
          refine xg_dup2 dX12_part_126 (Eq.refl 127) rfl rfl ?_
          refine xg_lald (xt_12_0 h0).2 dX12_part_127 (Eq.refl 128) ?_
          refine xg_lload dX12_part_128 (Eq.refl 130) rfl ?_
          refine xg_lsub dX12_part_130 (Eq.refl 131) ?_
          refine xg_last (xt_12_0 h0).2 dX12_part_131 (Eq.refl 132) hM19 (w64_r _) ?_
          intro M20 hM20
          refine xg_aload_n dX12_part_132 (Eq.refl 133) rfl ?_
          refine xg_iload_n dX12_part_133 (Eq.refl 134) rfl ?_
          refine xg_callV_N (kc := 0) (ks := 0) (st := []) (mX12_tell hl x0 h0 x1 h1 M20 hM20) bX12_tell xcl12 h0 rfl xq_489 rfl (by decide) rfl (by decide) dX12_part_134 (Eq.refl 137) rfl (by decide) (by decide) ?_
          intro z21 M22 hz21 hM22
          refine xg_goto (tgt := 150) dX12_part_137 (by decide) ?_
          exact xg_vret rfl dX12_part_150 rfl hM22
    · exact xg_vret rfl dX12_part_45 rfl hM6
abbrev uX12_cycle : xU := (RX12, cX12_cycle, 4, (some .int), [], "cycle")
theorem bX12_cycle : xYV yX12_cycle cX12_cycle 4 (some .int) 0 := ⟨xq_810, xq_811, xq_5, xq_812, ⟨by decide +kernel, by decide +kernel, by decide +kernel⟩, by decide⟩
theorem gX12_cycle_197 {l : Launch} {G : xG} (hl : l.stackTraces = false) (rc126 : Int → xM → xO) (x0 : Nat) (h0 : xOb 12 x0) (x2 : Int) (h2 : R32 x2) (x3 : Int) (h3 : R32 x3) (hr126 : ∀ w3 : Int, R32 w3 → ∀ M : xM, xcan M → Gv l G uX12_cycle 6 0 0 0 126 [some (.ref x0), none, some (iv x2), some (iv w3)] [] M (rc126 w3 M)) (M : xM) (hM : xcan M) : Gv l G uX12_cycle 6 0 0 0 197 [some (.ref x0), none, some (iv x2), some (iv x3)] [] M (fX12_cycle_197 rc126 x0 x2 x3 M) := by
  unfold fX12_cycle_197
  refine xg_iinc (ls2 := [some (.ref x0), none, some (iv x2), some (iv (w32 (x3 + 1)))]) dX12_cycle_197 (Eq.refl 200) rfl (by decide) rfl ?_
  refine xg_goto (tgt := 126) dX12_cycle_200 (by decide) ?_
  exact xg_jump (hr126 (w32 (x3 + 1)) (w32_r _) M hM) (xsb_s (xsb_n (xsb_s (xsb_s xsb_0)))) (by decide) (by decide)
theorem gX12_cycle_126 {l : Launch} {G : xG} (hl : l.stackTraces = false) (x0 : Nat) (h0 : xOb 12 x0) (x2 : Int) (h2 : R32 x2) : ∀ (n : Nat) (x3 : Int) (_ : R32 x3) (M : xM) (_ : xcan M), Gv l G uX12_cycle 6 0 0 0 126 [some (.ref x0), none, some (iv x2), some (iv x3)] [] M (fX12_cycle_126 x0 x2 n x3 M) := by
  intro n; induction n with
  | zero => intro x3 h3 M hM; exact xg_none
  | succ n ih =>
    intro x3 h3 M hM
    rw [fX12_cycle_126]
    refine xg_iload_n dX12_cycle_126 (Eq.refl 127) rfl ?_
    refine xg_aload_n dX12_cycle_127 (Eq.refl 128) rfl ?_
    refine xg_getI (k := 5) xcl12 h0 rfl xq_813 rfl dX12_cycle_128 (Eq.refl 131) ?_
    refine xg_icmp_ge (tgt := 203) dX12_cycle_131 (Eq.refl 134) (by decide) h3 (hM.I h0 rfl) ?_ ?_
    · refine xg_iload_n dX12_cycle_203 (Eq.refl 204) rfl ?_
      exact xg_iret rfl dX12_cycle_204 rfl hM h2
    · refine xg_aload_n dX12_cycle_134 (Eq.refl 135) rfl ?_
      refine xg_getR (k := 0) xcl12 h0 rfl xq_122 rfl (xt_12_0 h0).1 dX12_cycle_135 (Eq.refl 138) ?_
      refine xg_sipush dX12_cycle_138 (Eq.refl 141) (by decide +kernel) ?_
      refine xg_aload_n dX12_cycle_141 (Eq.refl 142) rfl ?_
      refine xg_getR (k := 4) xcl12 h0 rfl xq_125 rfl (xt_12_4 h0).1 dX12_cycle_142 (Eq.refl 145) ?_
      refine xg_iload_n dX12_cycle_145 (Eq.refl 146) rfl ?_
      refine xg_iald (xt_12_4 h0).2 dX12_cycle_146 (Eq.refl 147) ?_
      refine xg_iadd dX12_cycle_147 (Eq.refl 148) ?_
      refine xg_lald (xt_12_0 h0).2 dX12_cycle_148 (Eq.refl 149) ?_
      refine xg_lconst (z := 0) dX12_cycle_149 (Eq.refl 150) rfl ?_
      refine xg_lif_ne (tgt := 197) dX12_cycle_150 (Eq.refl 151) dX12_cycle_151 (Eq.refl 154) (by decide) (hM.aj (xt_12_0 h0).2) (by decide) ?_ ?_
      · refine xg_aload_n dX12_cycle_154 (Eq.refl 155) rfl ?_
        refine xg_getR (k := 0) xcl12 h0 rfl xq_122 rfl (xt_12_0 h0).1 dX12_cycle_155 (Eq.refl 158) ?_
        refine xg_sipush dX12_cycle_158 (Eq.refl 161) (by decide +kernel) ?_
        refine xg_aload_n dX12_cycle_161 (Eq.refl 162) rfl ?_
        refine xg_getR (k := 4) xcl12 h0 rfl xq_125 rfl (xt_12_4 h0).1 dX12_cycle_162 (Eq.refl 165) ?_
        refine xg_iload_n dX12_cycle_165 (Eq.refl 166) rfl ?_
        refine xg_iald (xt_12_4 h0).2 dX12_cycle_166 (Eq.refl 167) ?_
        refine xg_iadd dX12_cycle_167 (Eq.refl 168) ?_
        refine xg_lald (xt_12_0 h0).2 dX12_cycle_168 (Eq.refl 169) ?_
        refine xg_lconst (z := 0) dX12_cycle_169 (Eq.refl 170) rfl ?_
        refine xg_lif_le (tgt := 197) dX12_cycle_170 (Eq.refl 171) dX12_cycle_171 (Eq.refl 174) (by decide) (hM.aj (xt_12_0 h0).2) (by decide) ?_ ?_
        · exact xg_jump (gX12_cycle_197 hl (fX12_cycle_126 x0 x2 n) x0 h0 x2 h2 x3 h3 ih M hM) (xsb_s (xsb_n (xsb_s (xsb_s xsb_0)))) (by decide) (by decide)
        · refine xg_aload_n dX12_cycle_174 (Eq.refl 175) rfl ?_
          refine xg_aload_n dX12_cycle_175 (Eq.refl 176) rfl ?_
          refine xg_getR (k := 4) xcl12 h0 rfl xq_125 rfl (xt_12_4 h0).1 dX12_cycle_176 (Eq.refl 179) ?_
          refine xg_iload_n dX12_cycle_179 (Eq.refl 180) rfl ?_
          refine xg_iald (xt_12_4 h0).2 dX12_cycle_180 (Eq.refl 181) ?_
          refine xg_callV_Z (kc := 0) (ks := 0) (st := []) (mX12_linked hl x0 h0 (M (xr x0 4) x3.toNat) (hM.ai (xt_12_4 h0).2) M hM) bX12_linked xcl12 h0 rfl xq_882 rfl (by decide) rfl (by decide) dX12_cycle_181 (Eq.refl 184) rfl (by decide) (by decide) ?_
          intro z1 M2 hz1 hM2
          refine xg_if_ne (tgt := 197) dX12_cycle_184 (Eq.refl 187) (by decide) (B01.r hz1) ?_ ?_
          · refine xg_aload_n dX12_cycle_187 (Eq.refl 188) rfl ?_
            refine xg_aload_n dX12_cycle_188 (Eq.refl 189) rfl ?_
            refine xg_getR (k := 4) xcl12 h0 rfl xq_125 rfl (xt_12_4 h0).1 dX12_cycle_189 (Eq.refl 192) ?_
            refine xg_iload_n dX12_cycle_192 (Eq.refl 193) rfl ?_
            refine xg_iald (xt_12_4 h0).2 dX12_cycle_193 (Eq.refl 194) ?_
            refine xg_callV_N (kc := 0) (ks := 0) (st := []) (mX12_part hl x0 h0 (M2 (xr x0 4) x3.toNat) (hM2.ai (xt_12_4 h0).2) M2 hM2) bX12_part xcl12 h0 rfl xq_890 rfl (by decide) rfl (by decide) dX12_cycle_194 (Eq.refl 197) rfl (by decide) (by decide) ?_
            intro z3 M4 hz3 hM4
            exact xg_jump (gX12_cycle_197 hl (fX12_cycle_126 x0 x2 n) x0 h0 x2 h2 x3 h3 ih M4 hM4) (xsb_s (xsb_n (xsb_s (xsb_s xsb_0)))) (by decide) (by decide)
          · exact xg_jump (gX12_cycle_197 hl (fX12_cycle_126 x0 x2 n) x0 h0 x2 h2 x3 h3 ih M2 hM2) (xsb_s (xsb_n (xsb_s (xsb_s xsb_0)))) (by decide) (by decide)
      · exact xg_jump (gX12_cycle_197 hl (fX12_cycle_126 x0 x2 n) x0 h0 x2 h2 x3 h3 ih M hM) (xsb_s (xsb_n (xsb_s (xsb_s xsb_0)))) (by decide) (by decide)
theorem gX12_cycle_116 {l : Launch} {G : xG} (hl : l.stackTraces = false) (rc69 : Int → Int → xM → xO) (x0 : Nat) (h0 : xOb 12 x0) (x3 : Int) (h3 : R32 x3) (s0 : Int) (hs0 : B01 s0) (s1 : Int) (hs1 : R32 s1) (hr69 : ∀ w2 : Int, R32 w2 → ∀ w3 : Int, R32 w3 → ∀ M : xM, xcan M → Gv l G uX12_cycle 6 0 0 0 69 [some (.ref x0), none, some (iv w2), some (iv w3)] [] M (rc69 w2 w3 M)) (M : xM) (hM : xcan M) : Gv l G uX12_cycle 6 0 0 0 116 [some (.ref x0), none, none, some (iv x3)] [iv s0, iv s1] M (fX12_cycle_116 rc69 x0 x3 s0 s1 M) := by
  unfold fX12_cycle_116
  refine xg_iadd dX12_cycle_116 (Eq.refl 117) ?_
  refine xg_istore_nL (P := R32) (ls2 := fun y1 => [some (.ref x0), none, some (iv y1), some (iv x3)]) dX12_cycle_117 (Eq.refl 118) (by decide) (w32_r _) (fun _ => rfl) ?_
  intro y1 hy1
  refine xg_iinc (ls2 := [some (.ref x0), none, some (iv y1), some (iv (w32 (x3 + 1)))]) dX12_cycle_118 (Eq.refl 121) rfl (by decide) rfl ?_
  refine xg_goto (tgt := 69) dX12_cycle_121 (by decide) ?_
  exact xg_jump (hr69 y1 hy1 (w32 (x3 + 1)) (w32_r _) M hM) (xsb_s (xsb_n (xsb_s (xsb_s xsb_0)))) (by decide) (by decide)
theorem gX12_cycle_115 {l : Launch} {G : xG} (hl : l.stackTraces = false) (rc69 : Int → Int → xM → xO) (x0 : Nat) (h0 : xOb 12 x0) (x3 : Int) (h3 : R32 x3) (s0 : Int) (hs0 : R32 s0) (hr69 : ∀ w2 : Int, R32 w2 → ∀ w3 : Int, R32 w3 → ∀ M : xM, xcan M → Gv l G uX12_cycle 6 0 0 0 69 [some (.ref x0), none, some (iv w2), some (iv w3)] [] M (rc69 w2 w3 M)) (M : xM) (hM : xcan M) : Gv l G uX12_cycle 6 0 0 0 115 [some (.ref x0), none, none, some (iv x3)] [iv s0] M (fX12_cycle_115 rc69 x0 x3 s0 M) := by
  unfold fX12_cycle_115
  refine xg_iconst dX12_cycle_115 (Eq.refl 116) ?_
  exact xg_jump (gX12_cycle_116 hl rc69 x0 h0 x3 h3 0 (by decide) s0 hs0 hr69 M hM) (xsb_s (xsb_n (xsb_n (xsb_s xsb_0)))) (by decide) (by decide)
theorem gX12_cycle_69 {l : Launch} {G : xG} (hl : l.stackTraces = false) (x0 : Nat) (h0 : xOb 12 x0) : ∀ (n : Nat) (x2 : Int) (_ : R32 x2) (x3 : Int) (_ : R32 x3) (M : xM) (_ : xcan M), Gv l G uX12_cycle 6 0 0 0 69 [some (.ref x0), none, some (iv x2), some (iv x3)] [] M (fX12_cycle_69 x0 n x2 x3 M) := by
  intro n; induction n with
  | zero => intro x2 h2 x3 h3 M hM; exact xg_none
  | succ n ih =>
    intro x2 h2 x3 h3 M hM
    rw [fX12_cycle_69]
    refine xg_iload_n dX12_cycle_69 (Eq.refl 70) rfl ?_
    refine xg_aload_n dX12_cycle_70 (Eq.refl 71) rfl ?_
    refine xg_getI (k := 5) xcl12 h0 rfl xq_813 rfl dX12_cycle_71 (Eq.refl 74) ?_
    refine xg_icmp_ge (tgt := 124) dX12_cycle_74 (Eq.refl 77) (by decide) h3 (hM.I h0 rfl) ?_ ?_
    · refine xg_iconst dX12_cycle_124 (Eq.refl 125) ?_
      refine xg_istore_n (ls2 := [some (.ref x0), none, some (iv x2), some (iv 0)]) dX12_cycle_125 (Eq.refl 126) (by decide) rfl ?_
      exact xg_jump (gX12_cycle_126 hl x0 h0 x2 h2 xN 0 (by decide) M hM) (xsb_s (xsb_n (xsb_s (xsb_s xsb_0)))) (by decide) (by decide)
    · refine xg_iload_n dX12_cycle_77 (Eq.refl 78) rfl ?_
      refine xg_aload_n dX12_cycle_78 (Eq.refl 79) rfl ?_
      refine xg_getR (k := 0) xcl12 h0 rfl xq_122 rfl (xt_12_0 h0).1 dX12_cycle_79 (Eq.refl 82) ?_
      refine xg_sipush dX12_cycle_82 (Eq.refl 85) (by decide +kernel) ?_
      refine xg_aload_n dX12_cycle_85 (Eq.refl 86) rfl ?_
      refine xg_getR (k := 4) xcl12 h0 rfl xq_125 rfl (xt_12_4 h0).1 dX12_cycle_86 (Eq.refl 89) ?_
      refine xg_iload_n dX12_cycle_89 (Eq.refl 90) rfl ?_
      refine xg_iald (xt_12_4 h0).2 dX12_cycle_90 (Eq.refl 91) ?_
      refine xg_iadd dX12_cycle_91 (Eq.refl 92) ?_
      refine xg_lald (xt_12_0 h0).2 dX12_cycle_92 (Eq.refl 93) ?_
      refine xg_lconst (z := 0) dX12_cycle_93 (Eq.refl 94) rfl ?_
      refine xg_lif_ne (tgt := 115) dX12_cycle_94 (Eq.refl 95) dX12_cycle_95 (Eq.refl 98) (by decide) (hM.aj (xt_12_0 h0).2) (by decide) ?_ ?_
      · refine xg_aload_n dX12_cycle_98 (Eq.refl 99) rfl ?_
        refine xg_aload_n dX12_cycle_99 (Eq.refl 100) rfl ?_
        refine xg_getR (k := 4) xcl12 h0 rfl xq_125 rfl (xt_12_4 h0).1 dX12_cycle_100 (Eq.refl 103) ?_
        refine xg_iload_n dX12_cycle_103 (Eq.refl 104) rfl ?_
        refine xg_iald (xt_12_4 h0).2 dX12_cycle_104 (Eq.refl 105) ?_
        refine xg_callV_Z (kc := 0) (ks := 0) (st := [iv x2]) (mX12_borrows hl x0 h0 (M (xr x0 4) x3.toNat) (hM.ai (xt_12_4 h0).2) M hM) bX12_borrows xcl12 h0 rfl xq_878 rfl (by decide) rfl (Nat.le_of_ble_eq_true rfl) dX12_cycle_105 (Eq.refl 108) rfl (by decide) (by decide) ?_
        intro z1 M2 hz1 hM2
        refine xg_if_eq (tgt := 115) dX12_cycle_108 (Eq.refl 111) (by decide) (B01.r hz1) ?_ ?_
        · exact xg_jump (gX12_cycle_115 hl (fX12_cycle_69 x0 n) x0 h0 x3 h3 x2 h2 ih M2 hM2) (xsb_s (xsb_n (xsb_n (xsb_s xsb_0)))) (by decide) (by decide)
        · refine xg_iconst dX12_cycle_111 (Eq.refl 112) ?_
          refine xg_goto (tgt := 116) dX12_cycle_112 (by decide) ?_
          exact xg_jump (gX12_cycle_116 hl (fX12_cycle_69 x0 n) x0 h0 x3 h3 1 (by decide) x2 h2 ih M2 hM2) (xsb_s (xsb_n (xsb_n (xsb_s xsb_0)))) (by decide) (by decide)
      · exact xg_jump (gX12_cycle_115 hl (fX12_cycle_69 x0 n) x0 h0 x3 h3 x2 h2 ih M hM) (xsb_s (xsb_n (xsb_n (xsb_s xsb_0)))) (by decide) (by decide)
theorem gX12_cycle_61 {l : Launch} {G : xG} (hl : l.stackTraces = false) (rc33 : Int → xM → xO) (x0 : Nat) (h0 : xOb 12 x0) (x1 : Int) (h1 : R32 x1) (x2 : Int) (h2 : R32 x2) (x3 : Int) (h3 : R32 x3) (hr33 : ∀ w3 : Int, R32 w3 → ∀ M : xM, xcan M → Gv l G uX12_cycle 6 0 0 0 33 [some (.ref x0), some (iv x1), some (iv x2), some (iv w3)] [] M (rc33 w3 M)) (M : xM) (hM : xcan M) : Gv l G uX12_cycle 6 0 0 0 61 [some (.ref x0), some (iv x1), some (iv x2), some (iv x3)] [] M (fX12_cycle_61 rc33 x0 x1 x2 x3 M) := by
  unfold fX12_cycle_61
  refine xg_iinc (ls2 := [some (.ref x0), some (iv x1), some (iv x2), some (iv (w32 (x3 + 1)))]) dX12_cycle_61 (Eq.refl 64) rfl (by decide) rfl ?_
  refine xg_goto (tgt := 33) dX12_cycle_64 (by decide) ?_
  exact xg_jump (hr33 (w32 (x3 + 1)) (w32_r _) M hM) (xsb_s (xsb_s (xsb_s (xsb_s xsb_0)))) (by decide) (by decide)
theorem gX12_cycle_33 {l : Launch} {G : xG} (hl : l.stackTraces = false) (x0 : Nat) (h0 : xOb 12 x0) (x1 : Int) (h1 : R32 x1) (x2 : Int) (h2 : R32 x2) : ∀ (n : Nat) (x3 : Int) (_ : R32 x3) (M : xM) (_ : xcan M), Gv l G uX12_cycle 6 0 0 0 33 [some (.ref x0), some (iv x1), some (iv x2), some (iv x3)] [] M (fX12_cycle_33 x0 x1 x2 n x3 M) := by
  intro n; induction n with
  | zero => intro x3 h3 M hM; exact xg_none
  | succ n ih =>
    intro x3 h3 M hM
    rw [fX12_cycle_33]
    refine xg_iload_n dX12_cycle_33 (Eq.refl 34) rfl ?_
    refine xg_aload_n dX12_cycle_34 (Eq.refl 35) rfl ?_
    refine xg_getI (k := 5) xcl12 h0 rfl xq_813 rfl dX12_cycle_35 (Eq.refl 38) ?_
    refine xg_icmp_ge (tgt := 67) dX12_cycle_38 (Eq.refl 41) (by decide) h3 (hM.I h0 rfl) ?_ ?_
    · refine xg_iconst dX12_cycle_67 (Eq.refl 68) ?_
      refine xg_istore_n (ls2 := [some (.ref x0), some (iv x1), some (iv x2), some (iv 0)]) dX12_cycle_68 (Eq.refl 69) (by decide) rfl ?_
      exact xg_jump (gX12_cycle_69 hl x0 h0 xN x2 h2 0 (by decide) M hM) (xsb_s (xsb_n (xsb_s (xsb_s xsb_0)))) (by decide) (by decide)
    · refine xg_iload_n dX12_cycle_41 (Eq.refl 42) rfl ?_
      refine xg_iload_n dX12_cycle_42 (Eq.refl 43) rfl ?_
      refine xg_ishr dX12_cycle_43 (Eq.refl 44) ?_
      refine xg_iconst dX12_cycle_44 (Eq.refl 45) ?_
      refine xg_iand dX12_cycle_45 (Eq.refl 46) ?_
      refine xg_iconst dX12_cycle_46 (Eq.refl 47) ?_
      refine xg_icmp_ne (tgt := 61) dX12_cycle_47 (Eq.refl 50) (by decide) (xand_r _ _) (by decide) ?_ ?_
      · refine xg_aload_n dX12_cycle_50 (Eq.refl 51) rfl ?_
        refine xg_aload_n dX12_cycle_51 (Eq.refl 52) rfl ?_
        refine xg_getR (k := 4) xcl12 h0 rfl xq_125 rfl (xt_12_4 h0).1 dX12_cycle_52 (Eq.refl 55) ?_
        refine xg_iload_n dX12_cycle_55 (Eq.refl 56) rfl ?_
        refine xg_iald (xt_12_4 h0).2 dX12_cycle_56 (Eq.refl 57) ?_
        refine xg_iconst dX12_cycle_57 (Eq.refl 58) ?_
        refine xg_callV_N (kc := 0) (ks := 0) (st := []) (mX12_over hl x0 h0 (M (xr x0 4) x3.toNat) (hM.ai (xt_12_4 h0).2) 1 (by decide) M hM) bX12_over xcl12 h0 rfl xq_566 rfl (by decide) rfl (by decide) dX12_cycle_58 (Eq.refl 61) rfl (by decide) (by decide) ?_
        intro z1 M2 hz1 hM2
        exact xg_jump (gX12_cycle_61 hl (fX12_cycle_33 x0 x1 x2 n) x0 h0 x1 h1 x2 h2 x3 h3 ih M2 hM2) (xsb_s (xsb_s (xsb_s (xsb_s xsb_0)))) (by decide) (by decide)
      · exact xg_jump (gX12_cycle_61 hl (fX12_cycle_33 x0 x1 x2 n) x0 h0 x1 h1 x2 h2 x3 h3 ih M hM) (xsb_s (xsb_s (xsb_s (xsb_s xsb_0)))) (by decide) (by decide)
theorem mX12_cycle {l : Launch} {G : xG} (hl : l.stackTraces = false) (x0 : Nat) (h0 : xOb 12 x0) (M : xM) (hM : xcan M) : Cm l G yX12_cycle cX12_cycle 4 (some .int) 6 0 0 0 [.ref x0] M (fX12_cycle x0 M) := by
  refine xcm_of (u := uX12_cycle) (ls := [some (.ref x0), none, none, none]) 3 hl rfl (by decide +kernel) (Nat.le_of_ble_eq_true rfl) rfl ?_
  unfold fX12_cycle
  refine xg_aload_n dX12_cycle_0 (Eq.refl 1) rfl ?_
  refine xg_iconst dX12_cycle_1 (Eq.refl 2) ?_
  refine xg_callV_Z (kc := 0) (ks := 0) (st := []) (mX12_holds hl x0 h0 0 (by decide) M hM) bX12_holds xcl12 h0 rfl xq_187 rfl (by decide) rfl (by decide) dX12_cycle_2 (Eq.refl 5) rfl (by decide) (by decide) ?_
  intro z1 M2 hz1 hM2
  refine xg_pop dX12_cycle_5 (Eq.refl 6) rfl ?_
  refine xg_aload_n dX12_cycle_6 (Eq.refl 7) rfl ?_
  refine xg_callV_N (kc := 0) (ks := 0) (st := []) (mX12_giveBack hl x0 h0 M2 hM2) bX12_giveBack xcl12 h0 rfl xq_814 rfl (by decide) rfl (by decide) dX12_cycle_7 (Eq.refl 10) rfl (by decide) (by decide) ?_
  intro z3 M4 hz3 hM4
  refine xg_aload_n dX12_cycle_10 (Eq.refl 11) rfl ?_
  refine xg_callV_N (kc := 0) (ks := 0) (st := []) (mX12_candidates hl x0 h0 M4 hM4) bX12_candidates xcl12 h0 rfl xq_818 rfl (by decide) rfl (by decide) dX12_cycle_11 (Eq.refl 14) rfl (by decide) (by decide) ?_
  intro z5 M6 hz5 hM6
  refine xg_aload_n dX12_cycle_14 (Eq.refl 15) rfl ?_
  refine xg_callV_I (kc := 0) (ks := 0) (st := []) (mX12_bestSet hl x0 h0 M6 hM6) bX12_bestSet xcl12 h0 rfl xq_830 rfl (by decide) rfl (by decide) dX12_cycle_15 (Eq.refl 18) rfl (by decide) (by decide) ?_
  intro z7 M8 hz7 hM8
  refine xg_istore_n (ls2 := [some (.ref x0), some (iv z7), none, none]) dX12_cycle_18 (Eq.refl 19) (by decide) rfl ?_
  refine xg_aload_n dX12_cycle_19 (Eq.refl 20) rfl ?_
  refine xg_iload_n dX12_cycle_20 (Eq.refl 21) rfl ?_
  refine xg_callV_I (kc := 0) (ks := 0) (st := []) (mX12_count hl x0 h0 z7 hz7 M8 hM8) bX12_count xcl12 h0 rfl xq_846 rfl (by decide) rfl (by decide) dX12_cycle_21 (Eq.refl 24) rfl (by decide) (by decide) ?_
  intro z9 M10 hz9 hM10
  refine xg_istore_n (ls2 := [some (.ref x0), some (iv z7), some (iv z9), none]) dX12_cycle_24 (Eq.refl 25) (by decide) rfl ?_
  refine xg_aload_n dX12_cycle_25 (Eq.refl 26) rfl ?_
  refine xg_iload_n dX12_cycle_26 (Eq.refl 27) rfl ?_
  refine xg_iconst dX12_cycle_27 (Eq.refl 28) ?_
  refine xg_callV_N (kc := 0) (ks := 0) (st := []) (mX12_moveAll hl x0 h0 z7 hz7 1 (by decide) M10 hM10) bX12_moveAll xcl12 h0 rfl xq_870 rfl (by decide) rfl (by decide) dX12_cycle_28 (Eq.refl 31) rfl (by decide) (by decide) ?_
  intro z11 M12 hz11 hM12
  refine xg_iconst dX12_cycle_31 (Eq.refl 32) ?_
  refine xg_istore_n (ls2 := [some (.ref x0), some (iv z7), some (iv z9), some (iv 0)]) dX12_cycle_32 (Eq.refl 33) (by decide) rfl ?_
  exact xg_jump (gX12_cycle_33 hl x0 h0 z7 hz7 z9 hz9 xN 0 (by decide) M12 hM12) (xsb_s (xsb_s (xsb_s (xsb_s xsb_0)))) (by decide) (by decide)
abbrev uX12_best : xU := (RX12, cX12_best, 1, (some .long), [], "best")
theorem bX12_best : xYV yX12_best cX12_best 1 (some .long) 0 := ⟨xq_899, xq_900, xq_5, xq_901, ⟨by decide +kernel, by decide +kernel, by decide +kernel⟩, by decide⟩
theorem mX12_best {l : Launch} {G : xG} (hl : l.stackTraces = false) (x0 : Nat) (h0 : xOb 12 x0) (M : xM) (hM : xcan M) : Cm l G yX12_best cX12_best 1 (some .long) 6 2 0 0 [.ref x0] M (fX12_best x0 M) := by
  refine xcm_of (u := uX12_best) (ls := [some (.ref x0)]) 0 hl rfl (by decide +kernel) (Nat.le_of_ble_eq_true rfl) rfl ?_
  unfold fX12_best
  refine xg_aload_n dX12_best_0 (Eq.refl 1) rfl ?_
  refine xg_iconst dX12_best_1 (Eq.refl 2) ?_
  refine xg_callV_Z (kc := 0) (ks := 0) (st := []) (mX12_holds hl x0 h0 0 (by decide) M hM) bX12_holds xcl12 h0 rfl xq_187 rfl (by decide) rfl (by decide) dX12_best_2 (Eq.refl 5) rfl (by decide) (by decide) ?_
  intro z1 M2 hz1 hM2
  refine xg_pop dX12_best_5 (Eq.refl 6) rfl ?_
  refine xg_aload_n dX12_best_6 (Eq.refl 7) rfl ?_
  refine xg_callV_N (kc := 0) (ks := 0) (st := []) (mX12_candidates hl x0 h0 M2 hM2) bX12_candidates xcl12 h0 rfl xq_818 rfl (by decide) rfl (by decide) dX12_best_7 (Eq.refl 10) rfl (by decide) (by decide) ?_
  intro z3 M4 hz3 hM4
  refine xg_aload_n dX12_best_10 (Eq.refl 11) rfl ?_
  refine xg_aload_n dX12_best_11 (Eq.refl 12) rfl ?_
  refine xg_callV_I (kc := 0) (ks := 0) (st := [.ref x0]) (mX12_bestSet hl x0 h0 M4 hM4) bX12_bestSet xcl12 h0 rfl xq_830 rfl (by decide) rfl (Nat.le_of_ble_eq_true rfl) dX12_best_12 (Eq.refl 15) rfl (by decide) (by decide) ?_
  intro z5 M6 hz5 hM6
  refine xg_callV_J (kc := 0) (ks := 0) (st := []) (mX12_worthOf hl x0 h0 z5 hz5 M6 hM6) bX12_worthOf xcl12 h0 rfl xq_834 rfl (by decide) rfl (by decide) dX12_best_15 (Eq.refl 18) rfl (by decide) (by decide) ?_
  intro z7 M8 hz7 hM8
  exact xg_lret rfl dX12_best_18 rfl hM8 hz7
abbrev uX12_bestByAll : xU := (RX12, cX12_bestByAll, 1, (some .long), [], "bestByAll")
theorem bX12_bestByAll : xYV yX12_bestByAll cX12_bestByAll 1 (some .long) 0 := ⟨xq_911, xq_912, xq_5, xq_913, ⟨by decide +kernel, by decide +kernel, by decide +kernel⟩, by decide⟩
theorem mX12_bestByAll {l : Launch} {G : xG} (hl : l.stackTraces = false) (x0 : Nat) (h0 : xOb 12 x0) (M : xM) (hM : xcan M) : Cm l G yX12_bestByAll cX12_bestByAll 1 (some .long) 7 2 0 0 [.ref x0] M (fX12_bestByAll x0 M) := by
  refine xcm_of (u := uX12_bestByAll) (ls := [some (.ref x0)]) 0 hl rfl (by decide +kernel) (Nat.le_of_ble_eq_true rfl) rfl ?_
  unfold fX12_bestByAll
  refine xg_aload_n dX12_bestByAll_0 (Eq.refl 1) rfl ?_
  refine xg_callV_J (kc := 0) (ks := 0) (st := []) (mX12_best hl x0 h0 M hM) bX12_best xcl12 h0 rfl xq_914 rfl (by decide) rfl (by decide) dX12_bestByAll_1 (Eq.refl 4) rfl (by decide) (by decide) ?_
  intro z1 M2 hz1 hM2
  exact xg_lret rfl dX12_bestByAll_4 rfl hM2 hz1
abbrev uX12_shortOf : xU := (RX12, cX12_shortOf, 2, (some .boolean), [], "shortOf")
theorem bX12_shortOf : xYV yX12_shortOf cX12_shortOf 2 (some .boolean) 1 := ⟨xq_1146, xq_1147, xq_5, xq_1148, ⟨by decide +kernel, by decide +kernel, by decide +kernel⟩, by decide⟩
theorem mX12_shortOf {l : Launch} {G : xG} (hl : l.stackTraces = false) (x0 : Nat) (h0 : xOb 12 x0) (x1 : Int) (h1 : R32 x1) (M : xM) (hM : xcan M) : Cm l G yX12_shortOf cX12_shortOf 2 (some .boolean) 2 1 0 0 [.ref x0, iv x1] M (fX12_shortOf x0 x1 M) := by
  refine xcm_of (u := uX12_shortOf) (ls := [some (.ref x0), some (iv x1)]) 0 hl rfl (by decide +kernel) (Nat.le_of_ble_eq_true rfl) rfl ?_
  unfold fX12_shortOf
  refine xg_aload_n dX12_shortOf_0 (Eq.refl 1) rfl ?_
  refine xg_aload_n dX12_shortOf_1 (Eq.refl 2) rfl ?_
  refine xg_iload_n dX12_shortOf_2 (Eq.refl 3) rfl ?_
  refine xg_callV_I (kc := 0) (ks := 0) (st := [.ref x0]) (mX12_deliverer hl x0 h0 x1 h1 M hM) bX12_deliverer xcl12 h0 rfl xq_493 rfl (by decide) rfl (Nat.le_of_ble_eq_true rfl) dX12_shortOf_3 (Eq.refl 6) rfl (by decide) (by decide) ?_
  intro z1 M2 hz1 hM2
  refine xg_aload_n dX12_shortOf_6 (Eq.refl 7) rfl ?_
  refine xg_iload_n dX12_shortOf_7 (Eq.refl 8) rfl ?_
  refine xg_callV_I (kc := 0) (ks := 0) (st := [iv z1, .ref x0]) (mX12_paper hl x0 h0 x1 h1 M2 hM2) bX12_paper xcl12 h0 rfl xq_842 rfl (by decide) rfl (Nat.le_of_ble_eq_true rfl) dX12_shortOf_8 (Eq.refl 11) rfl (by decide) (by decide) ?_
  intro z3 M4 hz3 hM4
  refine xg_callV_J (kc := 0) (ks := 0) (st := []) (mX12_freeOf hl x0 h0 z1 hz1 z3 hz3 M4 hM4) bX12_freeOf xcl12 h0 rfl xq_370 rfl (by decide) rfl (by decide) dX12_shortOf_11 (Eq.refl 14) rfl (by decide) (by decide) ?_
  intro z5 M6 hz5 hM6
  refine xg_aload_n dX12_shortOf_14 (Eq.refl 15) rfl ?_
  refine xg_getR (k := 0) xcl12 h0 rfl xq_122 rfl (xt_12_0 h0).1 dX12_shortOf_15 (Eq.refl 18) ?_
  refine xg_sipush dX12_shortOf_18 (Eq.refl 21) (by decide +kernel) ?_
  refine xg_iload_n dX12_shortOf_21 (Eq.refl 22) rfl ?_
  refine xg_iadd dX12_shortOf_22 (Eq.refl 23) ?_
  refine xg_lald (xt_12_0 h0).2 dX12_shortOf_23 (Eq.refl 24) ?_
  refine xg_lif_ge (tgt := 32) dX12_shortOf_24 (Eq.refl 25) dX12_shortOf_25 (Eq.refl 28) (by decide) hz5 (hM6.aj (xt_12_0 h0).2) ?_ ?_
  · refine xg_iconst dX12_shortOf_32 (Eq.refl 33) ?_
    exact xg_zret rfl dX12_shortOf_33 rfl hM6 (by decide)
  · refine xg_iconst dX12_shortOf_28 (Eq.refl 29) ?_
    refine xg_goto (tgt := 33) dX12_shortOf_29 (by decide) ?_
    exact xg_zret rfl dX12_shortOf_33 rfl hM6 (by decide)
abbrev uX12_held : xU := (RX12, cX12_held, 2, (some .boolean), [], "held")
theorem bX12_held : xYV yX12_held cX12_held 2 (some .boolean) 1 := ⟨xq_1142, xq_1143, xq_5, xq_1144, ⟨by decide +kernel, by decide +kernel, by decide +kernel⟩, by decide⟩
theorem mX12_held {l : Launch} {G : xG} (hl : l.stackTraces = false) (x0 : Nat) (h0 : xOb 12 x0) (x1 : Int) (h1 : R32 x1) (M : xM) (hM : xcan M) : Cm l G yX12_held cX12_held 2 (some .boolean) 1 1 0 0 [.ref x0, iv x1] M (fX12_held x0 x1 M) := by
  refine xcm_of (u := uX12_held) (ls := [some (.ref x0), some (iv x1)]) 0 hl rfl (by decide +kernel) (Nat.le_of_ble_eq_true rfl) rfl ?_
  unfold fX12_held
  refine xg_aload_n dX12_held_0 (Eq.refl 1) rfl ?_
  refine xg_getR (k := 0) xcl12 h0 rfl xq_122 rfl (xt_12_0 h0).1 dX12_held_1 (Eq.refl 4) ?_
  refine xg_sipush dX12_held_4 (Eq.refl 7) (by decide +kernel) ?_
  refine xg_iload_n dX12_held_7 (Eq.refl 8) rfl ?_
  refine xg_iadd dX12_held_8 (Eq.refl 9) ?_
  refine xg_lald (xt_12_0 h0).2 dX12_held_9 (Eq.refl 10) ?_
  refine xg_lconst (z := 1) dX12_held_10 (Eq.refl 11) rfl ?_
  refine xg_lif_ne (tgt := 19) dX12_held_11 (Eq.refl 12) dX12_held_12 (Eq.refl 15) (by decide) (hM.aj (xt_12_0 h0).2) (by decide) ?_ ?_
  · refine xg_iconst dX12_held_15 (Eq.refl 16) ?_
    refine xg_goto (tgt := 20) dX12_held_16 (by decide) ?_
    exact xg_zret rfl dX12_held_20 rfl hM (by decide)
  · refine xg_iconst dX12_held_19 (Eq.refl 20) ?_
    exact xg_zret rfl dX12_held_20 rfl hM (by decide)
abbrev uX12_chained : xU := (RX12, cX12_chained, 4, (some .int), [], "chained")
theorem bX12_chained : xYV yX12_chained cX12_chained 4 (some .int) 2 := ⟨xq_1154, xq_1155, xq_5, xq_1156, ⟨by decide +kernel, by decide +kernel, by decide +kernel⟩, by decide⟩
theorem gX12_chained_53 {l : Launch} {G : xG} (hl : l.stackTraces = false) (rc2 : Int → xM → xO) (x0 : Nat) (h0 : xOb 12 x0) (x1 : Int) (h1 : R32 x1) (x2 : Int) (h2 : R32 x2) (x3 : Int) (h3 : R32 x3) (hr2 : ∀ w3 : Int, R32 w3 → ∀ M : xM, xcan M → Gv l G uX12_chained 2 0 0 0 2 [some (.ref x0), some (iv x1), some (iv x2), some (iv w3)] [] M (rc2 w3 M)) (M : xM) (hM : xcan M) : Gv l G uX12_chained 2 0 0 0 53 [some (.ref x0), some (iv x1), some (iv x2), some (iv x3)] [] M (fX12_chained_53 rc2 x0 x1 x2 x3 M) := by
  unfold fX12_chained_53
  refine xg_iinc (ls2 := [some (.ref x0), some (iv x1), some (iv x2), some (iv (w32 (x3 + 1)))]) dX12_chained_53 (Eq.refl 56) rfl (by decide) rfl ?_
  refine xg_goto (tgt := 2) dX12_chained_56 (by decide) ?_
  exact xg_jump (hr2 (w32 (x3 + 1)) (w32_r _) M hM) (xsb_s (xsb_s (xsb_s (xsb_s xsb_0)))) (by decide) (by decide)
theorem gX12_chained_2 {l : Launch} {G : xG} (hl : l.stackTraces = false) (x0 : Nat) (h0 : xOb 12 x0) (x1 : Int) (h1 : R32 x1) (x2 : Int) (h2 : R32 x2) : ∀ (n : Nat) (x3 : Int) (_ : R32 x3) (M : xM) (_ : xcan M), Gv l G uX12_chained 2 0 0 0 2 [some (.ref x0), some (iv x1), some (iv x2), some (iv x3)] [] M (fX12_chained_2 x0 x1 x2 n x3 M) := by
  intro n; induction n with
  | zero => intro x3 h3 M hM; exact xg_none
  | succ n ih =>
    intro x3 h3 M hM
    rw [fX12_chained_2]
    refine xg_iload_n dX12_chained_2 (Eq.refl 3) rfl ?_
    refine xg_i2l dX12_chained_3 (Eq.refl 4) h3 ?_
    refine xg_aload_n dX12_chained_4 (Eq.refl 5) rfl ?_
    refine xg_getR (k := 0) xcl12 h0 rfl xq_122 rfl (xt_12_0 h0).1 dX12_chained_5 (Eq.refl 8) ?_
    refine xg_sipush dX12_chained_8 (Eq.refl 11) (by decide +kernel) ?_
    refine xg_laldk (k := 1543) (xt_12_0 h0).2 dX12_chained_11 (Eq.refl 12) rfl (by decide) ?_
    refine xg_lif_ge (tgt := 59) dX12_chained_12 (Eq.refl 13) dX12_chained_13 (Eq.refl 16) (by decide) (R32.j h3) (hM.aj (xt_12_0 h0).2) ?_ ?_
    · refine xg_iconst dX12_chained_59 (Eq.refl 60) ?_
      exact xg_iret rfl dX12_chained_60 rfl hM (by decide)
    · refine xg_aload_n dX12_chained_16 (Eq.refl 17) rfl ?_
      refine xg_getR (k := 6) xcl12 h0 rfl xq_126 rfl (xt_12_6 h0).1 dX12_chained_17 (Eq.refl 20) ?_
      refine xg_iload_n dX12_chained_20 (Eq.refl 21) rfl ?_
      refine xg_iald (xt_12_6 h0).2 dX12_chained_21 (Eq.refl 22) ?_
      refine xg_if_ne (tgt := 53) dX12_chained_22 (Eq.refl 25) (by decide) (hM.ai (xt_12_6 h0).2) ?_ ?_
      · refine xg_aload_n dX12_chained_25 (Eq.refl 26) rfl ?_
        refine xg_iload_n dX12_chained_26 (Eq.refl 27) rfl ?_
        refine xg_callV_Z (kc := 0) (ks := 0) (st := []) (mX12_due hl x0 h0 x3 h3 M hM) bX12_due xcl12 h0 rfl xq_822 rfl (by decide) rfl (by decide) dX12_chained_27 (Eq.refl 30) rfl (by decide) (by decide) ?_
        intro z1 M2 hz1 hM2
        refine xg_if_eq (tgt := 53) dX12_chained_30 (Eq.refl 33) (by decide) (B01.r hz1) ?_ ?_
        · exact xg_jump (gX12_chained_53 hl (fX12_chained_2 x0 x1 x2 n) x0 h0 x1 h1 x2 h2 x3 h3 ih M2 hM2) (xsb_s (xsb_s (xsb_s (xsb_s xsb_0)))) (by decide) (by decide)
        · refine xg_aload_n dX12_chained_33 (Eq.refl 34) rfl ?_
          refine xg_iload_n dX12_chained_34 (Eq.refl 35) rfl ?_
          refine xg_callV_I (kc := 0) (ks := 0) (st := []) (mX12_receiver hl x0 h0 x3 h3 M2 hM2) bX12_receiver xcl12 h0 rfl xq_497 rfl (by decide) rfl (by decide) dX12_chained_35 (Eq.refl 38) rfl (by decide) (by decide) ?_
          intro z3 M4 hz3 hM4
          refine xg_iload_n dX12_chained_38 (Eq.refl 39) rfl ?_
          refine xg_icmp_ne (tgt := 53) dX12_chained_39 (Eq.refl 42) (by decide) hz3 h1 ?_ ?_
          · refine xg_aload_n dX12_chained_42 (Eq.refl 43) rfl ?_
            refine xg_iload_n dX12_chained_43 (Eq.refl 44) rfl ?_
            refine xg_callV_I (kc := 0) (ks := 0) (st := []) (mX12_paper hl x0 h0 x3 h3 M4 hM4) bX12_paper xcl12 h0 rfl xq_842 rfl (by decide) rfl (by decide) dX12_chained_44 (Eq.refl 47) rfl (by decide) (by decide) ?_
            intro z5 M6 hz5 hM6
            refine xg_iload_n dX12_chained_47 (Eq.refl 48) rfl ?_
            refine xg_icmp_ne (tgt := 53) dX12_chained_48 (Eq.refl 51) (by decide) hz5 h2 ?_ ?_
            · refine xg_iload_n dX12_chained_51 (Eq.refl 52) rfl ?_
              exact xg_iret rfl dX12_chained_52 rfl hM6 h3
            · exact xg_jump (gX12_chained_53 hl (fX12_chained_2 x0 x1 x2 n) x0 h0 x1 h1 x2 h2 x3 h3 ih M6 hM6) (xsb_s (xsb_s (xsb_s (xsb_s xsb_0)))) (by decide) (by decide)
          · exact xg_jump (gX12_chained_53 hl (fX12_chained_2 x0 x1 x2 n) x0 h0 x1 h1 x2 h2 x3 h3 ih M4 hM4) (xsb_s (xsb_s (xsb_s (xsb_s xsb_0)))) (by decide) (by decide)
      · exact xg_jump (gX12_chained_53 hl (fX12_chained_2 x0 x1 x2 n) x0 h0 x1 h1 x2 h2 x3 h3 ih M hM) (xsb_s (xsb_s (xsb_s (xsb_s xsb_0)))) (by decide) (by decide)
theorem mX12_chained {l : Launch} {G : xG} (hl : l.stackTraces = false) (x0 : Nat) (h0 : xOb 12 x0) (x1 : Int) (h1 : R32 x1) (x2 : Int) (h2 : R32 x2) (M : xM) (hM : xcan M) : Cm l G yX12_chained cX12_chained 4 (some .int) 2 0 0 0 [.ref x0, iv x1, iv x2] M (fX12_chained x0 x1 x2 M) := by
  refine xcm_of (u := uX12_chained) (ls := [some (.ref x0), some (iv x1), some (iv x2), none]) 1 hl rfl (by decide +kernel) (Nat.le_of_ble_eq_true rfl) rfl ?_
  unfold fX12_chained
  refine xg_iconst dX12_chained_0 (Eq.refl 1) ?_
  refine xg_istore_n (ls2 := [some (.ref x0), some (iv x1), some (iv x2), some (iv 0)]) dX12_chained_1 (Eq.refl 2) (by decide) rfl ?_
  exact xg_jump (gX12_chained_2 hl x0 h0 x1 h1 x2 h2 xN 0 (by decide) M hM) (xsb_s (xsb_s (xsb_s (xsb_s xsb_0)))) (by decide) (by decide)
abbrev uX12_causerOf : xU := (RX12, cX12_causerOf, 4, (some .int), [], "causerOf")
theorem bX12_causerOf : xYV yX12_causerOf cX12_causerOf 4 (some .int) 1 := ⟨xq_1150, xq_1151, xq_5, xq_1152, ⟨by decide +kernel, by decide +kernel, by decide +kernel⟩, by decide⟩
theorem gX12_causerOf_80 {l : Launch} {G : xG} (hl : l.stackTraces = false) (x0 : Nat) (h0 : xOb 12 x0) (x2 : Int) (h2 : R32 x2) (M : xM) (hM : xcan M) : Gv l G uX12_causerOf 3 0 0 0 80 [some (.ref x0), none, some (iv x2), none] [] M (fX12_causerOf_80 x0 x2 M) := by
  unfold fX12_causerOf_80
  refine xg_aload_n dX12_causerOf_80 (Eq.refl 81) rfl ?_
  refine xg_iload_n dX12_causerOf_81 (Eq.refl 82) rfl ?_
  refine xg_callV_I (kc := 0) (ks := 0) (st := []) (mX12_receiver hl x0 h0 x2 h2 M hM) bX12_receiver xcl12 h0 rfl xq_497 rfl (by decide) rfl (by decide) dX12_causerOf_82 (Eq.refl 85) rfl (by decide) (by decide) ?_
  intro z1 M2 hz1 hM2
  exact xg_iret rfl dX12_causerOf_85 rfl hM2 hz1
theorem gX12_causerOf_23 {l : Launch} {G : xG} (hl : l.stackTraces = false) (x0 : Nat) (h0 : xOb 12 x0) : ∀ (n : Nat) (x2 : Int) (_ : R32 x2) (M : xM) (_ : xcan M), Gv l G uX12_causerOf 3 0 0 0 23 [some (.ref x0), none, some (iv x2), none] [] M (fX12_causerOf_23 x0 n x2 M) := by
  intro n; induction n with
  | zero => intro x2 h2 M hM; exact xg_none
  | succ n ih =>
    intro x2 h2 M hM
    rw [fX12_causerOf_23]
    refine xg_aload_n dX12_causerOf_23 (Eq.refl 24) rfl ?_
    refine xg_getR (k := 6) xcl12 h0 rfl xq_126 rfl (xt_12_6 h0).1 dX12_causerOf_24 (Eq.refl 27) ?_
    refine xg_iload_n dX12_causerOf_27 (Eq.refl 28) rfl ?_
    refine xg_iconst dX12_causerOf_28 (Eq.refl 29) ?_
    refine xg_iast (xt_12_6 h0).2 dX12_causerOf_29 (Eq.refl 30) hM (by decide) ?_
    intro M1 hM1
    refine xg_aload_n dX12_causerOf_30 (Eq.refl 31) rfl ?_
    refine xg_aload_n dX12_causerOf_31 (Eq.refl 32) rfl ?_
    refine xg_getR (k := 0) xcl12 h0 rfl xq_122 rfl (xt_12_0 h0).1 dX12_causerOf_32 (Eq.refl 35) ?_
    refine xg_sipush dX12_causerOf_35 (Eq.refl 38) (by decide +kernel) ?_
    refine xg_iload_n dX12_causerOf_38 (Eq.refl 39) rfl ?_
    refine xg_iadd dX12_causerOf_39 (Eq.refl 40) ?_
    refine xg_lald (xt_12_0 h0).2 dX12_causerOf_40 (Eq.refl 41) ?_
    refine xg_l2i dX12_causerOf_41 (Eq.refl 42) ?_
    refine xg_callV_Z (kc := 0) (ks := 0) (st := []) (mX12_held hl x0 h0 (w32 (M1 (xr x0 0) (w32 (730 + x2)).toNat)) (w32_r _) M1 hM1) bX12_held xcl12 h0 rfl xq_1141 rfl (by decide) rfl (by decide) dX12_causerOf_42 (Eq.refl 45) rfl (by decide) (by decide) ?_
    intro z2 M3 hz2 hM3
    refine xg_if_eq (tgt := 54) dX12_causerOf_45 (Eq.refl 48) (by decide) (B01.r hz2) ?_ ?_
    · refine xg_aload_n dX12_causerOf_54 (Eq.refl 55) rfl ?_
      refine xg_aload_n dX12_causerOf_55 (Eq.refl 56) rfl ?_
      refine xg_getR (k := 0) xcl12 h0 rfl xq_122 rfl (xt_12_0 h0).1 dX12_causerOf_56 (Eq.refl 59) ?_
      refine xg_sipush dX12_causerOf_59 (Eq.refl 62) (by decide +kernel) ?_
      refine xg_iload_n dX12_causerOf_62 (Eq.refl 63) rfl ?_
      refine xg_iadd dX12_causerOf_63 (Eq.refl 64) ?_
      refine xg_lald (xt_12_0 h0).2 dX12_causerOf_64 (Eq.refl 65) ?_
      refine xg_l2i dX12_causerOf_65 (Eq.refl 66) ?_
      refine xg_callV_Z (kc := 0) (ks := 0) (st := []) (mX12_held hl x0 h0 (w32 (M3 (xr x0 0) (w32 (750 + x2)).toNat)) (w32_r _) M3 hM3) bX12_held xcl12 h0 rfl xq_1141 rfl (by decide) rfl (by decide) dX12_causerOf_66 (Eq.refl 69) rfl (by decide) (by decide) ?_
      intro z4 M5 hz4 hM5
      refine xg_if_ne (tgt := 80) dX12_causerOf_69 (Eq.refl 72) (by decide) (B01.r hz4) ?_ ?_
      · refine xg_aload_n dX12_causerOf_72 (Eq.refl 73) rfl ?_
        refine xg_iload_n dX12_causerOf_73 (Eq.refl 74) rfl ?_
        refine xg_callV_Z (kc := 0) (ks := 0) (st := []) (mX12_shortOf hl x0 h0 x2 h2 M5 hM5) bX12_shortOf xcl12 h0 rfl xq_1145 rfl (by decide) rfl (by decide) dX12_causerOf_74 (Eq.refl 77) rfl (by decide) (by decide) ?_
        intro z6 M7 hz6 hM7
        refine xg_if_ne (tgt := 86) dX12_causerOf_77 (Eq.refl 80) (by decide) (B01.r hz6) ?_ ?_
        · exact xg_jump (gX12_causerOf_80 hl x0 h0 x2 h2 M7 hM7) (xsb_s (xsb_n (xsb_s (xsb_n xsb_0)))) (by decide) (by decide)
        · refine xg_aload_n dX12_causerOf_86 (Eq.refl 87) rfl ?_
          refine xg_aload_n dX12_causerOf_87 (Eq.refl 88) rfl ?_
          refine xg_iload_n dX12_causerOf_88 (Eq.refl 89) rfl ?_
          refine xg_callV_I (kc := 0) (ks := 0) (st := [.ref x0]) (mX12_deliverer hl x0 h0 x2 h2 M7 hM7) bX12_deliverer xcl12 h0 rfl xq_493 rfl (by decide) rfl (Nat.le_of_ble_eq_true rfl) dX12_causerOf_89 (Eq.refl 92) rfl (by decide) (by decide) ?_
          intro z8 M9 hz8 hM9
          refine xg_aload_n dX12_causerOf_92 (Eq.refl 93) rfl ?_
          refine xg_iload_n dX12_causerOf_93 (Eq.refl 94) rfl ?_
          refine xg_callV_I (kc := 0) (ks := 0) (st := [iv z8, .ref x0]) (mX12_paper hl x0 h0 x2 h2 M9 hM9) bX12_paper xcl12 h0 rfl xq_842 rfl (by decide) rfl (Nat.le_of_ble_eq_true rfl) dX12_causerOf_94 (Eq.refl 97) rfl (by decide) (by decide) ?_
          intro z10 M11 hz10 hM11
          refine xg_callV_I (kc := 0) (ks := 0) (st := []) (mX12_chained hl x0 h0 z8 hz8 z10 hz10 M11 hM11) bX12_chained xcl12 h0 rfl xq_1153 rfl (by decide) rfl (by decide) dX12_causerOf_97 (Eq.refl 100) rfl (by decide) (by decide) ?_
          intro z12 M13 hz12 hM13
          refine xg_istore_n (ls2 := [some (.ref x0), none, some (iv x2), some (iv z12)]) dX12_causerOf_100 (Eq.refl 101) (by decide) rfl ?_
          refine xg_iload_n dX12_causerOf_101 (Eq.refl 102) rfl ?_
          refine xg_if_ge (tgt := 111) dX12_causerOf_102 (Eq.refl 105) (by decide) hz12 ?_ ?_
          · refine xg_iload_n dX12_causerOf_111 (Eq.refl 112) rfl ?_
            refine xg_istore_n (ls2 := [some (.ref x0), none, some (iv z12), some (iv z12)]) dX12_causerOf_112 (Eq.refl 113) (by decide) rfl ?_
            refine xg_goto (tgt := 23) dX12_causerOf_113 (by decide) ?_
            exact xg_jump (ih z12 hz12 M13 hM13) (xsb_s (xsb_n (xsb_s (xsb_n xsb_0)))) (by decide) (by decide)
          · refine xg_aload_n dX12_causerOf_105 (Eq.refl 106) rfl ?_
            refine xg_iload_n dX12_causerOf_106 (Eq.refl 107) rfl ?_
            refine xg_callV_I (kc := 0) (ks := 0) (st := []) (mX12_deliverer hl x0 h0 x2 h2 M13 hM13) bX12_deliverer xcl12 h0 rfl xq_493 rfl (by decide) rfl (by decide) dX12_causerOf_107 (Eq.refl 110) rfl (by decide) (by decide) ?_
            intro z14 M15 hz14 hM15
            exact xg_iret rfl dX12_causerOf_110 rfl hM15 hz14
      · exact xg_jump (gX12_causerOf_80 hl x0 h0 x2 h2 M5 hM5) (xsb_s (xsb_n (xsb_s (xsb_n xsb_0)))) (by decide) (by decide)
    · refine xg_aload_n dX12_causerOf_48 (Eq.refl 49) rfl ?_
      refine xg_iload_n dX12_causerOf_49 (Eq.refl 50) rfl ?_
      refine xg_callV_I (kc := 0) (ks := 0) (st := []) (mX12_deliverer hl x0 h0 x2 h2 M3 hM3) bX12_deliverer xcl12 h0 rfl xq_493 rfl (by decide) rfl (by decide) dX12_causerOf_50 (Eq.refl 53) rfl (by decide) (by decide) ?_
      intro z16 M17 hz16 hM17
      exact xg_iret rfl dX12_causerOf_53 rfl hM17 hz16
theorem gX12_causerOf_4 {l : Launch} {G : xG} (hl : l.stackTraces = false) (x0 : Nat) (h0 : xOb 12 x0) (x2 : Int) (h2 : R32 x2) : ∀ (n : Nat) (x3 : Int) (_ : R32 x3) (M : xM) (_ : xcan M), Gv l G uX12_causerOf 3 0 0 0 4 [some (.ref x0), none, some (iv x2), some (iv x3)] [] M (fX12_causerOf_4 x0 x2 n x3 M) := by
  intro n; induction n with
  | zero => intro x3 h3 M hM; exact xg_none
  | succ n ih =>
    intro x3 h3 M hM
    rw [fX12_causerOf_4]
    refine xg_iload_n dX12_causerOf_4 (Eq.refl 5) rfl ?_
    refine xg_bipush dX12_causerOf_5 (Eq.refl 7) (by decide +kernel) ?_
    refine xg_icmp_ge (tgt := 23) dX12_causerOf_7 (Eq.refl 10) (by decide) h3 (by decide) ?_ ?_
    · exact xg_jump (gX12_causerOf_23 hl x0 h0 xN x2 h2 M hM) (xsb_s (xsb_n (xsb_s (xsb_n xsb_0)))) (by decide) (by decide)
    · refine xg_aload_n dX12_causerOf_10 (Eq.refl 11) rfl ?_
      refine xg_getR (k := 6) xcl12 h0 rfl xq_126 rfl (xt_12_6 h0).1 dX12_causerOf_11 (Eq.refl 14) ?_
      refine xg_iload_n dX12_causerOf_14 (Eq.refl 15) rfl ?_
      refine xg_iconst dX12_causerOf_15 (Eq.refl 16) ?_
      refine xg_iast (xt_12_6 h0).2 dX12_causerOf_16 (Eq.refl 17) hM (by decide) ?_
      intro M1 hM1
      refine xg_iinc (ls2 := [some (.ref x0), none, some (iv x2), some (iv (w32 (x3 + 1)))]) dX12_causerOf_17 (Eq.refl 20) rfl (by decide) rfl ?_
      refine xg_goto (tgt := 4) dX12_causerOf_20 (by decide) ?_
      exact xg_jump (ih (w32 (x3 + 1)) (w32_r _) M1 hM1) (xsb_s (xsb_n (xsb_s (xsb_s xsb_0)))) (by decide) (by decide)
theorem mX12_causerOf {l : Launch} {G : xG} (hl : l.stackTraces = false) (x0 : Nat) (h0 : xOb 12 x0) (x1 : Int) (h1 : R32 x1) (M : xM) (hM : xcan M) : Cm l G yX12_causerOf cX12_causerOf 4 (some .int) 3 0 0 0 [.ref x0, iv x1] M (fX12_causerOf x0 x1 M) := by
  refine xcm_of (u := uX12_causerOf) (ls := [some (.ref x0), some (iv x1), none, none]) 2 hl rfl (by decide +kernel) (Nat.le_of_ble_eq_true rfl) rfl ?_
  unfold fX12_causerOf
  refine xg_iload_n dX12_causerOf_0 (Eq.refl 1) rfl ?_
  refine xg_istore_n (ls2 := [some (.ref x0), some (iv x1), some (iv x1), none]) dX12_causerOf_1 (Eq.refl 2) (by decide) rfl ?_
  refine xg_iconst dX12_causerOf_2 (Eq.refl 3) ?_
  refine xg_istore_n (ls2 := [some (.ref x0), some (iv x1), some (iv x1), some (iv 0)]) dX12_causerOf_3 (Eq.refl 4) (by decide) rfl ?_
  exact xg_jump (gX12_causerOf_4 hl x0 h0 x1 h1 xN 0 (by decide) M hM) (xsb_s (xsb_n (xsb_s (xsb_s xsb_0)))) (by decide) (by decide)
abbrev uX12_owes : xU := (RX12, cX12_owes, 5, (some .int), [], "owes")
theorem bX12_owes : xYV yX12_owes cX12_owes 5 (some .int) 3 := ⟨xq_1134, xq_1135, xq_5, xq_1136, ⟨by decide +kernel, by decide +kernel, by decide +kernel⟩, by decide⟩
theorem mX12_owes {l : Launch} {G : xG} (hl : l.stackTraces = false) (x0 : Nat) (h0 : xOb 12 x0) (x1 : Int) (h1 : R32 x1) (x2 : Int) (h2 : R32 x2) (x3 : Int) (h3 : R64 x3) (M : xM) (hM : xcan M) : Cm l G yX12_owes cX12_owes 5 (some .int) 1 0 0 0 [.ref x0, iv x1, iv x2, jv x3] M (fX12_owes x0 x1 x2 x3 M) := by
  refine xcm_of (u := uX12_owes) (ls := [some (.ref x0), some (iv x1), some (iv x2), some (jv x3), none]) 0 hl rfl (by decide +kernel) (Nat.le_of_ble_eq_true rfl) rfl ?_
  unfold fX12_owes
  refine xg_aload_n dX12_owes_0 (Eq.refl 1) rfl ?_
  refine xg_getR (k := 0) xcl12 h0 rfl xq_122 rfl (xt_12_0 h0).1 dX12_owes_1 (Eq.refl 4) ?_
  refine xg_bipush dX12_owes_4 (Eq.refl 6) (by decide +kernel) ?_
  refine xg_iload_n dX12_owes_6 (Eq.refl 7) rfl ?_
  refine xg_iadd dX12_owes_7 (Eq.refl 8) ?_
  refine xg_dup2 dX12_owes_8 (Eq.refl 9) rfl rfl ?_
  refine xg_lald (xt_12_0 h0).2 dX12_owes_9 (Eq.refl 10) ?_
  refine xg_lload_n dX12_owes_10 (Eq.refl 11) rfl ?_
  refine xg_lsub dX12_owes_11 (Eq.refl 12) ?_
  refine xg_last (xt_12_0 h0).2 dX12_owes_12 (Eq.refl 13) hM (w64_r _) ?_
  intro M1 hM1
  refine xg_aload_n dX12_owes_13 (Eq.refl 14) rfl ?_
  refine xg_getR (k := 0) xcl12 h0 rfl xq_122 rfl (xt_12_0 h0).1 dX12_owes_14 (Eq.refl 17) ?_
  refine xg_bipush dX12_owes_17 (Eq.refl 19) (by decide +kernel) ?_
  refine xg_iload_n dX12_owes_19 (Eq.refl 20) rfl ?_
  refine xg_iadd dX12_owes_20 (Eq.refl 21) ?_
  refine xg_dup2 dX12_owes_21 (Eq.refl 22) rfl rfl ?_
  refine xg_lald (xt_12_0 h0).2 dX12_owes_22 (Eq.refl 23) ?_
  refine xg_lload_n dX12_owes_23 (Eq.refl 24) rfl ?_
  refine xg_ladd dX12_owes_24 (Eq.refl 25) ?_
  refine xg_last (xt_12_0 h0).2 dX12_owes_25 (Eq.refl 26) hM1 (w64_r _) ?_
  intro M2 hM2
  refine xg_iconst dX12_owes_26 (Eq.refl 27) ?_
  exact xg_iret rfl dX12_owes_27 rfl hM2 (by decide)
abbrev uX12_fines : xU := (RX12, cX12_fines, 6, (some .int), [], "fines")
theorem bX12_fines : xYV yX12_fines cX12_fines 6 (some .int) 4 := ⟨xq_1158, xq_1159, xq_5, xq_1160, ⟨by decide +kernel, by decide +kernel, by decide +kernel⟩, by decide⟩
theorem mX12_fines {l : Launch} {G : xG} (hl : l.stackTraces = false) (x0 : Nat) (h0 : xOb 12 x0) (x1 : Int) (h1 : R32 x1) (x2 : Int) (h2 : R32 x2) (x3 : Int) (h3 : R64 x3) (x5 : Int) (h5 : R32 x5) (M : xM) (hM : xcan M) : Cm l G yX12_fines cX12_fines 6 (some .int) 2 0 0 0 [.ref x0, iv x1, iv x2, jv x3, iv x5] M (fX12_fines x0 x1 x2 x3 x5 M) := by
  refine xcm_of (u := uX12_fines) (ls := [some (.ref x0), some (iv x1), some (iv x2), some (jv x3), none, some (iv x5)]) 0 hl rfl (by decide +kernel) (Nat.le_of_ble_eq_true rfl) rfl ?_
  unfold fX12_fines
  refine xg_iload_n dX12_fines_0 (Eq.refl 1) rfl ?_
  refine xg_iload_n dX12_fines_1 (Eq.refl 2) rfl ?_
  refine xg_icmp_ne (tgt := 7) dX12_fines_2 (Eq.refl 5) (by decide) h1 h2 ?_ ?_
  · refine xg_iconst dX12_fines_5 (Eq.refl 6) ?_
    exact xg_iret rfl dX12_fines_6 rfl hM (by decide)
  · refine xg_aload_n dX12_fines_7 (Eq.refl 8) rfl ?_
    refine xg_getR (k := 3) xcl12 h0 rfl xq_124 rfl (xt_12_3 h0).1 dX12_fines_8 (Eq.refl 11) ?_
    refine xg_iload_n dX12_fines_11 (Eq.refl 12) rfl ?_
    refine xg_dup2 dX12_fines_12 (Eq.refl 13) rfl rfl ?_
    refine xg_iald (xt_12_3 h0).2 dX12_fines_13 (Eq.refl 14) ?_
    refine xg_iconst dX12_fines_14 (Eq.refl 15) ?_
    refine xg_iadd dX12_fines_15 (Eq.refl 16) ?_
    refine xg_iast (xt_12_3 h0).2 dX12_fines_16 (Eq.refl 17) hM (w32_r _) ?_
    intro M1 hM1
    refine xg_aload_n dX12_fines_17 (Eq.refl 18) rfl ?_
    refine xg_getR (k := 3) xcl12 h0 rfl xq_124 rfl (xt_12_3 h0).1 dX12_fines_18 (Eq.refl 21) ?_
    refine xg_iload_n dX12_fines_21 (Eq.refl 22) rfl ?_
    refine xg_dup2 dX12_fines_22 (Eq.refl 23) rfl rfl ?_
    refine xg_iald (xt_12_3 h0).2 dX12_fines_23 (Eq.refl 24) ?_
    refine xg_iconst dX12_fines_24 (Eq.refl 25) ?_
    refine xg_iadd dX12_fines_25 (Eq.refl 26) ?_
    refine xg_iast (xt_12_3 h0).2 dX12_fines_26 (Eq.refl 27) hM1 (w32_r _) ?_
    intro M2 hM2
    refine xg_aload_n dX12_fines_27 (Eq.refl 28) rfl ?_
    refine xg_iload_n dX12_fines_28 (Eq.refl 29) rfl ?_
    refine xg_iload_n dX12_fines_29 (Eq.refl 30) rfl ?_
    refine xg_lload_n dX12_fines_30 (Eq.refl 31) rfl ?_
    refine xg_aload_n dX12_fines_31 (Eq.refl 32) rfl ?_
    refine xg_getR (k := 0) xcl12 h0 rfl xq_122 rfl (xt_12_0 h0).1 dX12_fines_32 (Eq.refl 35) ?_
    refine xg_sipush dX12_fines_35 (Eq.refl 38) (by decide +kernel) ?_
    refine xg_iload dX12_fines_38 (Eq.refl 40) rfl ?_
    refine xg_iadd dX12_fines_40 (Eq.refl 41) ?_
    refine xg_lald (xt_12_0 h0).2 dX12_fines_41 (Eq.refl 42) ?_
    refine xg_lmul dX12_fines_42 (Eq.refl 43) ?_
    refine xg_aload_n dX12_fines_43 (Eq.refl 44) rfl ?_
    refine xg_getR (k := 0) xcl12 h0 rfl xq_122 rfl (xt_12_0 h0).1 dX12_fines_44 (Eq.refl 47) ?_
    refine xg_sipush dX12_fines_47 (Eq.refl 50) (by decide +kernel) ?_
    refine xg_iload dX12_fines_50 (Eq.refl 52) rfl ?_
    refine xg_iadd dX12_fines_52 (Eq.refl 53) ?_
    refine xg_lald (xt_12_0 h0).2 dX12_fines_53 (Eq.refl 54) ?_
    refine xg_lmul dX12_fines_54 (Eq.refl 55) ?_
    refine xg_ldc2 (z := 10000) xq_1161 dX12_fines_55 (Eq.refl 58) (by decide +kernel) ?_
    refine xg_ldivk dX12_fines_58 (Eq.refl 59) (w64_r _) (by decide) ?_
    refine xg_lconst (z := 1) dX12_fines_59 (Eq.refl 60) rfl ?_
    refine xg_ladd dX12_fines_60 (Eq.refl 61) ?_
    refine xg_callV_I (kc := 0) (ks := 0) (st := []) (mX12_owes hl x0 h0 x1 h1 x2 h2 (w64 ((Int.tdiv (w64 ((w64 (x3 * (M2 (xr x0 0) (w32 (184 + x5)).toNat))) * (M2 (xr x0 0) (w32 (188 + x5)).toNat))) 10000) + 1)) (w64_r _) M2 hM2) bX12_owes xcl12 h0 rfl xq_1133 rfl (by decide) rfl (by decide) dX12_fines_61 (Eq.refl 64) rfl (by decide) (by decide) ?_
    intro z3 M4 hz3 hM4
    exact xg_iret rfl dX12_fines_64 rfl hM4 hz3
abbrev uX12_fineOf : xU := (RX12, cX12_fineOf, 3, (some .int), [], "fineOf")
theorem bX12_fineOf : xYV yX12_fineOf cX12_fineOf 3 (some .int) 1 := ⟨xq_1138, xq_1139, xq_5, xq_1140, ⟨by decide +kernel, by decide +kernel, by decide +kernel⟩, by decide⟩
theorem gX12_fineOf_73 {l : Launch} {G : xG} (hl : l.stackTraces = false) (x0 : Nat) (h0 : xOb 12 x0) (x1 : Int) (h1 : R32 x1) (s0 : Int) (hs0 : R32 s0) (s1 : Int) (hs1 : R32 s1) (s2 : Nat) (hs2 : xOb 12 s2) (M : xM) (hM : xcan M) : Gv l G uX12_fineOf 4 0 0 0 73 [some (.ref x0), some (iv x1), none] [iv s0, iv s1, .ref s2] M (fX12_fineOf_73 x0 x1 s0 s1 s2 M) := by
  unfold fX12_fineOf_73
  refine xg_aload_n dX12_fineOf_73 (Eq.refl 74) rfl ?_
  refine xg_getR (k := 0) xcl12 h0 rfl xq_122 rfl (xt_12_0 h0).1 dX12_fineOf_74 (Eq.refl 77) ?_
  refine xg_sipush dX12_fineOf_77 (Eq.refl 80) (by decide +kernel) ?_
  refine xg_iload_n dX12_fineOf_80 (Eq.refl 81) rfl ?_
  refine xg_iadd dX12_fineOf_81 (Eq.refl 82) ?_
  refine xg_lald (xt_12_0 h0).2 dX12_fineOf_82 (Eq.refl 83) ?_
  refine xg_aload_n dX12_fineOf_83 (Eq.refl 84) rfl ?_
  refine xg_iload_n dX12_fineOf_84 (Eq.refl 85) rfl ?_
  refine xg_callV_I (kc := 0) (ks := 0) (st := [jv (M (xr x0 0) (w32 (770 + x1)).toNat), iv s0, iv s1, .ref s2]) (mX12_paper hl x0 h0 x1 h1 M hM) bX12_paper xcl12 h0 rfl xq_842 rfl (by decide) rfl (Nat.le_of_ble_eq_true rfl) dX12_fineOf_85 (Eq.refl 88) rfl (by decide) (by decide) ?_
  intro z1 M2 hz1 hM2
  refine xg_callV_I (kc := 0) (ks := 0) (st := []) (mX12_fines hl s2 hs2 s1 hs1 s0 hs0 (M (xr x0 0) (w32 (770 + x1)).toNat) (hM.aj (xt_12_0 h0).2) z1 hz1 M2 hM2) bX12_fines xcl12 hs2 rfl xq_1157 rfl (by decide) rfl (by decide) dX12_fineOf_88 (Eq.refl 91) rfl (by decide) (by decide) ?_
  intro z3 M4 hz3 hM4
  exact xg_iret rfl dX12_fineOf_91 rfl hM4 hz3
theorem gX12_fineOf_49 {l : Launch} {G : xG} (hl : l.stackTraces = false) (x0 : Nat) (h0 : xOb 12 x0) (x1 : Int) (h1 : R32 x1) (s0 : Int) (hs0 : B01 s0) (M : xM) (hM : xcan M) : Gv l G uX12_fineOf 4 0 0 0 49 [some (.ref x0), some (iv x1), none] [iv s0] M (fX12_fineOf_49 x0 x1 s0 M) := by
  unfold fX12_fineOf_49
  refine xg_istore_n (ls2 := [some (.ref x0), some (iv x1), some (iv s0)]) dX12_fineOf_49 (Eq.refl 50) (by decide) rfl ?_
  refine xg_aload_n dX12_fineOf_50 (Eq.refl 51) rfl ?_
  refine xg_aload_n dX12_fineOf_51 (Eq.refl 52) rfl ?_
  refine xg_iload_n dX12_fineOf_52 (Eq.refl 53) rfl ?_
  refine xg_callV_I (kc := 0) (ks := 0) (st := [.ref x0]) (mX12_causerOf hl x0 h0 x1 h1 M hM) bX12_causerOf xcl12 h0 rfl xq_1149 rfl (by decide) rfl (Nat.le_of_ble_eq_true rfl) dX12_fineOf_53 (Eq.refl 56) rfl (by decide) (by decide) ?_
  intro z1 M2 hz1 hM2
  refine xg_iload_n dX12_fineOf_56 (Eq.refl 57) rfl ?_
  refine xg_if_eq (tgt := 68) dX12_fineOf_57 (Eq.refl 60) (by decide) (B01.r hs0) ?_ ?_
  · refine xg_aload_n dX12_fineOf_68 (Eq.refl 69) rfl ?_
    refine xg_iload_n dX12_fineOf_69 (Eq.refl 70) rfl ?_
    refine xg_callV_I (kc := 0) (ks := 0) (st := [iv z1, .ref x0]) (mX12_deliverer hl x0 h0 x1 h1 M2 hM2) bX12_deliverer xcl12 h0 rfl xq_493 rfl (by decide) rfl (Nat.le_of_ble_eq_true rfl) dX12_fineOf_70 (Eq.refl 73) rfl (by decide) (by decide) ?_
    intro z3 M4 hz3 hM4
    exact xg_jump (gX12_fineOf_73 hl x0 h0 x1 h1 z3 hz3 z1 hz1 x0 h0 M4 hM4) (xsb_s (xsb_s (xsb_n xsb_0))) (by decide) (by decide)
  · refine xg_aload_n dX12_fineOf_60 (Eq.refl 61) rfl ?_
    refine xg_iload_n dX12_fineOf_61 (Eq.refl 62) rfl ?_
    refine xg_callV_I (kc := 0) (ks := 0) (st := [iv z1, .ref x0]) (mX12_receiver hl x0 h0 x1 h1 M2 hM2) bX12_receiver xcl12 h0 rfl xq_497 rfl (by decide) rfl (Nat.le_of_ble_eq_true rfl) dX12_fineOf_62 (Eq.refl 65) rfl (by decide) (by decide) ?_
    intro z5 M6 hz5 hM6
    refine xg_goto (tgt := 73) dX12_fineOf_65 (by decide) ?_
    exact xg_jump (gX12_fineOf_73 hl x0 h0 x1 h1 z5 hz5 z1 hz1 x0 h0 M6 hM6) (xsb_s (xsb_s (xsb_n xsb_0))) (by decide) (by decide)
theorem gX12_fineOf_48 {l : Launch} {G : xG} (hl : l.stackTraces = false) (x0 : Nat) (h0 : xOb 12 x0) (x1 : Int) (h1 : R32 x1) (M : xM) (hM : xcan M) : Gv l G uX12_fineOf 4 0 0 0 48 [some (.ref x0), some (iv x1), none] [] M (fX12_fineOf_48 x0 x1 M) := by
  unfold fX12_fineOf_48
  refine xg_iconst dX12_fineOf_48 (Eq.refl 49) ?_
  exact xg_jump (gX12_fineOf_49 hl x0 h0 x1 h1 0 (by decide) M hM) (xsb_s (xsb_s (xsb_n xsb_0))) (by decide) (by decide)
theorem gX12_fineOf_44 {l : Launch} {G : xG} (hl : l.stackTraces = false) (x0 : Nat) (h0 : xOb 12 x0) (x1 : Int) (h1 : R32 x1) (M : xM) (hM : xcan M) : Gv l G uX12_fineOf 4 0 0 0 44 [some (.ref x0), some (iv x1), none] [] M (fX12_fineOf_44 x0 x1 M) := by
  unfold fX12_fineOf_44
  refine xg_iconst dX12_fineOf_44 (Eq.refl 45) ?_
  refine xg_goto (tgt := 49) dX12_fineOf_45 (by decide) ?_
  exact xg_jump (gX12_fineOf_49 hl x0 h0 x1 h1 1 (by decide) M hM) (xsb_s (xsb_s (xsb_n xsb_0))) (by decide) (by decide)
theorem mX12_fineOf {l : Launch} {G : xG} (hl : l.stackTraces = false) (x0 : Nat) (h0 : xOb 12 x0) (x1 : Int) (h1 : R32 x1) (M : xM) (hM : xcan M) : Cm l G yX12_fineOf cX12_fineOf 3 (some .int) 4 0 0 0 [.ref x0, iv x1] M (fX12_fineOf x0 x1 M) := by
  refine xcm_of (u := uX12_fineOf) (ls := [some (.ref x0), some (iv x1), none]) 1 hl rfl (by decide +kernel) (Nat.le_of_ble_eq_true rfl) rfl ?_
  unfold fX12_fineOf
  refine xg_aload_n dX12_fineOf_0 (Eq.refl 1) rfl ?_
  refine xg_aload_n dX12_fineOf_1 (Eq.refl 2) rfl ?_
  refine xg_getR (k := 0) xcl12 h0 rfl xq_122 rfl (xt_12_0 h0).1 dX12_fineOf_2 (Eq.refl 5) ?_
  refine xg_sipush dX12_fineOf_5 (Eq.refl 8) (by decide +kernel) ?_
  refine xg_iload_n dX12_fineOf_8 (Eq.refl 9) rfl ?_
  refine xg_iadd dX12_fineOf_9 (Eq.refl 10) ?_
  refine xg_lald (xt_12_0 h0).2 dX12_fineOf_10 (Eq.refl 11) ?_
  refine xg_l2i dX12_fineOf_11 (Eq.refl 12) ?_
  refine xg_callV_Z (kc := 0) (ks := 0) (st := []) (mX12_held hl x0 h0 (w32 (M (xr x0 0) (w32 (730 + x1)).toNat)) (w32_r _) M hM) bX12_held xcl12 h0 rfl xq_1141 rfl (by decide) rfl (by decide) dX12_fineOf_12 (Eq.refl 15) rfl (by decide) (by decide) ?_
  intro z1 M2 hz1 hM2
  refine xg_if_ne (tgt := 44) dX12_fineOf_15 (Eq.refl 18) (by decide) (B01.r hz1) ?_ ?_
  · refine xg_aload_n dX12_fineOf_18 (Eq.refl 19) rfl ?_
    refine xg_aload_n dX12_fineOf_19 (Eq.refl 20) rfl ?_
    refine xg_getR (k := 0) xcl12 h0 rfl xq_122 rfl (xt_12_0 h0).1 dX12_fineOf_20 (Eq.refl 23) ?_
    refine xg_sipush dX12_fineOf_23 (Eq.refl 26) (by decide +kernel) ?_
    refine xg_iload_n dX12_fineOf_26 (Eq.refl 27) rfl ?_
    refine xg_iadd dX12_fineOf_27 (Eq.refl 28) ?_
    refine xg_lald (xt_12_0 h0).2 dX12_fineOf_28 (Eq.refl 29) ?_
    refine xg_l2i dX12_fineOf_29 (Eq.refl 30) ?_
    refine xg_callV_Z (kc := 0) (ks := 0) (st := []) (mX12_held hl x0 h0 (w32 (M2 (xr x0 0) (w32 (750 + x1)).toNat)) (w32_r _) M2 hM2) bX12_held xcl12 h0 rfl xq_1141 rfl (by decide) rfl (by decide) dX12_fineOf_30 (Eq.refl 33) rfl (by decide) (by decide) ?_
    intro z3 M4 hz3 hM4
    refine xg_if_ne (tgt := 48) dX12_fineOf_33 (Eq.refl 36) (by decide) (B01.r hz3) ?_ ?_
    · refine xg_aload_n dX12_fineOf_36 (Eq.refl 37) rfl ?_
      refine xg_iload_n dX12_fineOf_37 (Eq.refl 38) rfl ?_
      refine xg_callV_Z (kc := 0) (ks := 0) (st := []) (mX12_shortOf hl x0 h0 x1 h1 M4 hM4) bX12_shortOf xcl12 h0 rfl xq_1145 rfl (by decide) rfl (by decide) dX12_fineOf_38 (Eq.refl 41) rfl (by decide) (by decide) ?_
      intro z5 M6 hz5 hM6
      refine xg_if_eq (tgt := 48) dX12_fineOf_41 (Eq.refl 44) (by decide) (B01.r hz5) ?_ ?_
      · exact xg_jump (gX12_fineOf_48 hl x0 h0 x1 h1 M6 hM6) (xsb_s (xsb_s (xsb_n xsb_0))) (by decide) (by decide)
      · exact xg_jump (gX12_fineOf_44 hl x0 h0 x1 h1 M6 hM6) (xsb_s (xsb_s (xsb_n xsb_0))) (by decide) (by decide)
    · exact xg_jump (gX12_fineOf_48 hl x0 h0 x1 h1 M4 hM4) (xsb_s (xsb_s (xsb_n xsb_0))) (by decide) (by decide)
  · exact xg_jump (gX12_fineOf_44 hl x0 h0 x1 h1 M2 hM2) (xsb_s (xsb_s (xsb_n xsb_0))) (by decide) (by decide)
abbrev uX12_note : xU := (RX12, cX12_note, 4, none, [], "note")
theorem bX12_note : xYV yX12_note cX12_note 4 none 1 := ⟨xq_1109, xq_1110, xq_5, xq_1111, ⟨by decide +kernel, by decide +kernel, by decide +kernel⟩, by decide⟩
theorem gX12_note_168 {l : Launch} {G : xG} (hl : l.stackTraces = false) (rc73 : Int → xM → xO) (x0 : Nat) (h0 : xOb 12 x0) (x1 : Int) (h1 : R32 x1) (x2 : Int) (h2 : R32 x2) (s0 : Int) (hs0 : R64 s0) (s1 : Int) (hs1 : R32 s1) (s2 : Nat) (hs2 : xAn 1 1550 s2) (hr73 : ∀ w2 : Int, R32 w2 → ∀ M : xM, xcan M → Gv l G uX12_note 2 3 0 0 73 [some (.ref x0), some (iv x1), some (iv w2), none] [] M (rc73 w2 M)) (M : xM) (hM : xcan M) : Gv l G uX12_note 2 3 0 0 168 [some (.ref x0), some (iv x1), some (iv x2), none] [jv s0, iv s1, .ref s2] M (fX12_note_168 rc73 x0 x1 x2 s0 s1 s2 M) := by
  unfold fX12_note_168
  refine xg_last hs2 dX12_note_168 (Eq.refl 169) hM hs0 ?_
  intro M1 hM1
  refine xg_iinc (ls2 := [some (.ref x0), some (iv x1), some (iv (w32 (x2 + 1))), none]) dX12_note_169 (Eq.refl 172) rfl (by decide) rfl ?_
  refine xg_goto (tgt := 73) dX12_note_172 (by decide) ?_
  exact xg_jump (hr73 (w32 (x2 + 1)) (w32_r _) M1 hM1) (xsb_s (xsb_s (xsb_s (xsb_n xsb_0)))) (by decide) (by decide)
theorem gX12_note_135 {l : Launch} {G : xG} (hl : l.stackTraces = false) (rc73 : Int → xM → xO) (x0 : Nat) (h0 : xOb 12 x0) (x1 : Int) (h1 : R32 x1) (x2 : Int) (h2 : R32 x2) (s0 : Int) (hs0 : B01 s0) (hr73 : ∀ w2 : Int, R32 w2 → ∀ M : xM, xcan M → Gv l G uX12_note 2 3 0 0 73 [some (.ref x0), some (iv x1), some (iv w2), none] [] M (rc73 w2 M)) (M : xM) (hM : xcan M) : Gv l G uX12_note 2 3 0 0 135 [some (.ref x0), some (iv x1), some (iv x2), none] [iv s0] M (fX12_note_135 rc73 x0 x1 x2 s0 M) := by
  unfold fX12_note_135
  refine xg_istore_n (ls2 := [some (.ref x0), some (iv x1), some (iv x2), some (iv s0)]) dX12_note_135 (Eq.refl 136) (by decide) rfl ?_
  refine xg_aload_n dX12_note_136 (Eq.refl 137) rfl ?_
  refine xg_getR (k := 0) xcl12 h0 rfl xq_122 rfl (xt_12_0 h0).1 dX12_note_137 (Eq.refl 140) ?_
  refine xg_sipush dX12_note_140 (Eq.refl 143) (by decide +kernel) ?_
  refine xg_bipush dX12_note_143 (Eq.refl 145) (by decide +kernel) ?_
  refine xg_iload_n dX12_note_145 (Eq.refl 146) rfl ?_
  refine xg_imul dX12_note_146 (Eq.refl 147) ?_
  refine xg_iadd dX12_note_147 (Eq.refl 148) ?_
  refine xg_iload_n dX12_note_148 (Eq.refl 149) rfl ?_
  refine xg_iadd dX12_note_149 (Eq.refl 150) ?_
  refine xg_iload_n dX12_note_150 (Eq.refl 151) rfl ?_
  refine xg_if_eq (tgt := 167) dX12_note_151 (Eq.refl 154) (by decide) (B01.r hs0) ?_ ?_
  · refine xg_lconst (z := 0) dX12_note_167 (Eq.refl 168) rfl ?_
    exact xg_jump (gX12_note_168 hl rc73 x0 h0 x1 h1 x2 h2 0 (by decide) (w32 ((w32 (1340 + (w32 (20 * x1)))) + x2)) (w32_r _) (xr x0 0) (xt_12_0 h0).2 hr73 M hM) (xsb_s (xsb_s (xsb_s (xsb_n xsb_0)))) (by decide) (by decide)
  · refine xg_aload_n dX12_note_154 (Eq.refl 155) rfl ?_
    refine xg_getR (k := 0) xcl12 h0 rfl xq_122 rfl (xt_12_0 h0).1 dX12_note_155 (Eq.refl 158) ?_
    refine xg_sipush dX12_note_158 (Eq.refl 161) (by decide +kernel) ?_
    refine xg_iload_n dX12_note_161 (Eq.refl 162) rfl ?_
    refine xg_iadd dX12_note_162 (Eq.refl 163) ?_
    refine xg_lald (xt_12_0 h0).2 dX12_note_163 (Eq.refl 164) ?_
    refine xg_goto (tgt := 168) dX12_note_164 (by decide) ?_
    exact xg_jump (gX12_note_168 hl rc73 x0 h0 x1 h1 x2 h2 (M (xr x0 0) (w32 (770 + x2)).toNat) (hM.aj (xt_12_0 h0).2) (w32 ((w32 (1340 + (w32 (20 * x1)))) + x2)) (w32_r _) (xr x0 0) (xt_12_0 h0).2 hr73 M hM) (xsb_s (xsb_s (xsb_s (xsb_n xsb_0)))) (by decide) (by decide)
theorem gX12_note_134 {l : Launch} {G : xG} (hl : l.stackTraces = false) (rc73 : Int → xM → xO) (x0 : Nat) (h0 : xOb 12 x0) (x1 : Int) (h1 : R32 x1) (x2 : Int) (h2 : R32 x2) (hr73 : ∀ w2 : Int, R32 w2 → ∀ M : xM, xcan M → Gv l G uX12_note 2 3 0 0 73 [some (.ref x0), some (iv x1), some (iv w2), none] [] M (rc73 w2 M)) (M : xM) (hM : xcan M) : Gv l G uX12_note 2 3 0 0 134 [some (.ref x0), some (iv x1), some (iv x2), none] [] M (fX12_note_134 rc73 x0 x1 x2 M) := by
  unfold fX12_note_134
  refine xg_iconst dX12_note_134 (Eq.refl 135) ?_
  exact xg_jump (gX12_note_135 hl rc73 x0 h0 x1 h1 x2 h2 0 (by decide) hr73 M hM) (xsb_s (xsb_s (xsb_s (xsb_n xsb_0)))) (by decide) (by decide)
theorem gX12_note_73 {l : Launch} {G : xG} (hl : l.stackTraces = false) (x0 : Nat) (h0 : xOb 12 x0) (x1 : Int) (h1 : R32 x1) : ∀ (n : Nat) (x2 : Int) (_ : R32 x2) (M : xM) (_ : xcan M), Gv l G uX12_note 2 3 0 0 73 [some (.ref x0), some (iv x1), some (iv x2), none] [] M (fX12_note_73 x0 x1 n x2 M) := by
  intro n; induction n with
  | zero => intro x2 h2 M hM; exact xg_none
  | succ n ih =>
    intro x2 h2 M hM
    rw [fX12_note_73]
    refine xg_iload_n dX12_note_73 (Eq.refl 74) rfl ?_
    refine xg_i2l dX12_note_74 (Eq.refl 75) h2 ?_
    refine xg_aload_n dX12_note_75 (Eq.refl 76) rfl ?_
    refine xg_getR (k := 0) xcl12 h0 rfl xq_122 rfl (xt_12_0 h0).1 dX12_note_76 (Eq.refl 79) ?_
    refine xg_sipush dX12_note_79 (Eq.refl 82) (by decide +kernel) ?_
    refine xg_laldk (k := 1543) (xt_12_0 h0).2 dX12_note_82 (Eq.refl 83) rfl (by decide) ?_
    refine xg_lif_ge (tgt := 175) dX12_note_83 (Eq.refl 84) dX12_note_84 (Eq.refl 87) (by decide) (R32.j h2) (hM.aj (xt_12_0 h0).2) ?_ ?_
    · exact xg_vret rfl dX12_note_175 rfl hM
    · refine xg_aload_n dX12_note_87 (Eq.refl 88) rfl ?_
      refine xg_getR (k := 0) xcl12 h0 rfl xq_122 rfl (xt_12_0 h0).1 dX12_note_88 (Eq.refl 91) ?_
      refine xg_sipush dX12_note_91 (Eq.refl 94) (by decide +kernel) ?_
      refine xg_iload_n dX12_note_94 (Eq.refl 95) rfl ?_
      refine xg_iadd dX12_note_95 (Eq.refl 96) ?_
      refine xg_lald (xt_12_0 h0).2 dX12_note_96 (Eq.refl 97) ?_
      refine xg_lconst (z := 1) dX12_note_97 (Eq.refl 98) rfl ?_
      refine xg_lif_eq (tgt := 134) dX12_note_98 (Eq.refl 99) dX12_note_99 (Eq.refl 102) (by decide) (hM.aj (xt_12_0 h0).2) (by decide) ?_ ?_
      · exact xg_jump (gX12_note_134 hl (fX12_note_73 x0 x1 n) x0 h0 x1 h1 x2 h2 ih M hM) (xsb_s (xsb_s (xsb_s (xsb_n xsb_0)))) (by decide) (by decide)
      · refine xg_aload_n dX12_note_102 (Eq.refl 103) rfl ?_
        refine xg_iload_n dX12_note_103 (Eq.refl 104) rfl ?_
        refine xg_callV_Z (kc := 0) (ks := 0) (st := []) (mX12_due hl x0 h0 x2 h2 M hM) bX12_due xcl12 h0 rfl xq_822 rfl (by decide) rfl (by decide) dX12_note_104 (Eq.refl 107) rfl (by decide) (by decide) ?_
        intro z1 M2 hz1 hM2
        refine xg_if_eq (tgt := 134) dX12_note_107 (Eq.refl 110) (by decide) (B01.r hz1) ?_ ?_
        · exact xg_jump (gX12_note_134 hl (fX12_note_73 x0 x1 n) x0 h0 x1 h1 x2 h2 ih M2 hM2) (xsb_s (xsb_s (xsb_s (xsb_n xsb_0)))) (by decide) (by decide)
        · refine xg_aload_n dX12_note_110 (Eq.refl 111) rfl ?_
          refine xg_iload_n dX12_note_111 (Eq.refl 112) rfl ?_
          refine xg_callV_I (kc := 0) (ks := 0) (st := []) (mX12_paper hl x0 h0 x2 h2 M2 hM2) bX12_paper xcl12 h0 rfl xq_842 rfl (by decide) rfl (by decide) dX12_note_112 (Eq.refl 115) rfl (by decide) (by decide) ?_
          intro z3 M4 hz3 hM4
          refine xg_i2l dX12_note_115 (Eq.refl 116) hz3 ?_
          refine xg_aload_n dX12_note_116 (Eq.refl 117) rfl ?_
          refine xg_getR (k := 0) xcl12 h0 rfl xq_122 rfl (xt_12_0 h0).1 dX12_note_117 (Eq.refl 120) ?_
          refine xg_sipush dX12_note_120 (Eq.refl 123) (by decide +kernel) ?_
          refine xg_iload_n dX12_note_123 (Eq.refl 124) rfl ?_
          refine xg_iadd dX12_note_124 (Eq.refl 125) ?_
          refine xg_lald (xt_12_0 h0).2 dX12_note_125 (Eq.refl 126) ?_
          refine xg_lif_ne (tgt := 134) dX12_note_126 (Eq.refl 127) dX12_note_127 (Eq.refl 130) (by decide) (R32.j hz3) (hM4.aj (xt_12_0 h0).2) ?_ ?_
          · refine xg_iconst dX12_note_130 (Eq.refl 131) ?_
            refine xg_goto (tgt := 135) dX12_note_131 (by decide) ?_
            exact xg_jump (gX12_note_135 hl (fX12_note_73 x0 x1 n) x0 h0 x1 h1 x2 h2 1 (by decide) ih M4 hM4) (xsb_s (xsb_s (xsb_s (xsb_n xsb_0)))) (by decide) (by decide)
          · exact xg_jump (gX12_note_134 hl (fX12_note_73 x0 x1 n) x0 h0 x1 h1 x2 h2 ih M4 hM4) (xsb_s (xsb_s (xsb_s (xsb_n xsb_0)))) (by decide) (by decide)
theorem gX12_note_13 {l : Launch} {G : xG} (hl : l.stackTraces = false) (x0 : Nat) (h0 : xOb 12 x0) (x1 : Int) (h1 : R32 x1) : ∀ (n : Nat) (x2 : Int) (_ : R32 x2) (M : xM) (_ : xcan M), Gv l G uX12_note 2 3 0 0 13 [some (.ref x0), some (iv x1), some (iv x2), none] [] M (fX12_note_13 x0 x1 n x2 M) := by
  intro n; induction n with
  | zero => intro x2 h2 M hM; exact xg_none
  | succ n ih =>
    intro x2 h2 M hM
    rw [fX12_note_13]
    refine xg_iload_n dX12_note_13 (Eq.refl 14) rfl ?_
    refine xg_i2l dX12_note_14 (Eq.refl 15) h2 ?_
    refine xg_aload_n dX12_note_15 (Eq.refl 16) rfl ?_
    refine xg_getR (k := 0) xcl12 h0 rfl xq_122 rfl (xt_12_0 h0).1 dX12_note_16 (Eq.refl 19) ?_
    refine xg_sipush dX12_note_19 (Eq.refl 22) (by decide +kernel) ?_
    refine xg_laldk (k := 1540) (xt_12_0 h0).2 dX12_note_22 (Eq.refl 23) rfl (by decide) ?_
    refine xg_lif_ge (tgt := 71) dX12_note_23 (Eq.refl 24) dX12_note_24 (Eq.refl 27) (by decide) (R32.j h2) (hM.aj (xt_12_0 h0).2) ?_ ?_
    · refine xg_iconst dX12_note_71 (Eq.refl 72) ?_
      refine xg_istore_n (ls2 := [some (.ref x0), some (iv x1), some (iv 0), none]) dX12_note_72 (Eq.refl 73) (by decide) rfl ?_
      exact xg_jump (gX12_note_73 hl x0 h0 x1 h1 xN 0 (by decide) M hM) (xsb_s (xsb_s (xsb_s (xsb_n xsb_0)))) (by decide) (by decide)
    · refine xg_aload_n dX12_note_27 (Eq.refl 28) rfl ?_
      refine xg_getR (k := 0) xcl12 h0 rfl xq_122 rfl (xt_12_0 h0).1 dX12_note_28 (Eq.refl 31) ?_
      refine xg_sipush dX12_note_31 (Eq.refl 34) (by decide +kernel) ?_
      refine xg_bipush dX12_note_34 (Eq.refl 36) (by decide +kernel) ?_
      refine xg_iload_n dX12_note_36 (Eq.refl 37) rfl ?_
      refine xg_imul dX12_note_37 (Eq.refl 38) ?_
      refine xg_iadd dX12_note_38 (Eq.refl 39) ?_
      refine xg_iload_n dX12_note_39 (Eq.refl 40) rfl ?_
      refine xg_iadd dX12_note_40 (Eq.refl 41) ?_
      refine xg_aload_n dX12_note_41 (Eq.refl 42) rfl ?_
      refine xg_getR (k := 0) xcl12 h0 rfl xq_122 rfl (xt_12_0 h0).1 dX12_note_42 (Eq.refl 45) ?_
      refine xg_bipush dX12_note_45 (Eq.refl 47) (by decide +kernel) ?_
      refine xg_iconst dX12_note_47 (Eq.refl 48) ?_
      refine xg_iload_n dX12_note_48 (Eq.refl 49) rfl ?_
      refine xg_imul dX12_note_49 (Eq.refl 50) ?_
      refine xg_iadd dX12_note_50 (Eq.refl 51) ?_
      refine xg_aload_n dX12_note_51 (Eq.refl 52) rfl ?_
      refine xg_getR (k := 0) xcl12 h0 rfl xq_122 rfl (xt_12_0 h0).1 dX12_note_52 (Eq.refl 55) ?_
      refine xg_sipush dX12_note_55 (Eq.refl 58) (by decide +kernel) ?_
      refine xg_iload_n dX12_note_58 (Eq.refl 59) rfl ?_
      refine xg_iadd dX12_note_59 (Eq.refl 60) ?_
      refine xg_lald (xt_12_0 h0).2 dX12_note_60 (Eq.refl 61) ?_
      refine xg_l2i dX12_note_61 (Eq.refl 62) ?_
      refine xg_iadd dX12_note_62 (Eq.refl 63) ?_
      refine xg_lald (xt_12_0 h0).2 dX12_note_63 (Eq.refl 64) ?_
      refine xg_last (xt_12_0 h0).2 dX12_note_64 (Eq.refl 65) hM (hM.aj (xt_12_0 h0).2) ?_
      intro M1 hM1
      refine xg_iinc (ls2 := [some (.ref x0), some (iv x1), some (iv (w32 (x2 + 1))), none]) dX12_note_65 (Eq.refl 68) rfl (by decide) rfl ?_
      refine xg_goto (tgt := 13) dX12_note_68 (by decide) ?_
      exact xg_jump (ih (w32 (x2 + 1)) (w32_r _) M1 hM1) (xsb_s (xsb_s (xsb_s (xsb_n xsb_0)))) (by decide) (by decide)
theorem mX12_note {l : Launch} {G : xG} (hl : l.stackTraces = false) (x0 : Nat) (h0 : xOb 12 x0) (x1 : Int) (h1 : R32 x1) (M : xM) (hM : xcan M) : Cm l G yX12_note cX12_note 4 none 2 3 0 0 [.ref x0, iv x1] M (fX12_note x0 x1 M) := by
  refine xcm_of (u := uX12_note) (ls := [some (.ref x0), some (iv x1), none, none]) 2 hl rfl (by decide +kernel) (Nat.le_of_ble_eq_true rfl) rfl ?_
  unfold fX12_note
  refine xg_aload_n dX12_note_0 (Eq.refl 1) rfl ?_
  refine xg_getR (k := 0) xcl12 h0 rfl xq_122 rfl (xt_12_0 h0).1 dX12_note_1 (Eq.refl 4) ?_
  refine xg_sipush dX12_note_4 (Eq.refl 7) (by decide +kernel) ?_
  refine xg_iload_n dX12_note_7 (Eq.refl 8) rfl ?_
  refine xg_iadd dX12_note_8 (Eq.refl 9) ?_
  refine xg_lconst (z := 1) dX12_note_9 (Eq.refl 10) rfl ?_
  refine xg_last (xt_12_0 h0).2 dX12_note_10 (Eq.refl 11) hM (by decide) ?_
  intro M1 hM1
  refine xg_iconst dX12_note_11 (Eq.refl 12) ?_
  refine xg_istore_n (ls2 := [some (.ref x0), some (iv x1), some (iv 0), none]) dX12_note_12 (Eq.refl 13) (by decide) rfl ?_
  exact xg_jump (gX12_note_13 hl x0 h0 x1 h1 xN 0 (by decide) M1 hM1) (xsb_s (xsb_s (xsb_s (xsb_n xsb_0)))) (by decide) (by decide)
abbrev uX12_credit : xU := (RX12, cX12_credit, 7, none, [], "credit")
theorem bX12_credit : xYV yX12_credit cX12_credit 7 none 3 := ⟨xq_1125, xq_1126, xq_5, xq_1127, ⟨by decide +kernel, by decide +kernel, by decide +kernel⟩, by decide⟩
theorem gX12_credit_53 {l : Launch} {G : xG} (hl : l.stackTraces = false) (x0 : Nat) (h0 : xOb 12 x0) (x1 : Int) (h1 : R32 x1) (x3 : Int) (h3 : R64 x3) (s0 : Int) (hs0 : R64 s0) (M : xM) (hM : xcan M) : Gv l G uX12_credit 1 3 0 0 53 [some (.ref x0), some (iv x1), none, some (jv x3), none, none, none] [jv s0] M (fX12_credit_53 x0 x1 x3 s0 M) := by
  unfold fX12_credit_53
  refine xg_lstore (ls2 := [some (.ref x0), some (iv x1), none, some (jv x3), none, some (jv s0), none]) dX12_credit_53 (Eq.refl 55) (by decide) rfl ?_
  refine xg_aload_n dX12_credit_55 (Eq.refl 56) rfl ?_
  refine xg_getR (k := 0) xcl12 h0 rfl xq_122 rfl (xt_12_0 h0).1 dX12_credit_56 (Eq.refl 59) ?_
  refine xg_bipush dX12_credit_59 (Eq.refl 61) (by decide +kernel) ?_
  refine xg_iload_n dX12_credit_61 (Eq.refl 62) rfl ?_
  refine xg_iadd dX12_credit_62 (Eq.refl 63) ?_
  refine xg_dup2 dX12_credit_63 (Eq.refl 64) rfl rfl ?_
  refine xg_lald (xt_12_0 h0).2 dX12_credit_64 (Eq.refl 65) ?_
  refine xg_lload_n dX12_credit_65 (Eq.refl 66) rfl ?_
  refine xg_lload_n dX12_credit_66 (Eq.refl 67) rfl ?_
  refine xg_lload dX12_credit_67 (Eq.refl 69) rfl ?_
  refine xg_lmul dX12_credit_69 (Eq.refl 70) ?_
  refine xg_ldc2 (z := 100) xq_1128 dX12_credit_70 (Eq.refl 73) (by decide +kernel) ?_
  refine xg_ldivk dX12_credit_73 (Eq.refl 74) (w64_r _) (by decide) ?_
  refine xg_lsub dX12_credit_74 (Eq.refl 75) ?_
  refine xg_ladd dX12_credit_75 (Eq.refl 76) ?_
  refine xg_last (xt_12_0 h0).2 dX12_credit_76 (Eq.refl 77) hM (w64_r _) ?_
  intro M1 hM1
  exact xg_vret rfl dX12_credit_77 rfl hM1
theorem mX12_credit {l : Launch} {G : xG} (hl : l.stackTraces = false) (x0 : Nat) (h0 : xOb 12 x0) (x1 : Int) (h1 : R32 x1) (x2 : Int) (h2 : R32 x2) (x3 : Int) (h3 : R64 x3) (M : xM) (hM : xcan M) : Cm l G yX12_credit cX12_credit 7 none 1 3 0 0 [.ref x0, iv x1, iv x2, jv x3] M (fX12_credit x0 x1 x2 x3 M) := by
  refine xcm_of (u := uX12_credit) (ls := [some (.ref x0), some (iv x1), some (iv x2), some (jv x3), none, none, none]) 2 hl rfl (by decide +kernel) (Nat.le_of_ble_eq_true rfl) rfl ?_
  unfold fX12_credit
  refine xg_aload_n dX12_credit_0 (Eq.refl 1) rfl ?_
  refine xg_getR (k := 0) xcl12 h0 rfl xq_122 rfl (xt_12_0 h0).1 dX12_credit_1 (Eq.refl 4) ?_
  refine xg_bipush dX12_credit_4 (Eq.refl 6) (by decide +kernel) ?_
  refine xg_iload_n dX12_credit_6 (Eq.refl 7) rfl ?_
  refine xg_iadd dX12_credit_7 (Eq.refl 8) ?_
  refine xg_lald (xt_12_0 h0).2 dX12_credit_8 (Eq.refl 9) ?_
  refine xg_lconst (z := 1) dX12_credit_9 (Eq.refl 10) rfl ?_
  refine xg_lif_ne (tgt := 50) dX12_credit_10 (Eq.refl 11) dX12_credit_11 (Eq.refl 14) (by decide) (hM.aj (xt_12_0 h0).2) (by decide) ?_ ?_
  · refine xg_aload_n dX12_credit_14 (Eq.refl 15) rfl ?_
    refine xg_getR (k := 0) xcl12 h0 rfl xq_122 rfl (xt_12_0 h0).1 dX12_credit_15 (Eq.refl 18) ?_
    refine xg_sipush dX12_credit_18 (Eq.refl 21) (by decide +kernel) ?_
    refine xg_iconst dX12_credit_21 (Eq.refl 22) ?_
    refine xg_aload_n dX12_credit_22 (Eq.refl 23) rfl ?_
    refine xg_getR (k := 0) xcl12 h0 rfl xq_122 rfl (xt_12_0 h0).1 dX12_credit_23 (Eq.refl 26) ?_
    refine xg_sipush dX12_credit_26 (Eq.refl 29) (by decide +kernel) ?_
    refine xg_iload_n dX12_credit_29 (Eq.refl 30) rfl ?_
    refine xg_iadd dX12_credit_30 (Eq.refl 31) ?_
    refine xg_lald (xt_12_0 h0).2 dX12_credit_31 (Eq.refl 32) ?_
    refine xg_l2i dX12_credit_32 (Eq.refl 33) ?_
    refine xg_imul dX12_credit_33 (Eq.refl 34) ?_
    refine xg_iadd dX12_credit_34 (Eq.refl 35) ?_
    refine xg_aload_n dX12_credit_35 (Eq.refl 36) rfl ?_
    refine xg_getR (k := 0) xcl12 h0 rfl xq_122 rfl (xt_12_0 h0).1 dX12_credit_36 (Eq.refl 39) ?_
    refine xg_bipush dX12_credit_39 (Eq.refl 41) (by decide +kernel) ?_
    refine xg_iload_n dX12_credit_41 (Eq.refl 42) rfl ?_
    refine xg_iadd dX12_credit_42 (Eq.refl 43) ?_
    refine xg_lald (xt_12_0 h0).2 dX12_credit_43 (Eq.refl 44) ?_
    refine xg_l2i dX12_credit_44 (Eq.refl 45) ?_
    refine xg_iadd dX12_credit_45 (Eq.refl 46) ?_
    refine xg_lald (xt_12_0 h0).2 dX12_credit_46 (Eq.refl 47) ?_
    refine xg_goto (tgt := 53) dX12_credit_47 (by decide) ?_
    exact xg_jump (gX12_credit_53 hl x0 h0 x1 h1 x3 h3 (M (xr x0 0) (w32 ((w32 (196 + (w32 (3 * (w32 (M (xr x0 0) (w32 (180 + x2)).toNat)))))) + (w32 (M (xr x0 0) (w32 (20 + x1)).toNat)))).toNat) (hM.aj (xt_12_0 h0).2) M hM) (xsb_s (xsb_s (xsb_n (xsb_s (xsb_n (xsb_n (xsb_n xsb_0))))))) (by decide) (by decide)
  · refine xg_ldc2 (z := 30) xq_243 dX12_credit_50 (Eq.refl 53) (by decide +kernel) ?_
    exact xg_jump (gX12_credit_53 hl x0 h0 x1 h1 x3 h3 30 (by decide) M hM) (xsb_s (xsb_s (xsb_n (xsb_s (xsb_n (xsb_n (xsb_n xsb_0))))))) (by decide) (by decide)
abbrev uX12_dividend : xU := (RX12, cX12_dividend, 3, none, [], "dividend")
theorem bX12_dividend : xYV yX12_dividend cX12_dividend 3 none 1 := ⟨xq_1121, xq_1122, xq_5, xq_1123, ⟨by decide +kernel, by decide +kernel, by decide +kernel⟩, by decide⟩
theorem gX12_dividend_2 {l : Launch} {G : xG} (hl : l.stackTraces = false) (x0 : Nat) (h0 : xOb 12 x0) (x1 : Int) (h1 : R32 x1) : ∀ (n : Nat) (x2 : Int) (_ : R32 x2) (M : xM) (_ : xcan M), Gv l G uX12_dividend 2 3 0 0 2 [some (.ref x0), some (iv x1), some (iv x2)] [] M (fX12_dividend_2 x0 x1 n x2 M) := by
  intro n; induction n with
  | zero => intro x2 h2 M hM; exact xg_none
  | succ n ih =>
    intro x2 h2 M hM
    rw [fX12_dividend_2]
    refine xg_iload_n dX12_dividend_2 (Eq.refl 3) rfl ?_
    refine xg_i2l dX12_dividend_3 (Eq.refl 4) h2 ?_
    refine xg_aload_n dX12_dividend_4 (Eq.refl 5) rfl ?_
    refine xg_getR (k := 0) xcl12 h0 rfl xq_122 rfl (xt_12_0 h0).1 dX12_dividend_5 (Eq.refl 8) ?_
    refine xg_sipush dX12_dividend_8 (Eq.refl 11) (by decide +kernel) ?_
    refine xg_laldk (k := 1540) (xt_12_0 h0).2 dX12_dividend_11 (Eq.refl 12) rfl (by decide) ?_
    refine xg_lif_ge (tgt := 64) dX12_dividend_12 (Eq.refl 13) dX12_dividend_13 (Eq.refl 16) (by decide) (R32.j h2) (hM.aj (xt_12_0 h0).2) ?_ ?_
    · exact xg_vret rfl dX12_dividend_64 rfl hM
    · refine xg_aload_n dX12_dividend_16 (Eq.refl 17) rfl ?_
      refine xg_iload_n dX12_dividend_17 (Eq.refl 18) rfl ?_
      refine xg_aload_n dX12_dividend_18 (Eq.refl 19) rfl ?_
      refine xg_getR (k := 0) xcl12 h0 rfl xq_122 rfl (xt_12_0 h0).1 dX12_dividend_19 (Eq.refl 22) ?_
      refine xg_sipush dX12_dividend_22 (Eq.refl 25) (by decide +kernel) ?_
      refine xg_iload_n dX12_dividend_25 (Eq.refl 26) rfl ?_
      refine xg_iadd dX12_dividend_26 (Eq.refl 27) ?_
      refine xg_lald (xt_12_0 h0).2 dX12_dividend_27 (Eq.refl 28) ?_
      refine xg_l2i dX12_dividend_28 (Eq.refl 29) ?_
      refine xg_aload_n dX12_dividend_29 (Eq.refl 30) rfl ?_
      refine xg_getR (k := 0) xcl12 h0 rfl xq_122 rfl (xt_12_0 h0).1 dX12_dividend_30 (Eq.refl 33) ?_
      refine xg_sipush dX12_dividend_33 (Eq.refl 36) (by decide +kernel) ?_
      refine xg_bipush dX12_dividend_36 (Eq.refl 38) (by decide +kernel) ?_
      refine xg_iload_n dX12_dividend_38 (Eq.refl 39) rfl ?_
      refine xg_imul dX12_dividend_39 (Eq.refl 40) ?_
      refine xg_iadd dX12_dividend_40 (Eq.refl 41) ?_
      refine xg_iload_n dX12_dividend_41 (Eq.refl 42) rfl ?_
      refine xg_iadd dX12_dividend_42 (Eq.refl 43) ?_
      refine xg_lald (xt_12_0 h0).2 dX12_dividend_43 (Eq.refl 44) ?_
      refine xg_aload_n dX12_dividend_44 (Eq.refl 45) rfl ?_
      refine xg_getR (k := 0) xcl12 h0 rfl xq_122 rfl (xt_12_0 h0).1 dX12_dividend_45 (Eq.refl 48) ?_
      refine xg_sipush dX12_dividend_48 (Eq.refl 51) (by decide +kernel) ?_
      refine xg_iload_n dX12_dividend_51 (Eq.refl 52) rfl ?_
      refine xg_iadd dX12_dividend_52 (Eq.refl 53) ?_
      refine xg_lald (xt_12_0 h0).2 dX12_dividend_53 (Eq.refl 54) ?_
      refine xg_lmul dX12_dividend_54 (Eq.refl 55) ?_
      refine xg_callV_N (kc := 0) (ks := 0) (st := []) (mX12_credit hl x0 h0 x2 h2 (w32 (M (xr x0 0) (w32 (1060 + x1)).toNat)) (w32_r _) (w64 ((M (xr x0 0) (w32 ((w32 (1140 + (w32 (10 * x1)))) + x2)).toNat) * (M (xr x0 0) (w32 (1070 + x1)).toNat))) (w64_r _) M hM) bX12_credit xcl12 h0 rfl xq_1124 rfl (by decide) rfl (by decide) dX12_dividend_55 (Eq.refl 58) rfl (by decide) (by decide) ?_
      intro z1 M2 hz1 hM2
      refine xg_iinc (ls2 := [some (.ref x0), some (iv x1), some (iv (w32 (x2 + 1)))]) dX12_dividend_58 (Eq.refl 61) rfl (by decide) rfl ?_
      refine xg_goto (tgt := 2) dX12_dividend_61 (by decide) ?_
      exact xg_jump (ih (w32 (x2 + 1)) (w32_r _) M2 hM2) (xsb_s (xsb_s (xsb_s xsb_0))) (by decide) (by decide)
theorem mX12_dividend {l : Launch} {G : xG} (hl : l.stackTraces = false) (x0 : Nat) (h0 : xOb 12 x0) (x1 : Int) (h1 : R32 x1) (M : xM) (hM : xcan M) : Cm l G yX12_dividend cX12_dividend 3 none 2 3 0 0 [.ref x0, iv x1] M (fX12_dividend x0 x1 M) := by
  refine xcm_of (u := uX12_dividend) (ls := [some (.ref x0), some (iv x1), none]) 1 hl rfl (by decide +kernel) (Nat.le_of_ble_eq_true rfl) rfl ?_
  unfold fX12_dividend
  refine xg_iconst dX12_dividend_0 (Eq.refl 1) ?_
  refine xg_istore_n (ls2 := [some (.ref x0), some (iv x1), some (iv 0)]) dX12_dividend_1 (Eq.refl 2) (by decide) rfl ?_
  exact xg_jump (gX12_dividend_2 hl x0 h0 x1 h1 xN 0 (by decide) M hM) (xsb_s (xsb_s (xsb_s xsb_0))) (by decide) (by decide)
abbrev uX12_option : xU := (RX12, cX12_option, 12, none, [], "option")
theorem bX12_option : xYV yX12_option cX12_option 12 none 1 := ⟨xq_1130, xq_1131, xq_5, xq_1132, ⟨by decide +kernel, by decide +kernel, by decide +kernel⟩, by decide⟩
theorem gX12_option_148 {l : Launch} {G : xG} (hl : l.stackTraces = false) (rc76 : Int → xM → xO) (x0 : Nat) (h0 : xOb 12 x0) (x1 : Int) (h1 : R32 x1) (x2 : Int) (h2 : R32 x2) (x3 : Int) (h3 : R64 x3) (x5 : Int) (h5 : R64 x5) (x7 : Int) (h7 : R32 x7) (s0 : Int) (hs0 : R64 s0) (hr76 : ∀ w7 : Int, R32 w7 → ∀ M : xM, xcan M → Gv l G uX12_option 2 3 0 0 76 [some (.ref x0), some (iv x1), some (iv x2), some (jv x3), none, some (jv x5), none, some (iv w7), none, none, none, none] [] M (rc76 w7 M)) (M : xM) (hM : xcan M) : Gv l G uX12_option 2 3 0 0 148 [some (.ref x0), some (iv x1), some (iv x2), some (jv x3), none, some (jv x5), none, some (iv x7), none, none, none, none] [jv s0] M (fX12_option_148 rc76 x0 x1 x2 x3 x5 x7 s0 M) := by
  unfold fX12_option_148
  refine xg_lstore (ls2 := [some (.ref x0), some (iv x1), some (iv x2), some (jv x3), none, some (jv x5), none, some (iv x7), none, none, some (jv s0), none]) dX12_option_148 (Eq.refl 150) (by decide) rfl ?_
  refine xg_aload_n dX12_option_150 (Eq.refl 151) rfl ?_
  refine xg_getR (k := 0) xcl12 h0 rfl xq_122 rfl (xt_12_0 h0).1 dX12_option_151 (Eq.refl 154) ?_
  refine xg_bipush dX12_option_154 (Eq.refl 156) (by decide +kernel) ?_
  refine xg_iconst dX12_option_156 (Eq.refl 157) ?_
  refine xg_iload dX12_option_157 (Eq.refl 159) rfl ?_
  refine xg_imul dX12_option_159 (Eq.refl 160) ?_
  refine xg_iadd dX12_option_160 (Eq.refl 161) ?_
  refine xg_iload_n dX12_option_161 (Eq.refl 162) rfl ?_
  refine xg_iadd dX12_option_162 (Eq.refl 163) ?_
  refine xg_dup2 dX12_option_163 (Eq.refl 164) rfl rfl ?_
  refine xg_lald (xt_12_0 h0).2 dX12_option_164 (Eq.refl 165) ?_
  refine xg_lload dX12_option_165 (Eq.refl 167) rfl ?_
  refine xg_ladd dX12_option_167 (Eq.refl 168) ?_
  refine xg_last (xt_12_0 h0).2 dX12_option_168 (Eq.refl 169) hM (w64_r _) ?_
  intro M1 hM1
  refine xg_aload_n dX12_option_169 (Eq.refl 170) rfl ?_
  refine xg_getR (k := 0) xcl12 h0 rfl xq_122 rfl (xt_12_0 h0).1 dX12_option_170 (Eq.refl 173) ?_
  refine xg_sipush dX12_option_173 (Eq.refl 176) (by decide +kernel) ?_
  refine xg_iload_n dX12_option_176 (Eq.refl 177) rfl ?_
  refine xg_iadd dX12_option_177 (Eq.refl 178) ?_
  refine xg_dup2 dX12_option_178 (Eq.refl 179) rfl rfl ?_
  refine xg_lald (xt_12_0 h0).2 dX12_option_179 (Eq.refl 180) ?_
  refine xg_lload dX12_option_180 (Eq.refl 182) rfl ?_
  refine xg_ladd dX12_option_182 (Eq.refl 183) ?_
  refine xg_last (xt_12_0 h0).2 dX12_option_183 (Eq.refl 184) hM1 (w64_r _) ?_
  intro M2 hM2
  refine xg_aload_n dX12_option_184 (Eq.refl 185) rfl ?_
  refine xg_iload dX12_option_185 (Eq.refl 187) rfl ?_
  refine xg_iload_n dX12_option_187 (Eq.refl 188) rfl ?_
  refine xg_aload_n dX12_option_188 (Eq.refl 189) rfl ?_
  refine xg_getR (k := 0) xcl12 h0 rfl xq_122 rfl (xt_12_0 h0).1 dX12_option_189 (Eq.refl 192) ?_
  refine xg_sipush dX12_option_192 (Eq.refl 195) (by decide +kernel) ?_
  refine xg_bipush dX12_option_195 (Eq.refl 197) (by decide +kernel) ?_
  refine xg_iload_n dX12_option_197 (Eq.refl 198) rfl ?_
  refine xg_imul dX12_option_198 (Eq.refl 199) ?_
  refine xg_iadd dX12_option_199 (Eq.refl 200) ?_
  refine xg_iload dX12_option_200 (Eq.refl 202) rfl ?_
  refine xg_iadd dX12_option_202 (Eq.refl 203) ?_
  refine xg_lald (xt_12_0 h0).2 dX12_option_203 (Eq.refl 204) ?_
  refine xg_lload_n dX12_option_204 (Eq.refl 205) rfl ?_
  refine xg_lload dX12_option_205 (Eq.refl 207) rfl ?_
  refine xg_lmul dX12_option_207 (Eq.refl 208) ?_
  refine xg_lsub dX12_option_208 (Eq.refl 209) ?_
  refine xg_aload_n dX12_option_209 (Eq.refl 210) rfl ?_
  refine xg_getR (k := 0) xcl12 h0 rfl xq_122 rfl (xt_12_0 h0).1 dX12_option_210 (Eq.refl 213) ?_
  refine xg_sipush dX12_option_213 (Eq.refl 216) (by decide +kernel) ?_
  refine xg_iload_n dX12_option_216 (Eq.refl 217) rfl ?_
  refine xg_iadd dX12_option_217 (Eq.refl 218) ?_
  refine xg_lald (xt_12_0 h0).2 dX12_option_218 (Eq.refl 219) ?_
  refine xg_lmul dX12_option_219 (Eq.refl 220) ?_
  refine xg_callV_N (kc := 0) (ks := 0) (st := []) (mX12_credit hl x0 h0 x7 h7 x2 h2 (w64 ((w64 ((M2 (xr x0 0) (w32 ((w32 (1140 + (w32 (10 * x1)))) + x7)).toNat) - (w64 (x3 * s0)))) * (M2 (xr x0 0) (w32 (1070 + x1)).toNat))) (w64_r _) M2 hM2) bX12_credit xcl12 h0 rfl xq_1124 rfl (by decide) rfl (by decide) dX12_option_220 (Eq.refl 223) rfl (by decide) (by decide) ?_
  intro z3 M4 hz3 hM4
  refine xg_iinc (ls2 := [some (.ref x0), some (iv x1), some (iv x2), some (jv x3), none, some (jv x5), none, some (iv (w32 (x7 + 1))), none, none, some (jv s0), none]) dX12_option_223 (Eq.refl 226) rfl (by decide) rfl ?_
  refine xg_goto (tgt := 76) dX12_option_226 (by decide) ?_
  exact xg_jump (hr76 (w32 (x7 + 1)) (w32_r _) M4 hM4) (xsb_s (xsb_s (xsb_s (xsb_s (xsb_n (xsb_s (xsb_n (xsb_s (xsb_n (xsb_n (xsb_n (xsb_n xsb_0)))))))))))) (by decide) (by decide)
theorem gX12_option_76 {l : Launch} {G : xG} (hl : l.stackTraces = false) (x0 : Nat) (h0 : xOb 12 x0) (x1 : Int) (h1 : R32 x1) (x2 : Int) (h2 : R32 x2) (x3 : Int) (h3 : R64 x3) (x5 : Int) (h5 : R64 x5) : ∀ (n : Nat) (x7 : Int) (_ : R32 x7) (M : xM) (_ : xcan M), Gv l G uX12_option 2 3 0 0 76 [some (.ref x0), some (iv x1), some (iv x2), some (jv x3), none, some (jv x5), none, some (iv x7), none, none, none, none] [] M (fX12_option_76 x0 x1 x2 x3 x5 n x7 M) := by
  intro n; induction n with
  | zero => intro x7 h7 M hM; exact xg_none
  | succ n ih =>
    intro x7 h7 M hM
    rw [fX12_option_76]
    refine xg_iload dX12_option_76 (Eq.refl 78) rfl ?_
    refine xg_i2l dX12_option_78 (Eq.refl 79) h7 ?_
    refine xg_aload_n dX12_option_79 (Eq.refl 80) rfl ?_
    refine xg_getR (k := 0) xcl12 h0 rfl xq_122 rfl (xt_12_0 h0).1 dX12_option_80 (Eq.refl 83) ?_
    refine xg_sipush dX12_option_83 (Eq.refl 86) (by decide +kernel) ?_
    refine xg_laldk (k := 1540) (xt_12_0 h0).2 dX12_option_86 (Eq.refl 87) rfl (by decide) ?_
    refine xg_lif_ge (tgt := 229) dX12_option_87 (Eq.refl 88) dX12_option_88 (Eq.refl 91) (by decide) (R32.j h7) (hM.aj (xt_12_0 h0).2) ?_ ?_
    · exact xg_vret rfl dX12_option_229 rfl hM
    · refine xg_aload_n dX12_option_91 (Eq.refl 92) rfl ?_
      refine xg_getR (k := 0) xcl12 h0 rfl xq_122 rfl (xt_12_0 h0).1 dX12_option_92 (Eq.refl 95) ?_
      refine xg_sipush dX12_option_95 (Eq.refl 98) (by decide +kernel) ?_
      refine xg_bipush dX12_option_98 (Eq.refl 100) (by decide +kernel) ?_
      refine xg_iload_n dX12_option_100 (Eq.refl 101) rfl ?_
      refine xg_imul dX12_option_101 (Eq.refl 102) ?_
      refine xg_iadd dX12_option_102 (Eq.refl 103) ?_
      refine xg_iload dX12_option_103 (Eq.refl 105) rfl ?_
      refine xg_iadd dX12_option_105 (Eq.refl 106) ?_
      refine xg_lald (xt_12_0 h0).2 dX12_option_106 (Eq.refl 107) ?_
      refine xg_lload_n dX12_option_107 (Eq.refl 108) rfl ?_
      refine xg_ldiv dX12_option_108 (Eq.refl 109) (hM.aj (xt_12_0 h0).2) h3 ?_
      intro q1
      refine xg_lstoreL (P := R64) (ls2 := fun y2 => [some (.ref x0), some (iv x1), some (iv x2), some (jv x3), none, some (jv x5), none, some (iv x7), some (jv y2), none, none, none]) dX12_option_109 (Eq.refl 111) (by decide) (xtd_r (hM.aj (xt_12_0 h0).2) q1) (fun _ => rfl) ?_
      intro y2 hy2
      refine xg_lload dX12_option_111 (Eq.refl 113) rfl ?_
      refine xg_aload_n dX12_option_113 (Eq.refl 114) rfl ?_
      refine xg_getR (k := 0) xcl12 h0 rfl xq_122 rfl (xt_12_0 h0).1 dX12_option_114 (Eq.refl 117) ?_
      refine xg_sipush dX12_option_117 (Eq.refl 120) (by decide +kernel) ?_
      refine xg_iload_n dX12_option_120 (Eq.refl 121) rfl ?_
      refine xg_iadd dX12_option_121 (Eq.refl 122) ?_
      refine xg_lald (xt_12_0 h0).2 dX12_option_122 (Eq.refl 123) ?_
      refine xg_lif_le (tgt := 146) dX12_option_123 (Eq.refl 124) dX12_option_124 (Eq.refl 127) (by decide) h5 (hM.aj (xt_12_0 h0).2) ?_ ?_
      · refine xg_lload dX12_option_146 (Eq.refl 148) rfl ?_
        exact xg_jump (gX12_option_148 hl (fX12_option_76 x0 x1 x2 x3 x5 n) x0 h0 x1 h1 x2 h2 x3 h3 x5 h5 x7 h7 y2 hy2 ih M hM) (xsb_s (xsb_s (xsb_s (xsb_s (xsb_n (xsb_s (xsb_n (xsb_s (xsb_n (xsb_n (xsb_n (xsb_n xsb_0)))))))))))) (by decide) (by decide)
      · refine xg_lload dX12_option_127 (Eq.refl 129) rfl ?_
        refine xg_aload_n dX12_option_129 (Eq.refl 130) rfl ?_
        refine xg_getR (k := 0) xcl12 h0 rfl xq_122 rfl (xt_12_0 h0).1 dX12_option_130 (Eq.refl 133) ?_
        refine xg_sipush dX12_option_133 (Eq.refl 136) (by decide +kernel) ?_
        refine xg_iload_n dX12_option_136 (Eq.refl 137) rfl ?_
        refine xg_iadd dX12_option_137 (Eq.refl 138) ?_
        refine xg_lald (xt_12_0 h0).2 dX12_option_138 (Eq.refl 139) ?_
        refine xg_lmul dX12_option_139 (Eq.refl 140) ?_
        refine xg_lload dX12_option_140 (Eq.refl 142) rfl ?_
        refine xg_ldiv dX12_option_142 (Eq.refl 143) (w64_r _) h5 ?_
        intro q3
        refine xg_goto (tgt := 148) dX12_option_143 (by decide) ?_
        exact xg_jump (gX12_option_148 hl (fX12_option_76 x0 x1 x2 x3 x5 n) x0 h0 x1 h1 x2 h2 x3 h3 x5 h5 x7 h7 (Int.tdiv (w64 (y2 * (M (xr x0 0) (w32 (1090 + x1)).toNat))) x5) (xtd_r (w64_r _) q3) ih M hM) (xsb_s (xsb_s (xsb_s (xsb_s (xsb_n (xsb_s (xsb_n (xsb_s (xsb_n (xsb_n (xsb_n (xsb_n xsb_0)))))))))))) (by decide) (by decide)
theorem gX12_option_29 {l : Launch} {G : xG} (hl : l.stackTraces = false) (x0 : Nat) (h0 : xOb 12 x0) (x1 : Int) (h1 : R32 x1) (x2 : Int) (h2 : R32 x2) (x3 : Int) (h3 : R64 x3) : ∀ (n : Nat) (x5 : Int) (_ : R64 x5) (x7 : Int) (_ : R32 x7) (M : xM) (_ : xcan M), Gv l G uX12_option 2 3 0 0 29 [some (.ref x0), some (iv x1), some (iv x2), some (jv x3), none, some (jv x5), none, some (iv x7), none, none, none, none] [] M (fX12_option_29 x0 x1 x2 x3 n x5 x7 M) := by
  intro n; induction n with
  | zero => intro x5 h5 x7 h7 M hM; exact xg_none
  | succ n ih =>
    intro x5 h5 x7 h7 M hM
    rw [fX12_option_29]
    refine xg_iload dX12_option_29 (Eq.refl 31) rfl ?_
    refine xg_i2l dX12_option_31 (Eq.refl 32) h7 ?_
    refine xg_aload_n dX12_option_32 (Eq.refl 33) rfl ?_
    refine xg_getR (k := 0) xcl12 h0 rfl xq_122 rfl (xt_12_0 h0).1 dX12_option_33 (Eq.refl 36) ?_
    refine xg_sipush dX12_option_36 (Eq.refl 39) (by decide +kernel) ?_
    refine xg_laldk (k := 1540) (xt_12_0 h0).2 dX12_option_39 (Eq.refl 40) rfl (by decide) ?_
    refine xg_lif_ge (tgt := 73) dX12_option_40 (Eq.refl 41) dX12_option_41 (Eq.refl 44) (by decide) (R32.j h7) (hM.aj (xt_12_0 h0).2) ?_ ?_
    · refine xg_iconst dX12_option_73 (Eq.refl 74) ?_
      refine xg_istore (ls2 := [some (.ref x0), some (iv x1), some (iv x2), some (jv x3), none, some (jv x5), none, some (iv 0), none, none, none, none]) dX12_option_74 (Eq.refl 76) (by decide) rfl ?_
      exact xg_jump (gX12_option_76 hl x0 h0 x1 h1 x2 h2 x3 h3 x5 h5 xN 0 (by decide) M hM) (xsb_s (xsb_s (xsb_s (xsb_s (xsb_n (xsb_s (xsb_n (xsb_s (xsb_n (xsb_n (xsb_n (xsb_n xsb_0)))))))))))) (by decide) (by decide)
    · refine xg_lload dX12_option_44 (Eq.refl 46) rfl ?_
      refine xg_aload_n dX12_option_46 (Eq.refl 47) rfl ?_
      refine xg_getR (k := 0) xcl12 h0 rfl xq_122 rfl (xt_12_0 h0).1 dX12_option_47 (Eq.refl 50) ?_
      refine xg_sipush dX12_option_50 (Eq.refl 53) (by decide +kernel) ?_
      refine xg_bipush dX12_option_53 (Eq.refl 55) (by decide +kernel) ?_
      refine xg_iload_n dX12_option_55 (Eq.refl 56) rfl ?_
      refine xg_imul dX12_option_56 (Eq.refl 57) ?_
      refine xg_iadd dX12_option_57 (Eq.refl 58) ?_
      refine xg_iload dX12_option_58 (Eq.refl 60) rfl ?_
      refine xg_iadd dX12_option_60 (Eq.refl 61) ?_
      refine xg_lald (xt_12_0 h0).2 dX12_option_61 (Eq.refl 62) ?_
      refine xg_lload_n dX12_option_62 (Eq.refl 63) rfl ?_
      refine xg_ldiv dX12_option_63 (Eq.refl 64) (hM.aj (xt_12_0 h0).2) h3 ?_
      intro q1
      refine xg_ladd dX12_option_64 (Eq.refl 65) ?_
      refine xg_lstoreL (P := R64) (ls2 := fun y2 => [some (.ref x0), some (iv x1), some (iv x2), some (jv x3), none, some (jv y2), none, some (iv x7), none, none, none, none]) dX12_option_65 (Eq.refl 67) (by decide) (w64_r _) (fun _ => rfl) ?_
      intro y2 hy2
      refine xg_iinc (ls2 := [some (.ref x0), some (iv x1), some (iv x2), some (jv x3), none, some (jv y2), none, some (iv (w32 (x7 + 1))), none, none, none, none]) dX12_option_67 (Eq.refl 70) rfl (by decide) rfl ?_
      refine xg_goto (tgt := 29) dX12_option_70 (by decide) ?_
      exact xg_jump (ih y2 hy2 (w32 (x7 + 1)) (w32_r _) M hM) (xsb_s (xsb_s (xsb_s (xsb_s (xsb_n (xsb_s (xsb_n (xsb_s (xsb_n (xsb_n (xsb_n (xsb_n xsb_0)))))))))))) (by decide) (by decide)
theorem mX12_option {l : Launch} {G : xG} (hl : l.stackTraces = false) (x0 : Nat) (h0 : xOb 12 x0) (x1 : Int) (h1 : R32 x1) (M : xM) (hM : xcan M) : Cm l G yX12_option cX12_option 12 none 2 3 0 0 [.ref x0, iv x1] M (fX12_option x0 x1 M) := by
  refine xcm_of (u := uX12_option) (ls := [some (.ref x0), some (iv x1), none, none, none, none, none, none, none, none, none, none]) 10 hl rfl (by decide +kernel) (Nat.le_of_ble_eq_true rfl) rfl ?_
  unfold fX12_option
  refine xg_aload_n dX12_option_0 (Eq.refl 1) rfl ?_
  refine xg_getR (k := 0) xcl12 h0 rfl xq_122 rfl (xt_12_0 h0).1 dX12_option_1 (Eq.refl 4) ?_
  refine xg_sipush dX12_option_4 (Eq.refl 7) (by decide +kernel) ?_
  refine xg_iload_n dX12_option_7 (Eq.refl 8) rfl ?_
  refine xg_iadd dX12_option_8 (Eq.refl 9) ?_
  refine xg_lald (xt_12_0 h0).2 dX12_option_9 (Eq.refl 10) ?_
  refine xg_l2i dX12_option_10 (Eq.refl 11) ?_
  refine xg_istore_nL (P := R32) (ls2 := fun y1 => [some (.ref x0), some (iv x1), some (iv y1), none, none, none, none, none, none, none, none, none]) dX12_option_11 (Eq.refl 12) (by decide) (w32_r _) (fun _ => rfl) ?_
  intro y1 hy1
  refine xg_aload_n dX12_option_12 (Eq.refl 13) rfl ?_
  refine xg_getR (k := 0) xcl12 h0 rfl xq_122 rfl (xt_12_0 h0).1 dX12_option_13 (Eq.refl 16) ?_
  refine xg_sipush dX12_option_16 (Eq.refl 19) (by decide +kernel) ?_
  refine xg_iload_n dX12_option_19 (Eq.refl 20) rfl ?_
  refine xg_iadd dX12_option_20 (Eq.refl 21) ?_
  refine xg_lald (xt_12_0 h0).2 dX12_option_21 (Eq.refl 22) ?_
  refine xg_lstore_nL (P := R64) (ls2 := fun y2 => [some (.ref x0), some (iv x1), some (iv y1), some (jv y2), none, none, none, none, none, none, none, none]) dX12_option_22 (Eq.refl 23) (by decide) (hM.aj (xt_12_0 h0).2) (fun _ => rfl) ?_
  intro y2 hy2
  refine xg_lconst (z := 0) dX12_option_23 (Eq.refl 24) rfl ?_
  refine xg_lstore (ls2 := [some (.ref x0), some (iv x1), some (iv y1), some (jv y2), none, some (jv 0), none, none, none, none, none, none]) dX12_option_24 (Eq.refl 26) (by decide) rfl ?_
  refine xg_iconst dX12_option_26 (Eq.refl 27) ?_
  refine xg_istore (ls2 := [some (.ref x0), some (iv x1), some (iv y1), some (jv y2), none, some (jv 0), none, some (iv 0), none, none, none, none]) dX12_option_27 (Eq.refl 29) (by decide) rfl ?_
  exact xg_jump (gX12_option_29 hl x0 h0 x1 h1 y1 hy1 y2 hy2 xN 0 (by decide) 0 (by decide) M hM) (xsb_s (xsb_s (xsb_s (xsb_s (xsb_n (xsb_s (xsb_n (xsb_s (xsb_n (xsb_n (xsb_n (xsb_n xsb_0)))))))))))) (by decide) (by decide)
