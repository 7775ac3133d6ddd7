abbrev uX11_sumOf : xU := (RX11, cX11_sumOf, 4, (some .long), [], "sumOf")
theorem bX11_sumOf : xYS yX11_sumOf cX11_sumOf 4 (some .long) 1 := ⟨xq_694, xq_2, xq_695, ⟨by decide +kernel, by decide +kernel, by decide +kernel⟩, by decide⟩
theorem gX11_sumOf_4 {l : Launch} {G : xG} (hl : l.stackTraces = false) (x0 : Nat) (h0 : xAn 1 (xln x0) x0) : ∀ (n : Nat) (x1 : Int) (_ : R64 x1) (x3 : Int) (_ : R32 x3) (M : xM) (_ : xcan M), Gv l G uX11_sumOf 1 2 0 0 4 [some (.ref x0), some (jv x1), none, some (iv x3)] [] M (fX11_sumOf_4 x0 n x1 x3 M) := by
  intro n; induction n with
  | zero => intro x1 h1 x3 h3 M hM; exact xg_none
  | succ n ih =>
    intro x1 h1 x3 h3 M hM
    rw [fX11_sumOf_4]
    refine xg_iload_n dX11_sumOf_4 (Eq.refl 5) rfl ?_
    refine xg_aload_n dX11_sumOf_5 (Eq.refl 6) rfl ?_
    refine xg_alen (z := ((xln x0 : Nat) : Int)) h0 (by decide) dX11_sumOf_6 (Eq.refl 7) rfl ?_
    refine xg_icmp_ge (tgt := 22) dX11_sumOf_7 (Eq.refl 10) (by decide) h3 (xln_r x0) ?_ ?_
    · refine xg_lload_n dX11_sumOf_22 (Eq.refl 23) rfl ?_
      exact xg_lret rfl dX11_sumOf_23 rfl hM h1
    · refine xg_lload_n dX11_sumOf_10 (Eq.refl 11) rfl ?_
      refine xg_aload_n dX11_sumOf_11 (Eq.refl 12) rfl ?_
      refine xg_iload_n dX11_sumOf_12 (Eq.refl 13) rfl ?_
      refine xg_lald h0 dX11_sumOf_13 (Eq.refl 14) ?_
      refine xg_ladd dX11_sumOf_14 (Eq.refl 15) ?_
      refine xg_lstore_nL (P := R64) (ls2 := fun y1 => [some (.ref x0), some (jv y1), none, some (iv x3)]) dX11_sumOf_15 (Eq.refl 16) (by decide) (w64_r _) (fun _ => rfl) ?_
      intro y1 hy1
      refine xg_iinc (ls2 := [some (.ref x0), some (jv y1), none, some (iv (w32 (x3 + 1)))]) dX11_sumOf_16 (Eq.refl 19) rfl (by decide) rfl ?_
      refine xg_goto (tgt := 4) dX11_sumOf_19 (by decide) ?_
      exact xg_jump (ih y1 hy1 (w32 (x3 + 1)) (w32_r _) M hM) (xsb_s (xsb_s (xsb_n (xsb_s xsb_0)))) (by decide) (by decide)
theorem mX11_sumOf {l : Launch} {G : xG} (hl : l.stackTraces = false) (x0 : Nat) (h0 : xAn 1 (xln x0) x0) (M : xM) (hM : xcan M) : Cm l G yX11_sumOf cX11_sumOf 4 (some .long) 1 2 0 0 [.ref x0] M (fX11_sumOf x0 M) := by
  refine xcm_of (u := uX11_sumOf) (ls := [some (.ref x0), none, none, none]) 3 hl rfl (by decide +kernel) (Nat.le_of_ble_eq_true rfl) rfl ?_
  unfold fX11_sumOf
  refine xg_lconst (z := 0) dX11_sumOf_0 (Eq.refl 1) rfl ?_
  refine xg_lstore_n (ls2 := [some (.ref x0), some (jv 0), none, none]) dX11_sumOf_1 (Eq.refl 2) (by decide) rfl ?_
  refine xg_iconst dX11_sumOf_2 (Eq.refl 3) ?_
  refine xg_istore_n (ls2 := [some (.ref x0), some (jv 0), none, some (iv 0)]) dX11_sumOf_3 (Eq.refl 4) (by decide) rfl ?_
  exact xg_jump (gX11_sumOf_4 hl x0 h0 xN 0 (by decide) 0 (by decide) M hM) (xsb_s (xsb_s (xsb_n (xsb_s xsb_0)))) (by decide) (by decide)
abbrev uX2_shiftLoans : xU := (RX2, cX2_shiftLoans, 7, none, [], "shiftLoans")
theorem bX2_shiftLoans : xYV yX2_shiftLoans cX2_shiftLoans 7 none 2 := ⟨xq_697, xq_698, xq_22, xq_699, ⟨by decide +kernel, by decide +kernel, by decide +kernel⟩, by decide⟩
theorem gX2_shiftLoans_15 {l : Launch} {G : xG} (hl : l.stackTraces = false) (x0 : Nat) (h0 : xOb 2 x0) (x1 : Nat) (h1 : xOb 10 x1) (x2 : Int) (h2 : R32 x2) (x3 : Nat) (h3 : xOb 0 x3) : ∀ (n : Nat) (x4 : Int) (_ : R32 x4) (M : xM) (_ : xcan M), Gv l G uX2_shiftLoans 3 3 0 0 15 [some (.ref x0), some (.ref x1), some (iv x2), some (.ref x3), some (iv x4), none, none] [] M (fX2_shiftLoans_15 x0 x1 x2 x3 n x4 M) := by
  intro n; induction n with
  | zero => intro x4 h4 M hM; exact xg_none
  | succ n ih =>
    intro x4 h4 M hM
    rw [fX2_shiftLoans_15]
    refine xg_iload dX2_shiftLoans_15 (Eq.refl 17) rfl ?_
    refine xg_aload_n dX2_shiftLoans_17 (Eq.refl 18) rfl ?_
    refine xg_getR (k := 3) xcl2 h0 rfl xq_108 rfl (xt_2_3 h0).1 dX2_shiftLoans_18 (Eq.refl 21) ?_
    refine xg_alen (z := 10) (xt_2_3 h0).2 (by decide) dX2_shiftLoans_21 (Eq.refl 22) rfl ?_
    refine xg_icmp_ge (tgt := 94) dX2_shiftLoans_22 (Eq.refl 25) (by decide) h4 (by decide) ?_ ?_
    · exact xg_vret rfl dX2_shiftLoans_94 rfl hM
    · refine xg_iload_n dX2_shiftLoans_25 (Eq.refl 26) rfl ?_
      refine xg_i2l dX2_shiftLoans_26 (Eq.refl 27) h2 ?_
      refine xg_aload_n dX2_shiftLoans_27 (Eq.refl 28) rfl ?_
      refine xg_getR (k := 3) xcl2 h0 rfl xq_108 rfl (xt_2_3 h0).1 dX2_shiftLoans_28 (Eq.refl 31) ?_
      refine xg_iload dX2_shiftLoans_31 (Eq.refl 33) rfl ?_
      refine xg_lald (xt_2_3 h0).2 dX2_shiftLoans_33 (Eq.refl 34) ?_
      refine xg_lmul dX2_shiftLoans_34 (Eq.refl 35) ?_
      refine xg_lstoreL (P := R64) (ls2 := fun y1 => [some (.ref x0), some (.ref x1), some (iv x2), some (.ref x3), some (iv x4), some (jv y1), none]) dX2_shiftLoans_35 (Eq.refl 37) (by decide) (w64_r _) (fun _ => rfl) ?_
      intro y1 hy1
      refine xg_aload_n dX2_shiftLoans_37 (Eq.refl 38) rfl ?_
      refine xg_getR (k := 0) xcl2 h0 rfl xq_109 rfl (xt_2_0 h0).1 dX2_shiftLoans_38 (Eq.refl 41) ?_
      refine xg_iload dX2_shiftLoans_41 (Eq.refl 43) rfl ?_
      refine xg_callV_R (cr := 0) (kc := 0) (ks := 0) (st := []) (mX1_account hl (xr x0 0) (xt_2_0 h0).2 x4 h4 M hM) bX1_account xcl1 (xt_2_0 h0).2 rfl xq_650 rfl (by decide) rfl (by decide) dX2_shiftLoans_43 (Eq.refl 46) rfl (by decide) (by decide) ?_
      intro z2 M3 hz2 hM3
      refine xg_aload_n dX2_shiftLoans_46 (Eq.refl 47) rfl ?_
      refine xg_getI (k := 5) xcl10 h1 rfl xq_343 rfl dX2_shiftLoans_47 (Eq.refl 50) ?_
      refine xg_lload dX2_shiftLoans_50 (Eq.refl 52) rfl ?_
      refine xg_lneg dX2_shiftLoans_52 (Eq.refl 53) ?_
      refine xg_callV_N (kc := 0) (ks := 0) (st := []) (mX0_shift hl z2.toNat hz2 (M3 x1 5) (hM3.I h1 rfl) (w64 (-y1)) (w64_r _) M3 hM3) bX0_shift xcl0 hz2 rfl xq_700 rfl (by decide) rfl (by decide) dX2_shiftLoans_53 (Eq.refl 56) rfl (by decide) (by decide) ?_
      intro z4 M5 hz4 hM5
      refine xg_aload_n dX2_shiftLoans_56 (Eq.refl 57) rfl ?_
      refine xg_aload_n dX2_shiftLoans_57 (Eq.refl 58) rfl ?_
      refine xg_getI (k := 5) xcl10 h1 rfl xq_343 rfl dX2_shiftLoans_58 (Eq.refl 61) ?_
      refine xg_lload dX2_shiftLoans_61 (Eq.refl 63) rfl ?_
      refine xg_callV_N (kc := 0) (ks := 0) (st := []) (mX0_shift hl x3 h3 (M5 x1 5) (hM5.I h1 rfl) y1 hy1 M5 hM5) bX0_shift xcl0 h3 rfl xq_700 rfl (by decide) rfl (by decide) dX2_shiftLoans_63 (Eq.refl 66) rfl (by decide) (by decide) ?_
      intro z6 M7 hz6 hM7
      refine xg_aload_n dX2_shiftLoans_66 (Eq.refl 67) rfl ?_
      refine xg_dup dX2_shiftLoans_67 (Eq.refl 68) rfl ?_
      refine xg_getJ (k := 6) xcl0 h3 rfl xq_647 rfl dX2_shiftLoans_68 (Eq.refl 71) ?_
      refine xg_aload_n dX2_shiftLoans_71 (Eq.refl 72) rfl ?_
      refine xg_getR (k := 0) xcl2 h0 rfl xq_109 rfl (xt_2_0 h0).1 dX2_shiftLoans_72 (Eq.refl 75) ?_
      refine xg_aload_n dX2_shiftLoans_75 (Eq.refl 76) rfl ?_
      refine xg_getI (k := 5) xcl10 h1 rfl xq_343 rfl dX2_shiftLoans_76 (Eq.refl 79) ?_
      refine xg_lload dX2_shiftLoans_79 (Eq.refl 81) rfl ?_
      refine xg_callV_J (kc := 0) (ks := 0) (st := [jv (M7 x3 6), .ref x3]) (mX1_worthOf hl (xr x0 0) (xt_2_0 h0).2 (M7 x1 5) (hM7.I h1 rfl) y1 hy1 M7 hM7) bX1_worthOf xcl1 (xt_2_0 h0).2 rfl xq_345 rfl (by decide) rfl (Nat.le_of_ble_eq_true rfl) dX2_shiftLoans_81 (Eq.refl 84) rfl (by decide) (by decide) ?_
      intro z8 M9 hz8 hM9
      refine xg_ladd dX2_shiftLoans_84 (Eq.refl 85) ?_
      refine xg_putJ (k := 6) xcl0 h3 rfl xq_647 rfl (by decide +kernel) dX2_shiftLoans_85 (Eq.refl 88) rfl hM9 (w64_r _) ?_
      intro M10 hM10
      refine xg_iinc (ls2 := [some (.ref x0), some (.ref x1), some (iv x2), some (.ref x3), some (iv (w32 (x4 + 1))), some (jv y1), none]) dX2_shiftLoans_88 (Eq.refl 91) rfl (by decide) rfl ?_
      refine xg_goto (tgt := 15) dX2_shiftLoans_91 (by decide) ?_
      exact xg_jump (ih (w32 (x4 + 1)) (w32_r _) M10 hM10) (xsb_s (xsb_s (xsb_s (xsb_s (xsb_s (xsb_n (xsb_n xsb_0))))))) (by decide) (by decide)
theorem mX2_shiftLoans {l : Launch} {G : xG} (hl : l.stackTraces = false) (x0 : Nat) (h0 : xOb 2 x0) (x1 : Nat) (h1 : xOb 10 x1) (x2 : Int) (h2 : R32 x2) (M : xM) (hM : xcan M) : Cm l G yX2_shiftLoans cX2_shiftLoans 7 none 3 3 0 0 [.ref x0, .ref x1, iv x2] M (fX2_shiftLoans x0 x1 x2 M) := by
  refine xcm_of (u := uX2_shiftLoans) (ls := [some (.ref x0), some (.ref x1), some (iv x2), none, none, none, none]) 4 hl rfl (by decide +kernel) (Nat.le_of_ble_eq_true rfl) rfl ?_
  unfold fX2_shiftLoans
  refine xg_aload_n dX2_shiftLoans_0 (Eq.refl 1) rfl ?_
  refine xg_getR (k := 0) xcl2 h0 rfl xq_109 rfl (xt_2_0 h0).1 dX2_shiftLoans_1 (Eq.refl 4) ?_
  refine xg_aload_n dX2_shiftLoans_4 (Eq.refl 5) rfl ?_
  refine xg_getI (k := 3) xcl10 h1 rfl xq_382 rfl dX2_shiftLoans_5 (Eq.refl 8) ?_
  refine xg_callV_R (cr := 0) (kc := 0) (ks := 0) (st := []) (mX1_account hl (xr x0 0) (xt_2_0 h0).2 (M x1 3) (hM.I h1 rfl) M hM) bX1_account xcl1 (xt_2_0 h0).2 rfl xq_650 rfl (by decide) rfl (by decide) dX2_shiftLoans_8 (Eq.refl 11) rfl (by decide) (by decide) ?_
  intro z1 M2 hz1 hM2
  refine xg_astore_n (ls2 := [some (.ref x0), some (.ref x1), some (iv x2), some (.ref z1.toNat), none, none, none]) dX2_shiftLoans_11 (Eq.refl 12) (by decide) rfl ?_
  refine xg_iconst dX2_shiftLoans_12 (Eq.refl 13) ?_
  refine xg_istore (ls2 := [some (.ref x0), some (.ref x1), some (iv x2), some (.ref z1.toNat), some (iv 0), none, none]) dX2_shiftLoans_13 (Eq.refl 15) (by decide) rfl ?_
  exact xg_jump (gX2_shiftLoans_15 hl x0 h0 x1 h1 x2 h2 z1.toNat hz1 xN 0 (by decide) M2 hM2) (xsb_s (xsb_s (xsb_s (xsb_s (xsb_s (xsb_n (xsb_n xsb_0))))))) (by decide) (by decide)
abbrev uX2_areLendersFirm : xU := (RX2, cX2_areLendersFirm, 2, (some .boolean), [], "areLendersFirm")
theorem bX2_areLendersFirm : xYV yX2_areLendersFirm cX2_areLendersFirm 2 (some .boolean) 0 := ⟨xq_702, xq_703, xq_22, xq_704, ⟨by decide +kernel, by decide +kernel, by decide +kernel⟩, by decide⟩
theorem gX2_areLendersFirm_35 {l : Launch} {G : xG} (hl : l.stackTraces = false) (rc2 : Int → xM → xO) (x0 : Nat) (h0 : xOb 2 x0) (x1 : Int) (h1 : R32 x1) (hr2 : ∀ w1 : Int, R32 w1 → ∀ M : xM, xcan M → Gv l G uX2_areLendersFirm 4 1 0 0 2 [some (.ref x0), some (iv w1)] [] M (rc2 w1 M)) (M : xM) (hM : xcan M) : Gv l G uX2_areLendersFirm 4 1 0 0 35 [some (.ref x0), some (iv x1)] [] M (fX2_areLendersFirm_35 rc2 x0 x1 M) := by
  unfold fX2_areLendersFirm_35
  refine xg_iinc (ls2 := [some (.ref x0), some (iv (w32 (x1 + 1)))]) dX2_areLendersFirm_35 (Eq.refl 38) rfl (by decide) rfl ?_
  refine xg_goto (tgt := 2) dX2_areLendersFirm_38 (by decide) ?_
  exact xg_jump (hr2 (w32 (x1 + 1)) (w32_r _) M hM) (xsb_s (xsb_s xsb_0)) (by decide) (by decide)
theorem gX2_areLendersFirm_2 {l : Launch} {G : xG} (hl : l.stackTraces = false) (x0 : Nat) (h0 : xOb 2 x0) : ∀ (n : Nat) (x1 : Int) (_ : R32 x1) (M : xM) (_ : xcan M), Gv l G uX2_areLendersFirm 4 1 0 0 2 [some (.ref x0), some (iv x1)] [] M (fX2_areLendersFirm_2 x0 n x1 M) := by
  intro n; induction n with
  | zero => intro x1 h1 M hM; exact xg_none
  | succ n ih =>
    intro x1 h1 M hM
    rw [fX2_areLendersFirm_2]
    refine xg_iload_n dX2_areLendersFirm_2 (Eq.refl 3) rfl ?_
    refine xg_aload_n dX2_areLendersFirm_3 (Eq.refl 4) rfl ?_
    refine xg_getR (k := 3) xcl2 h0 rfl xq_108 rfl (xt_2_3 h0).1 dX2_areLendersFirm_4 (Eq.refl 7) ?_
    refine xg_alen (z := 10) (xt_2_3 h0).2 (by decide) dX2_areLendersFirm_7 (Eq.refl 8) rfl ?_
    refine xg_icmp_ge (tgt := 41) dX2_areLendersFirm_8 (Eq.refl 11) (by decide) h1 (by decide) ?_ ?_
    · refine xg_iconst dX2_areLendersFirm_41 (Eq.refl 42) ?_
      exact xg_zret rfl dX2_areLendersFirm_42 rfl hM (by decide)
    · refine xg_aload_n dX2_areLendersFirm_11 (Eq.refl 12) rfl ?_
      refine xg_getR (k := 3) xcl2 h0 rfl xq_108 rfl (xt_2_3 h0).1 dX2_areLendersFirm_12 (Eq.refl 15) ?_
      refine xg_iload_n dX2_areLendersFirm_15 (Eq.refl 16) rfl ?_
      refine xg_lald (xt_2_3 h0).2 dX2_areLendersFirm_16 (Eq.refl 17) ?_
      refine xg_lconst (z := 0) dX2_areLendersFirm_17 (Eq.refl 18) rfl ?_
      refine xg_lif_le (tgt := 35) dX2_areLendersFirm_18 (Eq.refl 19) dX2_areLendersFirm_19 (Eq.refl 22) (by decide) (hM.aj (xt_2_3 h0).2) (by decide) ?_ ?_
      · exact xg_jump (gX2_areLendersFirm_35 hl (fX2_areLendersFirm_2 x0 n) x0 h0 x1 h1 ih M hM) (xsb_s (xsb_s xsb_0)) (by decide) (by decide)
      · refine xg_aload_n dX2_areLendersFirm_22 (Eq.refl 23) rfl ?_
        refine xg_getR (k := 0) xcl2 h0 rfl xq_109 rfl (xt_2_0 h0).1 dX2_areLendersFirm_23 (Eq.refl 26) ?_
        refine xg_iload_n dX2_areLendersFirm_26 (Eq.refl 27) rfl ?_
        refine xg_callV_Z (kc := 0) (ks := 0) (st := []) (mX1_isFirm hl (xr x0 0) (xt_2_0 h0).2 x1 h1 M hM) bX1_isFirm xcl1 (xt_2_0 h0).2 rfl xq_384 rfl (by decide) rfl (by decide) dX2_areLendersFirm_27 (Eq.refl 30) rfl (by decide) (by decide) ?_
        intro z1 M2 hz1 hM2
        refine xg_if_ne (tgt := 35) dX2_areLendersFirm_30 (Eq.refl 33) (by decide) (B01.r hz1) ?_ ?_
        · refine xg_iconst dX2_areLendersFirm_33 (Eq.refl 34) ?_
          exact xg_zret rfl dX2_areLendersFirm_34 rfl hM2 (by decide)
        · exact xg_jump (gX2_areLendersFirm_35 hl (fX2_areLendersFirm_2 x0 n) x0 h0 x1 h1 ih M2 hM2) (xsb_s (xsb_s xsb_0)) (by decide) (by decide)
theorem mX2_areLendersFirm {l : Launch} {G : xG} (hl : l.stackTraces = false) (x0 : Nat) (h0 : xOb 2 x0) (M : xM) (hM : xcan M) : Cm l G yX2_areLendersFirm cX2_areLendersFirm 2 (some .boolean) 4 1 0 0 [.ref x0] M (fX2_areLendersFirm x0 M) := by
  refine xcm_of (u := uX2_areLendersFirm) (ls := [some (.ref x0), none]) 1 hl rfl (by decide +kernel) (Nat.le_of_ble_eq_true rfl) rfl ?_
  unfold fX2_areLendersFirm
  refine xg_iconst dX2_areLendersFirm_0 (Eq.refl 1) ?_
  refine xg_istore_n (ls2 := [some (.ref x0), some (iv 0)]) dX2_areLendersFirm_1 (Eq.refl 2) (by decide) rfl ?_
  exact xg_jump (gX2_areLendersFirm_2 hl x0 h0 xN 0 (by decide) M hM) (xsb_s (xsb_s xsb_0)) (by decide) (by decide)
abbrev uX2_makeLoans : xU := (RX2, cX2_makeLoans, 5, none, [], "makeLoans")
theorem bX2_makeLoans : xYV yX2_makeLoans cX2_makeLoans 5 none 1 := ⟨xq_706, xq_707, xq_22, xq_708, ⟨by decide +kernel, by decide +kernel, by decide +kernel⟩, by decide⟩
theorem gX2_makeLoans_156 {l : Launch} {G : xG} (hl : l.stackTraces = false) (rc14 : Int → xM → xO) (x0 : Nat) (h0 : xOb 2 x0) (x1 : Nat) (h1 : xOb 10 x1) (x2 : Nat) (h2 : xOb 0 x2) (x3 : Int) (h3 : R32 x3) (hr14 : ∀ w3 : Int, R32 w3 → ∀ M : xM, xcan M → Gv l G uX2_makeLoans 4 3 0 0 14 [some (.ref x0), some (.ref x1), some (.ref x2), some (iv w3), none] [] M (rc14 w3 M)) (M : xM) (hM : xcan M) : Gv l G uX2_makeLoans 4 3 0 0 156 [some (.ref x0), some (.ref x1), some (.ref x2), some (iv x3), none] [] M (fX2_makeLoans_156 rc14 x0 x1 x2 x3 M) := by
  unfold fX2_makeLoans_156
  refine xg_iinc (ls2 := [some (.ref x0), some (.ref x1), some (.ref x2), some (iv (w32 (x3 + 1))), none]) dX2_makeLoans_156 (Eq.refl 159) rfl (by decide) rfl ?_
  refine xg_goto (tgt := 14) dX2_makeLoans_159 (by decide) ?_
  exact xg_jump (hr14 (w32 (x3 + 1)) (w32_r _) M hM) (xsb_s (xsb_s (xsb_s (xsb_s (xsb_n xsb_0))))) (by decide) (by decide)
theorem gX2_makeLoans_14 {l : Launch} {G : xG} (hl : l.stackTraces = false) (x0 : Nat) (h0 : xOb 2 x0) (x1 : Nat) (h1 : xOb 10 x1) (x2 : Nat) (h2 : xOb 0 x2) : ∀ (n : Nat) (x3 : Int) (_ : R32 x3) (M : xM) (_ : xcan M), Gv l G uX2_makeLoans 4 3 0 0 14 [some (.ref x0), some (.ref x1), some (.ref x2), some (iv x3), none] [] M (fX2_makeLoans_14 x0 x1 x2 n x3 M) := by
  intro n; induction n with
  | zero => intro x3 h3 M hM; exact xg_none
  | succ n ih =>
    intro x3 h3 M hM
    rw [fX2_makeLoans_14]
    refine xg_iload_n dX2_makeLoans_14 (Eq.refl 15) rfl ?_
    refine xg_aload_n dX2_makeLoans_15 (Eq.refl 16) rfl ?_
    refine xg_getR (k := 3) xcl2 h0 rfl xq_108 rfl (xt_2_3 h0).1 dX2_makeLoans_16 (Eq.refl 19) ?_
    refine xg_alen (z := 10) (xt_2_3 h0).2 (by decide) dX2_makeLoans_19 (Eq.refl 20) rfl ?_
    refine xg_icmp_ge (tgt := 162) dX2_makeLoans_20 (Eq.refl 23) (by decide) h3 (by decide) ?_ ?_
    · exact xg_vret rfl dX2_makeLoans_162 rfl hM
    · refine xg_aload_n dX2_makeLoans_23 (Eq.refl 24) rfl ?_
      refine xg_getR (k := 3) xcl2 h0 rfl xq_108 rfl (xt_2_3 h0).1 dX2_makeLoans_24 (Eq.refl 27) ?_
      refine xg_iload_n dX2_makeLoans_27 (Eq.refl 28) rfl ?_
      refine xg_lald (xt_2_3 h0).2 dX2_makeLoans_28 (Eq.refl 29) ?_
      refine xg_lconst (z := 0) dX2_makeLoans_29 (Eq.refl 30) rfl ?_
      refine xg_lif_le (tgt := 156) dX2_makeLoans_30 (Eq.refl 31) dX2_makeLoans_31 (Eq.refl 34) (by decide) (hM.aj (xt_2_3 h0).2) (by decide) ?_ ?_
      · exact xg_jump (gX2_makeLoans_156 hl (fX2_makeLoans_14 x0 x1 x2 n) x0 h0 x1 h1 x2 h2 x3 h3 ih M hM) (xsb_s (xsb_s (xsb_s (xsb_s (xsb_n xsb_0))))) (by decide) (by decide)
      · refine xg_aload_n dX2_makeLoans_34 (Eq.refl 35) rfl ?_
        refine xg_getR (k := 0) xcl2 h0 rfl xq_109 rfl (xt_2_0 h0).1 dX2_makeLoans_35 (Eq.refl 38) ?_
        refine xg_aload_n dX2_makeLoans_38 (Eq.refl 39) rfl ?_
        refine xg_getR (k := 0) xcl2 h0 rfl xq_109 rfl (xt_2_0 h0).1 dX2_makeLoans_39 (Eq.refl 42) ?_
        refine xg_getI (k := 14) xcl1 (xt_2_0 h0).2 rfl xq_641 rfl dX2_makeLoans_42 (Eq.refl 45) ?_
        refine xg_callV_R (cr := 7) (kc := 0) (ks := 0) (st := []) (mX1_loanAt hl (xr x0 0) (xt_2_0 h0).2 (M (xr x0 0) 14) (hM.I (xt_2_0 h0).2 rfl) M hM) bX1_loanAt xcl1 (xt_2_0 h0).2 rfl xq_649 rfl (by decide) rfl (by decide) dX2_makeLoans_45 (Eq.refl 48) rfl (by decide) (by decide) ?_
        intro z1 M2 hz1 hM2
        refine xg_astore (ls2 := [some (.ref x0), some (.ref x1), some (.ref x2), some (iv x3), some (.ref z1.toNat)]) dX2_makeLoans_48 (Eq.refl 50) (by decide) rfl ?_
        refine xg_aload dX2_makeLoans_50 (Eq.refl 52) rfl ?_
        refine xg_iload_n dX2_makeLoans_52 (Eq.refl 53) rfl ?_
        refine xg_putI (k := 0) xcl7 hz1 rfl xq_646 rfl (by decide +kernel) dX2_makeLoans_53 (Eq.refl 56) rfl hM2 h3 ?_
        intro M3 hM3
        refine xg_aload dX2_makeLoans_56 (Eq.refl 58) rfl ?_
        refine xg_aload_n dX2_makeLoans_58 (Eq.refl 59) rfl ?_
        refine xg_getI (k := 3) xcl10 h1 rfl xq_382 rfl dX2_makeLoans_59 (Eq.refl 62) ?_
        refine xg_putI (k := 1) xcl7 hz1 rfl xq_642 rfl (by decide +kernel) dX2_makeLoans_62 (Eq.refl 65) rfl hM3 (hM3.I h1 rfl) ?_
        intro M4 hM4
        refine xg_aload dX2_makeLoans_65 (Eq.refl 67) rfl ?_
        refine xg_aload_n dX2_makeLoans_67 (Eq.refl 68) rfl ?_
        refine xg_getI (k := 5) xcl10 h1 rfl xq_343 rfl dX2_makeLoans_68 (Eq.refl 71) ?_
        refine xg_putI (k := 2) xcl7 hz1 rfl xq_644 rfl (by decide +kernel) dX2_makeLoans_71 (Eq.refl 74) rfl hM4 (hM4.I h1 rfl) ?_
        intro M5 hM5
        refine xg_aload dX2_makeLoans_74 (Eq.refl 76) rfl ?_
        refine xg_aload_n dX2_makeLoans_76 (Eq.refl 77) rfl ?_
        refine xg_getR (k := 3) xcl2 h0 rfl xq_108 rfl (xt_2_3 h0).1 dX2_makeLoans_77 (Eq.refl 80) ?_
        refine xg_iload_n dX2_makeLoans_80 (Eq.refl 81) rfl ?_
        refine xg_lald (xt_2_3 h0).2 dX2_makeLoans_81 (Eq.refl 82) ?_
        refine xg_putJ (k := 3) xcl7 hz1 rfl xq_645 rfl (by decide +kernel) dX2_makeLoans_82 (Eq.refl 85) rfl hM5 (hM5.aj (xt_2_3 h0).2) ?_
        intro M6 hM6
        refine xg_aload dX2_makeLoans_85 (Eq.refl 87) rfl ?_
        refine xg_aload_n dX2_makeLoans_87 (Eq.refl 88) rfl ?_
        refine xg_getR (k := 0) xcl2 h0 rfl xq_109 rfl (xt_2_0 h0).1 dX2_makeLoans_88 (Eq.refl 91) ?_
        refine xg_aload_n dX2_makeLoans_91 (Eq.refl 92) rfl ?_
        refine xg_getI (k := 5) xcl10 h1 rfl xq_343 rfl dX2_makeLoans_92 (Eq.refl 95) ?_
        refine xg_aload_n dX2_makeLoans_95 (Eq.refl 96) rfl ?_
        refine xg_getR (k := 3) xcl2 h0 rfl xq_108 rfl (xt_2_3 h0).1 dX2_makeLoans_96 (Eq.refl 99) ?_
        refine xg_iload_n dX2_makeLoans_99 (Eq.refl 100) rfl ?_
        refine xg_lald (xt_2_3 h0).2 dX2_makeLoans_100 (Eq.refl 101) ?_
        refine xg_callV_J (kc := 0) (ks := 0) (st := [.ref z1.toNat]) (mX1_worthOf hl (xr x0 0) (xt_2_0 h0).2 (M6 x1 5) (hM6.I h1 rfl) (M6 (xr x0 3) x3.toNat) (hM6.aj (xt_2_3 h0).2) M6 hM6) bX1_worthOf xcl1 (xt_2_0 h0).2 rfl xq_345 rfl (by decide) rfl (Nat.le_of_ble_eq_true rfl) dX2_makeLoans_101 (Eq.refl 104) rfl (by decide) (by decide) ?_
        intro z7 M8 hz7 hM8
        refine xg_putJ (k := 4) xcl7 hz1 rfl xq_648 rfl (by decide +kernel) dX2_makeLoans_104 (Eq.refl 107) rfl hM8 hz7 ?_
        intro M9 hM9
        refine xg_aload_n dX2_makeLoans_107 (Eq.refl 108) rfl ?_
        refine xg_getR (k := 0) xcl2 h0 rfl xq_109 rfl (xt_2_0 h0).1 dX2_makeLoans_108 (Eq.refl 111) ?_
        refine xg_dup dX2_makeLoans_111 (Eq.refl 112) rfl ?_
        refine xg_getI (k := 14) xcl1 (xt_2_0 h0).2 rfl xq_641 rfl dX2_makeLoans_112 (Eq.refl 115) ?_
        refine xg_iconst dX2_makeLoans_115 (Eq.refl 116) ?_
        refine xg_iadd dX2_makeLoans_116 (Eq.refl 117) ?_
        refine xg_putI (k := 14) xcl1 (xt_2_0 h0).2 rfl xq_641 rfl (by decide +kernel) dX2_makeLoans_117 (Eq.refl 120) rfl hM9 (w32_r _) ?_
        intro M10 hM10
        refine xg_aload_n dX2_makeLoans_120 (Eq.refl 121) rfl ?_
        refine xg_getR (k := 0) xcl2 h0 rfl xq_109 rfl (xt_2_0 h0).1 dX2_makeLoans_121 (Eq.refl 124) ?_
        refine xg_iload_n dX2_makeLoans_124 (Eq.refl 125) rfl ?_
        refine xg_aload_n dX2_makeLoans_125 (Eq.refl 126) rfl ?_
        refine xg_getI (k := 3) xcl10 h1 rfl xq_382 rfl dX2_makeLoans_126 (Eq.refl 129) ?_
        refine xg_aload_n dX2_makeLoans_129 (Eq.refl 130) rfl ?_
        refine xg_getI (k := 5) xcl10 h1 rfl xq_343 rfl dX2_makeLoans_130 (Eq.refl 133) ?_
        refine xg_aload_n dX2_makeLoans_133 (Eq.refl 134) rfl ?_
        refine xg_getR (k := 3) xcl2 h0 rfl xq_108 rfl (xt_2_3 h0).1 dX2_makeLoans_134 (Eq.refl 137) ?_
        refine xg_iload_n dX2_makeLoans_137 (Eq.refl 138) rfl ?_
        refine xg_lald (xt_2_3 h0).2 dX2_makeLoans_138 (Eq.refl 139) ?_
        refine xg_callV_N (kc := 0) (ks := 0) (st := []) (mX1_moveUnits hl (xr x0 0) (xt_2_0 h0).2 x3 h3 (M10 x1 3) (hM10.I h1 rfl) (M10 x1 5) (hM10.I h1 rfl) (M10 (xr x0 3) x3.toNat) (hM10.aj (xt_2_3 h0).2) M10 hM10) bX1_moveUnits xcl1 (xt_2_0 h0).2 rfl xq_652 rfl (by decide) rfl (by decide) dX2_makeLoans_139 (Eq.refl 142) rfl (by decide) (by decide) ?_
        intro z11 M12 hz11 hM12
        refine xg_aload_n dX2_makeLoans_142 (Eq.refl 143) rfl ?_
        refine xg_dup dX2_makeLoans_143 (Eq.refl 144) rfl ?_
        refine xg_getJ (k := 6) xcl0 h2 rfl xq_647 rfl dX2_makeLoans_144 (Eq.refl 147) ?_
        refine xg_aload dX2_makeLoans_147 (Eq.refl 149) rfl ?_
        refine xg_getJ (k := 4) xcl7 hz1 rfl xq_648 rfl dX2_makeLoans_149 (Eq.refl 152) ?_
        refine xg_ladd dX2_makeLoans_152 (Eq.refl 153) ?_
        refine xg_putJ (k := 6) xcl0 h2 rfl xq_647 rfl (by decide +kernel) dX2_makeLoans_153 (Eq.refl 156) rfl hM12 (w64_r _) ?_
        intro M13 hM13
        exact xg_jump (gX2_makeLoans_156 hl (fX2_makeLoans_14 x0 x1 x2 n) x0 h0 x1 h1 x2 h2 x3 h3 ih M13 hM13) (xsb_s (xsb_s (xsb_s (xsb_s (xsb_n xsb_0))))) (by decide) (by decide)
theorem mX2_makeLoans {l : Launch} {G : xG} (hl : l.stackTraces = false) (x0 : Nat) (h0 : xOb 2 x0) (x1 : Nat) (h1 : xOb 10 x1) (M : xM) (hM : xcan M) : Cm l G yX2_makeLoans cX2_makeLoans 5 none 4 3 0 0 [.ref x0, .ref x1] M (fX2_makeLoans x0 x1 M) := by
  refine xcm_of (u := uX2_makeLoans) (ls := [some (.ref x0), some (.ref x1), none, none, none]) 3 hl rfl (by decide +kernel) (Nat.le_of_ble_eq_true rfl) rfl ?_
  unfold fX2_makeLoans
  refine xg_aload_n dX2_makeLoans_0 (Eq.refl 1) rfl ?_
  refine xg_getR (k := 0) xcl2 h0 rfl xq_109 rfl (xt_2_0 h0).1 dX2_makeLoans_1 (Eq.refl 4) ?_
  refine xg_aload_n dX2_makeLoans_4 (Eq.refl 5) rfl ?_
  refine xg_getI (k := 3) xcl10 h1 rfl xq_382 rfl dX2_makeLoans_5 (Eq.refl 8) ?_
  refine xg_callV_R (cr := 0) (kc := 0) (ks := 0) (st := []) (mX1_account hl (xr x0 0) (xt_2_0 h0).2 (M x1 3) (hM.I h1 rfl) M hM) bX1_account xcl1 (xt_2_0 h0).2 rfl xq_650 rfl (by decide) rfl (by decide) dX2_makeLoans_8 (Eq.refl 11) rfl (by decide) (by decide) ?_
  intro z1 M2 hz1 hM2
  refine xg_astore_n (ls2 := [some (.ref x0), some (.ref x1), some (.ref z1.toNat), none, none]) dX2_makeLoans_11 (Eq.refl 12) (by decide) rfl ?_
  refine xg_iconst dX2_makeLoans_12 (Eq.refl 13) ?_
  refine xg_istore_n (ls2 := [some (.ref x0), some (.ref x1), some (.ref z1.toNat), some (iv 0), none]) dX2_makeLoans_13 (Eq.refl 14) (by decide) rfl ?_
  exact xg_jump (gX2_makeLoans_14 hl x0 h0 x1 h1 z1.toNat hz1 xN 0 (by decide) M2 hM2) (xsb_s (xsb_s (xsb_s (xsb_s (xsb_n xsb_0))))) (by decide) (by decide)
abbrev uX2_settleByLoan : xU := (RX2, cX2_settleByLoan, 7, (some .boolean), [], "settleByLoan")
theorem bX2_settleByLoan : xYV yX2_settleByLoan cX2_settleByLoan 7 (some .boolean) 1 := ⟨xq_680, xq_681, xq_22, xq_682, ⟨by decide +kernel, by decide +kernel, by decide +kernel⟩, by decide⟩
theorem gX2_settleByLoan_166 {l : Launch} {G : xG} (hl : l.stackTraces = false) (x0 : Nat) (h0 : xOb 2 x0) (x1 : Nat) (h1 : xOb 10 x1) (s0 : Int) (hs0 : B01 s0) (M : xM) (hM : xcan M) : Gv l G uX2_settleByLoan 5 1 0 0 166 [some (.ref x0), some (.ref x1), none, none, none, none, none] [iv s0] M (fX2_settleByLoan_166 x0 x1 s0 M) := by
  unfold fX2_settleByLoan_166
  refine xg_istore (ls2 := [some (.ref x0), some (.ref x1), none, none, none, none, some (iv s0)]) dX2_settleByLoan_166 (Eq.refl 168) (by decide) rfl ?_
  refine xg_aload_n dX2_settleByLoan_168 (Eq.refl 169) rfl ?_
  refine xg_getR (k := 0) xcl2 h0 rfl xq_109 rfl (xt_2_0 h0).1 dX2_settleByLoan_169 (Eq.refl 172) ?_
  refine xg_aload_n dX2_settleByLoan_172 (Eq.refl 173) rfl ?_
  refine xg_aload_n dX2_settleByLoan_173 (Eq.refl 174) rfl ?_
  refine xg_getJ (k := 6) xcl10 h1 rfl xq_344 rfl dX2_settleByLoan_174 (Eq.refl 177) ?_
  refine xg_lneg dX2_settleByLoan_177 (Eq.refl 178) ?_
  refine xg_aload_n dX2_settleByLoan_178 (Eq.refl 179) rfl ?_
  refine xg_getJ (k := 7) xcl10 h1 rfl xq_342 rfl dX2_settleByLoan_179 (Eq.refl 182) ?_
  refine xg_lneg dX2_settleByLoan_182 (Eq.refl 183) ?_
  refine xg_callV_N (kc := 0) (ks := 0) (st := []) (mX1_shift hl (xr x0 0) (xt_2_0 h0).2 x1 h1 (w64 (-(M x1 6))) (w64_r _) (w64 (-(M x1 7))) (w64_r _) M hM) bX1_shift xcl1 (xt_2_0 h0).2 rfl xq_407 rfl (by decide) rfl (by decide) dX2_settleByLoan_183 (Eq.refl 186) rfl (by decide) (by decide) ?_
  intro z1 M2 hz1 hM2
  refine xg_aload_n dX2_settleByLoan_186 (Eq.refl 187) rfl ?_
  refine xg_aload_n dX2_settleByLoan_187 (Eq.refl 188) rfl ?_
  refine xg_iconst dX2_settleByLoan_188 (Eq.refl 189) ?_
  refine xg_callV_N (kc := 0) (ks := 0) (st := []) (mX2_shiftLoans hl x0 h0 x1 h1 (-1) (by decide) M2 hM2) bX2_shiftLoans xcl2 h0 rfl xq_696 rfl (by decide) rfl (by decide) dX2_settleByLoan_189 (Eq.refl 192) rfl (by decide) (by decide) ?_
  intro z3 M4 hz3 hM4
  refine xg_iload dX2_settleByLoan_192 (Eq.refl 194) rfl ?_
  refine xg_if_eq (tgt := 210) dX2_settleByLoan_194 (Eq.refl 197) (by decide) (B01.r hs0) ?_ ?_
  · refine xg_iload dX2_settleByLoan_210 (Eq.refl 212) rfl ?_
    exact xg_zret rfl dX2_settleByLoan_212 rfl hM4 hs0
  · refine xg_aload_n dX2_settleByLoan_197 (Eq.refl 198) rfl ?_
    refine xg_aload_n dX2_settleByLoan_198 (Eq.refl 199) rfl ?_
    refine xg_callV_N (kc := 0) (ks := 0) (st := []) (mX2_makeLoans hl x0 h0 x1 h1 M4 hM4) bX2_makeLoans xcl2 h0 rfl xq_705 rfl (by decide) rfl (by decide) dX2_settleByLoan_199 (Eq.refl 202) rfl (by decide) (by decide) ?_
    intro z5 M6 hz5 hM6
    refine xg_aload_n dX2_settleByLoan_202 (Eq.refl 203) rfl ?_
    refine xg_getR (k := 0) xcl2 h0 rfl xq_109 rfl (xt_2_0 h0).1 dX2_settleByLoan_203 (Eq.refl 206) ?_
    refine xg_aload_n dX2_settleByLoan_206 (Eq.refl 207) rfl ?_
    refine xg_callV_N (kc := 0) (ks := 0) (st := []) (mX1_settleWhole hl (xr x0 0) (xt_2_0 h0).2 x1 h1 M6 hM6) bX1_settleWhole xcl1 (xt_2_0 h0).2 rfl xq_662 rfl (by decide) rfl (by decide) dX2_settleByLoan_207 (Eq.refl 210) rfl (by decide) (by decide) ?_
    intro z7 M8 hz7 hM8
    refine xg_iload dX2_settleByLoan_210 (Eq.refl 212) rfl ?_
    exact xg_zret rfl dX2_settleByLoan_212 rfl hM8 hs0
theorem gX2_settleByLoan_165 {l : Launch} {G : xG} (hl : l.stackTraces = false) (x0 : Nat) (h0 : xOb 2 x0) (x1 : Nat) (h1 : xOb 10 x1) (M : xM) (hM : xcan M) : Gv l G uX2_settleByLoan 5 1 0 0 165 [some (.ref x0), some (.ref x1), none, none, none, none, none] [] M (fX2_settleByLoan_165 x0 x1 M) := by
  unfold fX2_settleByLoan_165
  refine xg_iconst dX2_settleByLoan_165 (Eq.refl 166) ?_
  exact xg_jump (gX2_settleByLoan_166 hl x0 h0 x1 h1 0 (by decide) M hM) (xsb_s (xsb_s (xsb_n (xsb_n (xsb_n (xsb_n (xsb_n xsb_0))))))) (by decide) (by decide)
theorem gX2_settleByLoan_66 {l : Launch} {G : xG} (hl : l.stackTraces = false) (rc37 : Int → Int → xM → xO) (x0 : Nat) (h0 : xOb 2 x0) (x1 : Nat) (h1 : xOb 10 x1) (x3 : Int) (h3 : R64 x3) (x6 : Int) (h6 : R32 x6) (s0 : Int) (hs0 : B01 s0) (s1 : Int) (hs1 : R32 s1) (hr37 : ∀ w5 : Int, R32 w5 → ∀ w6 : Int, R32 w6 → ∀ M : xM, xcan M → Gv l G uX2_settleByLoan 5 1 0 0 37 [some (.ref x0), some (.ref x1), none, some (jv x3), none, some (iv w5), some (iv w6)] [] M (rc37 w5 w6 M)) (M : xM) (hM : xcan M) : Gv l G uX2_settleByLoan 5 1 0 0 66 [some (.ref x0), some (.ref x1), none, some (jv x3), none, none, some (iv x6)] [iv s0, iv s1] M (fX2_settleByLoan_66 rc37 x0 x1 x3 x6 s0 s1 M) := by
  unfold fX2_settleByLoan_66
  refine xg_iadd dX2_settleByLoan_66 (Eq.refl 67) ?_
  refine xg_istoreL (P := R32) (ls2 := fun y1 => [some (.ref x0), some (.ref x1), none, some (jv x3), none, some (iv y1), some (iv x6)]) dX2_settleByLoan_67 (Eq.refl 69) (by decide) (w32_r _) (fun _ => rfl) ?_
  intro y1 hy1
  refine xg_iinc (ls2 := [some (.ref x0), some (.ref x1), none, some (jv x3), none, some (iv y1), some (iv (w32 (x6 + 1)))]) dX2_settleByLoan_69 (Eq.refl 72) rfl (by decide) rfl ?_
  refine xg_goto (tgt := 37) dX2_settleByLoan_72 (by decide) ?_
  exact xg_jump (hr37 y1 hy1 (w32 (x6 + 1)) (w32_r _) M hM) (xsb_s (xsb_s (xsb_n (xsb_s (xsb_n (xsb_s (xsb_s xsb_0))))))) (by decide) (by decide)
theorem gX2_settleByLoan_37 {l : Launch} {G : xG} (hl : l.stackTraces = false) (x0 : Nat) (h0 : xOb 2 x0) (x1 : Nat) (h1 : xOb 10 x1) (x3 : Int) (h3 : R64 x3) : ∀ (n : Nat) (x5 : Int) (_ : R32 x5) (x6 : Int) (_ : R32 x6) (M : xM) (_ : xcan M), Gv l G uX2_settleByLoan 5 1 0 0 37 [some (.ref x0), some (.ref x1), none, some (jv x3), none, some (iv x5), some (iv x6)] [] M (fX2_settleByLoan_37 x0 x1 x3 n x5 x6 M) := by
  intro n; induction n with
  | zero => intro x5 h5 x6 h6 M hM; exact xg_none
  | succ n ih =>
    intro x5 h5 x6 h6 M hM
    rw [fX2_settleByLoan_37]
    refine xg_iload dX2_settleByLoan_37 (Eq.refl 39) rfl ?_
    refine xg_aload_n dX2_settleByLoan_39 (Eq.refl 40) rfl ?_
    refine xg_getR (k := 3) xcl2 h0 rfl xq_108 rfl (xt_2_3 h0).1 dX2_settleByLoan_40 (Eq.refl 43) ?_
    refine xg_alen (z := 10) (xt_2_3 h0).2 (by decide) dX2_settleByLoan_43 (Eq.refl 44) rfl ?_
    refine xg_icmp_ge (tgt := 75) dX2_settleByLoan_44 (Eq.refl 47) (by decide) h6 (by decide) ?_ ?_
    · refine xg_aload_n dX2_settleByLoan_75 (Eq.refl 76) rfl ?_
      refine xg_getR (k := 3) xcl2 h0 rfl xq_108 rfl (xt_2_3 h0).1 dX2_settleByLoan_76 (Eq.refl 79) ?_
      refine xg_callSN_J (kc := 0) (ks := 0) (st := []) (mX11_sumOf hl (xr x0 3) (xAn.l (xt_2_3 h0).2) M hM) bX11_sumOf (fun U h => h.2.2.2.2.2.2.2.2.2.2.2.2.2.2.2.1) rfl (by decide) rfl (by decide) dX2_settleByLoan_79 (Eq.refl 82) rfl (by decide) (by decide) ?_
      intro z1 M2 hz1 hM2
      refine xg_lload_n dX2_settleByLoan_82 (Eq.refl 83) rfl ?_
      refine xg_lif_lt (tgt := 102) dX2_settleByLoan_83 (Eq.refl 84) dX2_settleByLoan_84 (Eq.refl 87) (by decide) hz1 h3 ?_ ?_
      · refine xg_iconst dX2_settleByLoan_102 (Eq.refl 103) ?_
        exact xg_zret rfl dX2_settleByLoan_103 rfl hM2 (by decide)
      · refine xg_aload_n dX2_settleByLoan_87 (Eq.refl 88) rfl ?_
        refine xg_getR (k := 0) xcl2 h0 rfl xq_109 rfl (xt_2_0 h0).1 dX2_settleByLoan_88 (Eq.refl 91) ?_
        refine xg_getI (k := 14) xcl1 (xt_2_0 h0).2 rfl xq_641 rfl dX2_settleByLoan_91 (Eq.refl 94) ?_
        refine xg_iload dX2_settleByLoan_94 (Eq.refl 96) rfl ?_
        refine xg_iadd dX2_settleByLoan_96 (Eq.refl 97) ?_
        refine xg_bipush dX2_settleByLoan_97 (Eq.refl 99) (by decide +kernel) ?_
        refine xg_icmp_le (tgt := 104) dX2_settleByLoan_99 (Eq.refl 102) (by decide) (w32_r _) (by decide) ?_ ?_
        · refine xg_aload_n dX2_settleByLoan_104 (Eq.refl 105) rfl ?_
          refine xg_aload_n dX2_settleByLoan_105 (Eq.refl 106) rfl ?_
          refine xg_iconst dX2_settleByLoan_106 (Eq.refl 107) ?_
          refine xg_callV_N (kc := 0) (ks := 0) (st := []) (mX2_shiftLoans hl x0 h0 x1 h1 1 (by decide) M2 hM2) bX2_shiftLoans xcl2 h0 rfl xq_696 rfl (by decide) rfl (by decide) dX2_settleByLoan_107 (Eq.refl 110) rfl (by decide) (by decide) ?_
          intro z3 M4 hz3 hM4
          refine xg_aload_n dX2_settleByLoan_110 (Eq.refl 111) rfl ?_
          refine xg_getR (k := 0) xcl2 h0 rfl xq_109 rfl (xt_2_0 h0).1 dX2_settleByLoan_111 (Eq.refl 114) ?_
          refine xg_aload_n dX2_settleByLoan_114 (Eq.refl 115) rfl ?_
          refine xg_aload_n dX2_settleByLoan_115 (Eq.refl 116) rfl ?_
          refine xg_getJ (k := 6) xcl10 h1 rfl xq_344 rfl dX2_settleByLoan_116 (Eq.refl 119) ?_
          refine xg_aload_n dX2_settleByLoan_119 (Eq.refl 120) rfl ?_
          refine xg_getJ (k := 7) xcl10 h1 rfl xq_342 rfl dX2_settleByLoan_120 (Eq.refl 123) ?_
          refine xg_callV_N (kc := 0) (ks := 0) (st := []) (mX1_shift hl (xr x0 0) (xt_2_0 h0).2 x1 h1 (M4 x1 6) (hM4.J h1 rfl) (M4 x1 7) (hM4.J h1 rfl) M4 hM4) bX1_shift xcl1 (xt_2_0 h0).2 rfl xq_407 rfl (by decide) rfl (by decide) dX2_settleByLoan_123 (Eq.refl 126) rfl (by decide) (by decide) ?_
          intro z5 M6 hz5 hM6
          refine xg_aload_n dX2_settleByLoan_126 (Eq.refl 127) rfl ?_
          refine xg_getR (k := 0) xcl2 h0 rfl xq_109 rfl (xt_2_0 h0).1 dX2_settleByLoan_127 (Eq.refl 130) ?_
          refine xg_aload_n dX2_settleByLoan_130 (Eq.refl 131) rfl ?_
          refine xg_getI (k := 3) xcl10 h1 rfl xq_382 rfl dX2_settleByLoan_131 (Eq.refl 134) ?_
          refine xg_callV_Z (kc := 0) (ks := 0) (st := []) (mX1_isFirm hl (xr x0 0) (xt_2_0 h0).2 (M6 x1 3) (hM6.I h1 rfl) M6 hM6) bX1_isFirm xcl1 (xt_2_0 h0).2 rfl xq_384 rfl (by decide) rfl (by decide) dX2_settleByLoan_134 (Eq.refl 137) rfl (by decide) (by decide) ?_
          intro z7 M8 hz7 hM8
          refine xg_if_eq (tgt := 165) dX2_settleByLoan_137 (Eq.refl 140) (by decide) (B01.r hz7) ?_ ?_
          · exact xg_jump (gX2_settleByLoan_165 hl x0 h0 x1 h1 M8 hM8) (xsb_s (xsb_s (xsb_n (xsb_n (xsb_n (xsb_n (xsb_n xsb_0))))))) (by decide) (by decide)
          · refine xg_aload_n dX2_settleByLoan_140 (Eq.refl 141) rfl ?_
            refine xg_getR (k := 0) xcl2 h0 rfl xq_109 rfl (xt_2_0 h0).1 dX2_settleByLoan_141 (Eq.refl 144) ?_
            refine xg_aload_n dX2_settleByLoan_144 (Eq.refl 145) rfl ?_
            refine xg_getI (k := 4) xcl10 h1 rfl xq_383 rfl dX2_settleByLoan_145 (Eq.refl 148) ?_
            refine xg_callV_Z (kc := 0) (ks := 0) (st := []) (mX1_isFirm hl (xr x0 0) (xt_2_0 h0).2 (M8 x1 4) (hM8.I h1 rfl) M8 hM8) bX1_isFirm xcl1 (xt_2_0 h0).2 rfl xq_384 rfl (by decide) rfl (by decide) dX2_settleByLoan_148 (Eq.refl 151) rfl (by decide) (by decide) ?_
            intro z9 M10 hz9 hM10
            refine xg_if_eq (tgt := 165) dX2_settleByLoan_151 (Eq.refl 154) (by decide) (B01.r hz9) ?_ ?_
            · exact xg_jump (gX2_settleByLoan_165 hl x0 h0 x1 h1 M10 hM10) (xsb_s (xsb_s (xsb_n (xsb_n (xsb_n (xsb_n (xsb_n xsb_0))))))) (by decide) (by decide)
            · refine xg_aload_n dX2_settleByLoan_154 (Eq.refl 155) rfl ?_
              refine xg_callV_Z (kc := 0) (ks := 0) (st := []) (mX2_areLendersFirm hl x0 h0 M10 hM10) bX2_areLendersFirm xcl2 h0 rfl xq_701 rfl (by decide) rfl (by decide) dX2_settleByLoan_155 (Eq.refl 158) rfl (by decide) (by decide) ?_
              intro z11 M12 hz11 hM12
              refine xg_if_eq (tgt := 165) dX2_settleByLoan_158 (Eq.refl 161) (by decide) (B01.r hz11) ?_ ?_
              · exact xg_jump (gX2_settleByLoan_165 hl x0 h0 x1 h1 M12 hM12) (xsb_s (xsb_s (xsb_n (xsb_n (xsb_n (xsb_n (xsb_n xsb_0))))))) (by decide) (by decide)
              · refine xg_iconst dX2_settleByLoan_161 (Eq.refl 162) ?_
                refine xg_goto (tgt := 166) dX2_settleByLoan_162 (by decide) ?_
                exact xg_jump (gX2_settleByLoan_166 hl x0 h0 x1 h1 1 (by decide) M12 hM12) (xsb_s (xsb_s (xsb_n (xsb_n (xsb_n (xsb_n (xsb_n xsb_0))))))) (by decide) (by decide)
        · refine xg_iconst dX2_settleByLoan_102 (Eq.refl 103) ?_
          exact xg_zret rfl dX2_settleByLoan_103 rfl hM2 (by decide)
    · refine xg_iload dX2_settleByLoan_47 (Eq.refl 49) rfl ?_
      refine xg_aload_n dX2_settleByLoan_49 (Eq.refl 50) rfl ?_
      refine xg_getR (k := 3) xcl2 h0 rfl xq_108 rfl (xt_2_3 h0).1 dX2_settleByLoan_50 (Eq.refl 53) ?_
      refine xg_iload dX2_settleByLoan_53 (Eq.refl 55) rfl ?_
      refine xg_lald (xt_2_3 h0).2 dX2_settleByLoan_55 (Eq.refl 56) ?_
      refine xg_lconst (z := 0) dX2_settleByLoan_56 (Eq.refl 57) rfl ?_
      refine xg_lif_le (tgt := 65) dX2_settleByLoan_57 (Eq.refl 58) dX2_settleByLoan_58 (Eq.refl 61) (by decide) (hM.aj (xt_2_3 h0).2) (by decide) ?_ ?_
      · refine xg_iconst dX2_settleByLoan_65 (Eq.refl 66) ?_
        exact xg_jump (gX2_settleByLoan_66 hl (fX2_settleByLoan_37 x0 x1 x3 n) x0 h0 x1 h1 x3 h3 x6 h6 0 (by decide) x5 h5 ih M hM) (xsb_s (xsb_s (xsb_n (xsb_s (xsb_n (xsb_n (xsb_s xsb_0))))))) (by decide) (by decide)
      · refine xg_iconst dX2_settleByLoan_61 (Eq.refl 62) ?_
        refine xg_goto (tgt := 66) dX2_settleByLoan_62 (by decide) ?_
        exact xg_jump (gX2_settleByLoan_66 hl (fX2_settleByLoan_37 x0 x1 x3 n) x0 h0 x1 h1 x3 h3 x6 h6 1 (by decide) x5 h5 ih M hM) (xsb_s (xsb_s (xsb_n (xsb_s (xsb_n (xsb_n (xsb_s xsb_0))))))) (by decide) (by decide)
theorem mX2_settleByLoan {l : Launch} {G : xG} (hl : l.stackTraces = false) (x0 : Nat) (h0 : xOb 2 x0) (x1 : Nat) (h1 : xOb 10 x1) (M : xM) (hM : xcan M) : Cm l G yX2_settleByLoan cX2_settleByLoan 7 (some .boolean) 5 1 0 0 [.ref x0, .ref x1] M (fX2_settleByLoan x0 x1 M) := by
  refine xcm_of (u := uX2_settleByLoan) (ls := [some (.ref x0), some (.ref x1), none, none, none, none, none]) 5 hl rfl (by decide +kernel) (Nat.le_of_ble_eq_true rfl) rfl ?_
  unfold fX2_settleByLoan
  refine xg_aload_n dX2_settleByLoan_0 (Eq.refl 1) rfl ?_
  refine xg_aload_n dX2_settleByLoan_1 (Eq.refl 2) rfl ?_
  refine xg_callV_N (kc := 0) (ks := 0) (st := []) (mX2_findLenders hl x0 h0 x1 h1 M hM) bX2_findLenders xcl2 h0 rfl xq_683 rfl (by decide) rfl (by decide) dX2_settleByLoan_2 (Eq.refl 5) rfl (by decide) (by decide) ?_
  intro z1 M2 hz1 hM2
  refine xg_aload_n dX2_settleByLoan_5 (Eq.refl 6) rfl ?_
  refine xg_getR (k := 0) xcl2 h0 rfl xq_109 rfl (xt_2_0 h0).1 dX2_settleByLoan_6 (Eq.refl 9) ?_
  refine xg_aload_n dX2_settleByLoan_9 (Eq.refl 10) rfl ?_
  refine xg_getI (k := 3) xcl10 h1 rfl xq_382 rfl dX2_settleByLoan_10 (Eq.refl 13) ?_
  refine xg_callV_R (cr := 0) (kc := 0) (ks := 0) (st := []) (mX1_account hl (xr x0 0) (xt_2_0 h0).2 (M2 x1 3) (hM2.I h1 rfl) M2 hM2) bX1_account xcl1 (xt_2_0 h0).2 rfl xq_650 rfl (by decide) rfl (by decide) dX2_settleByLoan_13 (Eq.refl 16) rfl (by decide) (by decide) ?_
  intro z3 M4 hz3 hM4
  refine xg_astore_n (ls2 := [some (.ref x0), some (.ref x1), some (.ref z3.toNat), none, none, none, none]) dX2_settleByLoan_16 (Eq.refl 17) (by decide) rfl ?_
  refine xg_aload_n dX2_settleByLoan_17 (Eq.refl 18) rfl ?_
  refine xg_getJ (k := 6) xcl10 h1 rfl xq_344 rfl dX2_settleByLoan_18 (Eq.refl 21) ?_
  refine xg_aload_n dX2_settleByLoan_21 (Eq.refl 22) rfl ?_
  refine xg_aload_n dX2_settleByLoan_22 (Eq.refl 23) rfl ?_
  refine xg_getI (k := 5) xcl10 h1 rfl xq_343 rfl dX2_settleByLoan_23 (Eq.refl 26) ?_
  refine xg_callV_J (kc := 0) (ks := 0) (st := [jv (M4 x1 6)]) (mX0_freeOf hl z3.toNat hz3 (M4 x1 5) (hM4.I h1 rfl) M4 hM4) bX0_freeOf xcl0 hz3 rfl xq_651 rfl (by decide) rfl (Nat.le_of_ble_eq_true rfl) dX2_settleByLoan_26 (Eq.refl 29) rfl (by decide) (by decide) ?_
  intro z5 M6 hz5 hM6
  refine xg_lsub dX2_settleByLoan_29 (Eq.refl 30) ?_
  refine xg_lstore_nL (P := R64) (ls2 := fun y7 => [some (.ref x0), some (.ref x1), some (.ref z3.toNat), some (jv y7), none, none, none]) dX2_settleByLoan_30 (Eq.refl 31) (by decide) (w64_r _) (fun _ => rfl) ?_
  intro y7 hy7
  refine xg_iconst dX2_settleByLoan_31 (Eq.refl 32) ?_
  refine xg_istore (ls2 := [some (.ref x0), some (.ref x1), some (.ref z3.toNat), some (jv y7), none, some (iv 0), none]) dX2_settleByLoan_32 (Eq.refl 34) (by decide) rfl ?_
  refine xg_iconst dX2_settleByLoan_34 (Eq.refl 35) ?_
  refine xg_istore (ls2 := [some (.ref x0), some (.ref x1), some (.ref z3.toNat), some (jv y7), none, some (iv 0), some (iv 0)]) dX2_settleByLoan_35 (Eq.refl 37) (by decide) rfl ?_
  exact xg_jump (gX2_settleByLoan_37 hl x0 h0 x1 h1 y7 hy7 xN 0 (by decide) 0 (by decide) M6 hM6) (xsb_s (xsb_s (xsb_n (xsb_s (xsb_n (xsb_s (xsb_s xsb_0))))))) (by decide) (by decide)
abbrev uX2_settleByLoans : xU := (RX2, cX2_settleByLoans, 4, (some .int), [], "settleByLoans")
theorem bX2_settleByLoans : xYV yX2_settleByLoans cX2_settleByLoans 4 (some .int) 0 := ⟨xq_668, xq_669, xq_22, xq_670, ⟨by decide +kernel, by decide +kernel, by decide +kernel⟩, by decide⟩
theorem gX2_settleByLoans_59 {l : Launch} {G : xG} (hl : l.stackTraces = false) (rc4 : Int → Int → xM → xO) (x0 : Nat) (h0 : xOb 2 x0) (x1 : Int) (h1 : R32 x1) (x2 : Int) (h2 : R32 x2) (hr4 : ∀ w1 : Int, R32 w1 → ∀ w2 : Int, R32 w2 → ∀ M : xM, xcan M → Gv l G uX2_settleByLoans 6 0 0 0 4 [some (.ref x0), some (iv w1), some (iv w2), none] [] M (rc4 w1 w2 M)) (M : xM) (hM : xcan M) : Gv l G uX2_settleByLoans 6 0 0 0 59 [some (.ref x0), some (iv x1), some (iv x2), none] [] M (fX2_settleByLoans_59 rc4 x0 x1 x2 M) := by
  unfold fX2_settleByLoans_59
  refine xg_iinc (ls2 := [some (.ref x0), some (iv x1), some (iv (w32 (x2 + 1))), none]) dX2_settleByLoans_59 (Eq.refl 62) rfl (by decide) rfl ?_
  refine xg_goto (tgt := 4) dX2_settleByLoans_62 (by decide) ?_
  exact xg_jump (hr4 x1 h1 (w32 (x2 + 1)) (w32_r _) M hM) (xsb_s (xsb_s (xsb_s (xsb_n xsb_0)))) (by decide) (by decide)
theorem gX2_settleByLoans_4 {l : Launch} {G : xG} (hl : l.stackTraces = false) (x0 : Nat) (h0 : xOb 2 x0) : ∀ (n : Nat) (x1 : Int) (_ : R32 x1) (x2 : Int) (_ : R32 x2) (M : xM) (_ : xcan M), Gv l G uX2_settleByLoans 6 0 0 0 4 [some (.ref x0), some (iv x1), some (iv x2), none] [] M (fX2_settleByLoans_4 x0 n x1 x2 M) := by
  intro n; induction n with
  | zero => intro x1 h1 x2 h2 M hM; exact xg_none
  | succ n ih =>
    intro x1 h1 x2 h2 M hM
    rw [fX2_settleByLoans_4]
    refine xg_iload_n dX2_settleByLoans_4 (Eq.refl 5) rfl ?_
    refine xg_aload_n dX2_settleByLoans_5 (Eq.refl 6) rfl ?_
    refine xg_getI (k := 4) xcl2 h0 rfl xq_298 rfl dX2_settleByLoans_6 (Eq.refl 9) ?_
    refine xg_icmp_ge (tgt := 65) dX2_settleByLoans_9 (Eq.refl 12) (by decide) h2 (hM.I h0 rfl) ?_ ?_
    · refine xg_iload_n dX2_settleByLoans_65 (Eq.refl 66) rfl ?_
      exact xg_iret rfl dX2_settleByLoans_66 rfl hM h1
    · refine xg_aload_n dX2_settleByLoans_12 (Eq.refl 13) rfl ?_
      refine xg_iload_n dX2_settleByLoans_13 (Eq.refl 14) rfl ?_
      refine xg_callV_R (cr := 10) (kc := 0) (ks := 0) (st := []) (mX2_candidate hl x0 h0 x2 h2 M hM) bX2_candidate xcl2 h0 rfl xq_329 rfl (by decide) rfl (by decide) dX2_settleByLoans_14 (Eq.refl 17) rfl (by decide) (by decide) ?_
      intro z1 M2 hz1 hM2
      refine xg_astore_n (ls2 := [some (.ref x0), some (iv x1), some (iv x2), some (.ref z1.toNat)]) dX2_settleByLoans_17 (Eq.refl 18) (by decide) rfl ?_
      refine xg_aload_n dX2_settleByLoans_18 (Eq.refl 19) rfl ?_
      refine xg_getI (k := 12) xcl10 hz1 rfl xq_377 rfl dX2_settleByLoans_19 (Eq.refl 22) ?_
      refine xg_iconst dX2_settleByLoans_22 (Eq.refl 23) ?_
      refine xg_icmp_ne (tgt := 59) dX2_settleByLoans_23 (Eq.refl 26) (by decide) (hM2.I hz1 rfl) (by decide) ?_ ?_
      · refine xg_aload_n dX2_settleByLoans_26 (Eq.refl 27) rfl ?_
        refine xg_getR (k := 0) xcl2 h0 rfl xq_109 rfl (xt_2_0 h0).1 dX2_settleByLoans_27 (Eq.refl 30) ?_
        refine xg_aload_n dX2_settleByLoans_30 (Eq.refl 31) rfl ?_
        refine xg_callV_Z (kc := 0) (ks := 0) (st := []) (mX1_isLacking hl (xr x0 0) (xt_2_0 h0).2 z1.toNat hz1 M2 hM2) bX1_isLacking xcl1 (xt_2_0 h0).2 rfl xq_671 rfl (by decide) rfl (by decide) dX2_settleByLoans_31 (Eq.refl 34) rfl (by decide) (by decide) ?_
        intro z3 M4 hz3 hM4
        refine xg_if_eq (tgt := 59) dX2_settleByLoans_34 (Eq.refl 37) (by decide) (B01.r hz3) ?_ ?_
        · exact xg_jump (gX2_settleByLoans_59 hl (fX2_settleByLoans_4 x0 n) x0 h0 x1 h1 x2 h2 ih M4 hM4) (xsb_s (xsb_s (xsb_s (xsb_n xsb_0)))) (by decide) (by decide)
        · refine xg_aload_n dX2_settleByLoans_37 (Eq.refl 38) rfl ?_
          refine xg_getR (k := 0) xcl2 h0 rfl xq_109 rfl (xt_2_0 h0).1 dX2_settleByLoans_38 (Eq.refl 41) ?_
          refine xg_aload_n dX2_settleByLoans_41 (Eq.refl 42) rfl ?_
          refine xg_callV_Z (kc := 0) (ks := 0) (st := []) (mX1_isLinked hl (xr x0 0) (xt_2_0 h0).2 z1.toNat hz1 M4 hM4) bX1_isLinked xcl1 (xt_2_0 h0).2 rfl xq_675 rfl (by decide) rfl (by decide) dX2_settleByLoans_42 (Eq.refl 45) rfl (by decide) (by decide) ?_
          intro z5 M6 hz5 hM6
          refine xg_if_ne (tgt := 59) dX2_settleByLoans_45 (Eq.refl 48) (by decide) (B01.r hz5) ?_ ?_
          · refine xg_aload_n dX2_settleByLoans_48 (Eq.refl 49) rfl ?_
            refine xg_aload_n dX2_settleByLoans_49 (Eq.refl 50) rfl ?_
            refine xg_callV_Z (kc := 0) (ks := 0) (st := []) (mX2_settleByLoan hl x0 h0 z1.toNat hz1 M6 hM6) bX2_settleByLoan xcl2 h0 rfl xq_679 rfl (by decide) rfl (by decide) dX2_settleByLoans_50 (Eq.refl 53) rfl (by decide) (by decide) ?_
            intro z7 M8 hz7 hM8
            refine xg_if_eq (tgt := 59) dX2_settleByLoans_53 (Eq.refl 56) (by decide) (B01.r hz7) ?_ ?_
            · exact xg_jump (gX2_settleByLoans_59 hl (fX2_settleByLoans_4 x0 n) x0 h0 x1 h1 x2 h2 ih M8 hM8) (xsb_s (xsb_s (xsb_s (xsb_n xsb_0)))) (by decide) (by decide)
            · refine xg_iinc (ls2 := [some (.ref x0), some (iv (w32 (x1 + 1))), some (iv x2), some (.ref z1.toNat)]) dX2_settleByLoans_56 (Eq.refl 59) rfl (by decide) rfl ?_
              exact xg_jump (gX2_settleByLoans_59 hl (fX2_settleByLoans_4 x0 n) x0 h0 (w32 (x1 + 1)) (w32_r _) x2 h2 ih M8 hM8) (xsb_s (xsb_s (xsb_s (xsb_n xsb_0)))) (by decide) (by decide)
          · exact xg_jump (gX2_settleByLoans_59 hl (fX2_settleByLoans_4 x0 n) x0 h0 x1 h1 x2 h2 ih M6 hM6) (xsb_s (xsb_s (xsb_s (xsb_n xsb_0)))) (by decide) (by decide)
      · exact xg_jump (gX2_settleByLoans_59 hl (fX2_settleByLoans_4 x0 n) x0 h0 x1 h1 x2 h2 ih M2 hM2) (xsb_s (xsb_s (xsb_s (xsb_n xsb_0)))) (by decide) (by decide)
theorem mX2_settleByLoans {l : Launch} {G : xG} (hl : l.stackTraces = false) (x0 : Nat) (h0 : xOb 2 x0) (M : xM) (hM : xcan M) : Cm l G yX2_settleByLoans cX2_settleByLoans 4 (some .int) 6 0 0 0 [.ref x0] M (fX2_settleByLoans x0 M) := by
  refine xcm_of (u := uX2_settleByLoans) (ls := [some (.ref x0), none, none, none]) 3 hl rfl (by decide +kernel) (Nat.le_of_ble_eq_true rfl) rfl ?_
  unfold fX2_settleByLoans
  refine xg_iconst dX2_settleByLoans_0 (Eq.refl 1) ?_
  refine xg_istore_n (ls2 := [some (.ref x0), some (iv 0), none, none]) dX2_settleByLoans_1 (Eq.refl 2) (by decide) rfl ?_
  refine xg_iconst dX2_settleByLoans_2 (Eq.refl 3) ?_
  refine xg_istore_n (ls2 := [some (.ref x0), some (iv 0), some (iv 0), none]) dX2_settleByLoans_3 (Eq.refl 4) (by decide) rfl ?_
  exact xg_jump (gX2_settleByLoans_4 hl x0 h0 xN 0 (by decide) 0 (by decide) M hM) (xsb_s (xsb_s (xsb_s (xsb_n xsb_0)))) (by decide) (by decide)
abbrev uX2_settlePartOf : xU := (RX2, cX2_settlePartOf, 7, none, [], "settlePartOf")
theorem bX2_settlePartOf : xYV yX2_settlePartOf cX2_settlePartOf 7 none 2 := ⟨xq_715, xq_716, xq_22, xq_717, ⟨by decide +kernel, by decide +kernel, by decide +kernel⟩, by decide⟩
theorem gX2_settlePartOf_67 {l : Launch} {G : xG} (hl : l.stackTraces = false) (x0 : Nat) (h0 : xOb 2 x0) (x1 : Nat) (h1 : xOb 10 x1) (x2 : Int) (h2 : R64 x2) (x4 : Int) (h4 : R64 x4) (s0 : Int) (hs0 : B01 s0) (M : xM) (hM : xcan M) : Gv l G uX2_settlePartOf 5 3 0 0 67 [some (.ref x0), some (.ref x1), some (jv x2), none, some (jv x4), none, none] [iv s0] M (fX2_settlePartOf_67 x0 x1 x2 x4 s0 M) := by
  unfold fX2_settlePartOf_67
  refine xg_istore (ls2 := [some (.ref x0), some (.ref x1), some (jv x2), none, some (jv x4), none, some (iv s0)]) dX2_settlePartOf_67 (Eq.refl 69) (by decide) rfl ?_
  refine xg_aload_n dX2_settlePartOf_69 (Eq.refl 70) rfl ?_
  refine xg_getR (k := 0) xcl2 h0 rfl xq_109 rfl (xt_2_0 h0).1 dX2_settlePartOf_70 (Eq.refl 73) ?_
  refine xg_aload_n dX2_settlePartOf_73 (Eq.refl 74) rfl ?_
  refine xg_lload_n dX2_settlePartOf_74 (Eq.refl 75) rfl ?_
  refine xg_lneg dX2_settlePartOf_75 (Eq.refl 76) ?_
  refine xg_lload dX2_settlePartOf_76 (Eq.refl 78) rfl ?_
  refine xg_lneg dX2_settlePartOf_78 (Eq.refl 79) ?_
  refine xg_callV_N (kc := 0) (ks := 0) (st := []) (mX1_shift hl (xr x0 0) (xt_2_0 h0).2 x1 h1 (w64 (-x2)) (w64_r _) (w64 (-x4)) (w64_r _) M hM) bX1_shift xcl1 (xt_2_0 h0).2 rfl xq_407 rfl (by decide) rfl (by decide) dX2_settlePartOf_79 (Eq.refl 82) rfl (by decide) (by decide) ?_
  intro z1 M2 hz1 hM2
  refine xg_iload dX2_settlePartOf_82 (Eq.refl 84) rfl ?_
  refine xg_if_eq (tgt := 98) dX2_settlePartOf_84 (Eq.refl 87) (by decide) (B01.r hs0) ?_ ?_
  · exact xg_vret rfl dX2_settlePartOf_98 rfl hM2
  · refine xg_aload_n dX2_settlePartOf_87 (Eq.refl 88) rfl ?_
    refine xg_getR (k := 0) xcl2 h0 rfl xq_109 rfl (xt_2_0 h0).1 dX2_settlePartOf_88 (Eq.refl 91) ?_
    refine xg_aload_n dX2_settlePartOf_91 (Eq.refl 92) rfl ?_
    refine xg_lload_n dX2_settlePartOf_92 (Eq.refl 93) rfl ?_
    refine xg_lload dX2_settlePartOf_93 (Eq.refl 95) rfl ?_
    refine xg_callV_N (kc := 0) (ks := 0) (st := []) (mX1_settlePart hl (xr x0 0) (xt_2_0 h0).2 x1 h1 x2 h2 x4 h4 M2 hM2) bX1_settlePart xcl1 (xt_2_0 h0).2 rfl xq_718 rfl (by decide) rfl (by decide) dX2_settlePartOf_95 (Eq.refl 98) rfl (by decide) (by decide) ?_
    intro z3 M4 hz3 hM4
    exact xg_vret rfl dX2_settlePartOf_98 rfl hM4
theorem gX2_settlePartOf_66 {l : Launch} {G : xG} (hl : l.stackTraces = false) (x0 : Nat) (h0 : xOb 2 x0) (x1 : Nat) (h1 : xOb 10 x1) (x2 : Int) (h2 : R64 x2) (x4 : Int) (h4 : R64 x4) (M : xM) (hM : xcan M) : Gv l G uX2_settlePartOf 5 3 0 0 66 [some (.ref x0), some (.ref x1), some (jv x2), none, some (jv x4), none, none] [] M (fX2_settlePartOf_66 x0 x1 x2 x4 M) := by
  unfold fX2_settlePartOf_66
  refine xg_iconst dX2_settlePartOf_66 (Eq.refl 67) ?_
  exact xg_jump (gX2_settlePartOf_67 hl x0 h0 x1 h1 x2 h2 x4 h4 0 (by decide) M hM) (xsb_s (xsb_s (xsb_s (xsb_n (xsb_s (xsb_n (xsb_n xsb_0))))))) (by decide) (by decide)
theorem mX2_settlePartOf {l : Launch} {G : xG} (hl : l.stackTraces = false) (x0 : Nat) (h0 : xOb 2 x0) (x1 : Nat) (h1 : xOb 10 x1) (x2 : Int) (h2 : R64 x2) (M : xM) (hM : xcan M) : Cm l G yX2_settlePartOf cX2_settlePartOf 7 none 5 3 0 0 [.ref x0, .ref x1, jv x2] M (fX2_settlePartOf x0 x1 x2 M) := by
  refine xcm_of (u := uX2_settlePartOf) (ls := [some (.ref x0), some (.ref x1), some (jv x2), none, none, none, none]) 3 hl rfl (by decide +kernel) (Nat.le_of_ble_eq_true rfl) rfl ?_
  unfold fX2_settlePartOf
  refine xg_aload_n dX2_settlePartOf_0 (Eq.refl 1) rfl ?_
  refine xg_getJ (k := 6) xcl10 h1 rfl xq_344 rfl dX2_settlePartOf_1 (Eq.refl 4) ?_
  refine xg_lconst (z := 0) dX2_settlePartOf_4 (Eq.refl 5) rfl ?_
  refine xg_lif_gt (tgt := 10) dX2_settlePartOf_5 (Eq.refl 6) dX2_settlePartOf_6 (Eq.refl 9) (by decide) (hM.J h1 rfl) (by decide) ?_ ?_
  · refine xg_aload_n dX2_settlePartOf_10 (Eq.refl 11) rfl ?_
    refine xg_getJ (k := 7) xcl10 h1 rfl xq_342 rfl dX2_settlePartOf_11 (Eq.refl 14) ?_
    refine xg_lload_n dX2_settlePartOf_14 (Eq.refl 15) rfl ?_
    refine xg_lmul dX2_settlePartOf_15 (Eq.refl 16) ?_
    refine xg_aload_n dX2_settlePartOf_16 (Eq.refl 17) rfl ?_
    refine xg_getJ (k := 6) xcl10 h1 rfl xq_344 rfl dX2_settlePartOf_17 (Eq.refl 20) ?_
    refine xg_ldiv dX2_settlePartOf_20 (Eq.refl 21) (w64_r _) (hM.J h1 rfl) ?_
    intro q1
    refine xg_lstoreL (P := R64) (ls2 := fun y2 => [some (.ref x0), some (.ref x1), some (jv x2), none, some (jv y2), none, none]) dX2_settlePartOf_21 (Eq.refl 23) (by decide) (xtd_r (w64_r _) q1) (fun _ => rfl) ?_
    intro y2 hy2
    refine xg_aload_n dX2_settlePartOf_23 (Eq.refl 24) rfl ?_
    refine xg_getR (k := 0) xcl2 h0 rfl xq_109 rfl (xt_2_0 h0).1 dX2_settlePartOf_24 (Eq.refl 27) ?_
    refine xg_aload_n dX2_settlePartOf_27 (Eq.refl 28) rfl ?_
    refine xg_lload_n dX2_settlePartOf_28 (Eq.refl 29) rfl ?_
    refine xg_lload dX2_settlePartOf_29 (Eq.refl 31) rfl ?_
    refine xg_callV_N (kc := 0) (ks := 0) (st := []) (mX1_shift hl (xr x0 0) (xt_2_0 h0).2 x1 h1 x2 h2 y2 hy2 M hM) bX1_shift xcl1 (xt_2_0 h0).2 rfl xq_407 rfl (by decide) rfl (by decide) dX2_settlePartOf_31 (Eq.refl 34) rfl (by decide) (by decide) ?_
    intro z3 M4 hz3 hM4
    refine xg_aload_n dX2_settlePartOf_34 (Eq.refl 35) rfl ?_
    refine xg_getR (k := 0) xcl2 h0 rfl xq_109 rfl (xt_2_0 h0).1 dX2_settlePartOf_35 (Eq.refl 38) ?_
    refine xg_aload_n dX2_settlePartOf_38 (Eq.refl 39) rfl ?_
    refine xg_getI (k := 3) xcl10 h1 rfl xq_382 rfl dX2_settlePartOf_39 (Eq.refl 42) ?_
    refine xg_callV_Z (kc := 0) (ks := 0) (st := []) (mX1_isFirm hl (xr x0 0) (xt_2_0 h0).2 (M4 x1 3) (hM4.I h1 rfl) M4 hM4) bX1_isFirm xcl1 (xt_2_0 h0).2 rfl xq_384 rfl (by decide) rfl (by decide) dX2_settlePartOf_42 (Eq.refl 45) rfl (by decide) (by decide) ?_
    intro z5 M6 hz5 hM6
    refine xg_if_eq (tgt := 66) dX2_settlePartOf_45 (Eq.refl 48) (by decide) (B01.r hz5) ?_ ?_
    · exact xg_jump (gX2_settlePartOf_66 hl x0 h0 x1 h1 x2 h2 y2 hy2 M6 hM6) (xsb_s (xsb_s (xsb_s (xsb_n (xsb_s (xsb_n (xsb_n xsb_0))))))) (by decide) (by decide)
    · refine xg_aload_n dX2_settlePartOf_48 (Eq.refl 49) rfl ?_
      refine xg_getR (k := 0) xcl2 h0 rfl xq_109 rfl (xt_2_0 h0).1 dX2_settlePartOf_49 (Eq.refl 52) ?_
      refine xg_aload_n dX2_settlePartOf_52 (Eq.refl 53) rfl ?_
      refine xg_getI (k := 4) xcl10 h1 rfl xq_383 rfl dX2_settlePartOf_53 (Eq.refl 56) ?_
      refine xg_callV_Z (kc := 0) (ks := 0) (st := []) (mX1_isFirm hl (xr x0 0) (xt_2_0 h0).2 (M6 x1 4) (hM6.I h1 rfl) M6 hM6) bX1_isFirm xcl1 (xt_2_0 h0).2 rfl xq_384 rfl (by decide) rfl (by decide) dX2_settlePartOf_56 (Eq.refl 59) rfl (by decide) (by decide) ?_
      intro z7 M8 hz7 hM8
      refine xg_if_eq (tgt := 66) dX2_settlePartOf_59 (Eq.refl 62) (by decide) (B01.r hz7) ?_ ?_
      · exact xg_jump (gX2_settlePartOf_66 hl x0 h0 x1 h1 x2 h2 y2 hy2 M8 hM8) (xsb_s (xsb_s (xsb_s (xsb_n (xsb_s (xsb_n (xsb_n xsb_0))))))) (by decide) (by decide)
      · refine xg_iconst dX2_settlePartOf_62 (Eq.refl 63) ?_
        refine xg_goto (tgt := 67) dX2_settlePartOf_63 (by decide) ?_
        exact xg_jump (gX2_settlePartOf_67 hl x0 h0 x1 h1 x2 h2 y2 hy2 1 (by decide) M8 hM8) (xsb_s (xsb_s (xsb_s (xsb_n (xsb_s (xsb_n (xsb_n xsb_0))))))) (by decide) (by decide)
  · exact xg_vret rfl dX2_settlePartOf_9 rfl hM
abbrev uX2_settleInPart : xU := (RX2, cX2_settleInPart, 6, none, [], "settleInPart")
theorem bX2_settleInPart : xYV yX2_settleInPart cX2_settleInPart 6 none 0 := ⟨xq_710, xq_711, xq_22, xq_712, ⟨by decide +kernel, by decide +kernel, by decide +kernel⟩, by decide⟩
theorem gX2_settleInPart_99 {l : Launch} {G : xG} (hl : l.stackTraces = false) (rc2 : Int → xM → xO) (x0 : Nat) (h0 : xOb 2 x0) (x1 : Int) (h1 : R32 x1) (hr2 : ∀ w1 : Int, R32 w1 → ∀ M : xM, xcan M → Gv l G uX2_settleInPart 6 3 0 0 2 [some (.ref x0), some (iv w1), none, none, none, none] [] M (rc2 w1 M)) (M : xM) (hM : xcan M) : Gv l G uX2_settleInPart 6 3 0 0 99 [some (.ref x0), some (iv x1), none, none, none, none] [] M (fX2_settleInPart_99 rc2 x0 x1 M) := by
  unfold fX2_settleInPart_99
  refine xg_iinc (ls2 := [some (.ref x0), some (iv (w32 (x1 + 1))), none, none, none, none]) dX2_settleInPart_99 (Eq.refl 102) rfl (by decide) rfl ?_
  refine xg_goto (tgt := 2) dX2_settleInPart_102 (by decide) ?_
  exact xg_jump (hr2 (w32 (x1 + 1)) (w32_r _) M hM) (xsb_s (xsb_s (xsb_n (xsb_n (xsb_n (xsb_n xsb_0)))))) (by decide) (by decide)
theorem gX2_settleInPart_58 {l : Launch} {G : xG} (hl : l.stackTraces = false) (rc2 : Int → xM → xO) (x0 : Nat) (h0 : xOb 2 x0) (x1 : Int) (h1 : R32 x1) (x2 : Nat) (h2 : xOb 10 x2) (x3 : Int) (h3 : R64 x3) (s0 : Int) (hs0 : B01 s0) (hr2 : ∀ w1 : Int, R32 w1 → ∀ M : xM, xcan M → Gv l G uX2_settleInPart 6 3 0 0 2 [some (.ref x0), some (iv w1), none, none, none, none] [] M (rc2 w1 M)) (M : xM) (hM : xcan M) : Gv l G uX2_settleInPart 6 3 0 0 58 [some (.ref x0), some (iv x1), some (.ref x2), some (jv x3), none, none] [iv s0] M (fX2_settleInPart_58 rc2 x0 x1 x2 x3 s0 M) := by
  unfold fX2_settleInPart_58
  refine xg_istore (ls2 := [some (.ref x0), some (iv x1), some (.ref x2), some (jv x3), none, some (iv s0)]) dX2_settleInPart_58 (Eq.refl 60) (by decide) rfl ?_
  refine xg_aload_n dX2_settleInPart_60 (Eq.refl 61) rfl ?_
  refine xg_getI (k := 12) xcl10 h2 rfl xq_377 rfl dX2_settleInPart_61 (Eq.refl 64) ?_
  refine xg_iconst dX2_settleInPart_64 (Eq.refl 65) ?_
  refine xg_icmp_ne (tgt := 99) dX2_settleInPart_65 (Eq.refl 68) (by decide) (hM.I h2 rfl) (by decide) ?_ ?_
  · refine xg_aload_n dX2_settleInPart_68 (Eq.refl 69) rfl ?_
    refine xg_getJ (k := 8) xcl10 h2 rfl xq_713 rfl dX2_settleInPart_69 (Eq.refl 72) ?_
    refine xg_lconst (z := 0) dX2_settleInPart_72 (Eq.refl 73) rfl ?_
    refine xg_lif_le (tgt := 99) dX2_settleInPart_73 (Eq.refl 74) dX2_settleInPart_74 (Eq.refl 77) (by decide) (hM.J h2 rfl) (by decide) ?_ ?_
    · exact xg_jump (gX2_settleInPart_99 hl rc2 x0 h0 x1 h1 hr2 M hM) (xsb_s (xsb_s (xsb_n (xsb_n (xsb_n (xsb_n xsb_0)))))) (by decide) (by decide)
    · refine xg_iload dX2_settleInPart_77 (Eq.refl 79) rfl ?_
      refine xg_if_eq (tgt := 99) dX2_settleInPart_79 (Eq.refl 82) (by decide) (B01.r hs0) ?_ ?_
      · exact xg_jump (gX2_settleInPart_99 hl rc2 x0 h0 x1 h1 hr2 M hM) (xsb_s (xsb_s (xsb_n (xsb_n (xsb_n (xsb_n xsb_0)))))) (by decide) (by decide)
      · refine xg_aload_n dX2_settleInPart_82 (Eq.refl 83) rfl ?_
        refine xg_getR (k := 0) xcl2 h0 rfl xq_109 rfl (xt_2_0 h0).1 dX2_settleInPart_83 (Eq.refl 86) ?_
        refine xg_aload_n dX2_settleInPart_86 (Eq.refl 87) rfl ?_
        refine xg_callV_Z (kc := 0) (ks := 0) (st := []) (mX1_isLinked hl (xr x0 0) (xt_2_0 h0).2 x2 h2 M hM) bX1_isLinked xcl1 (xt_2_0 h0).2 rfl xq_675 rfl (by decide) rfl (by decide) dX2_settleInPart_87 (Eq.refl 90) rfl (by decide) (by decide) ?_
        intro z1 M2 hz1 hM2
        refine xg_if_ne (tgt := 99) dX2_settleInPart_90 (Eq.refl 93) (by decide) (B01.r hz1) ?_ ?_
        · refine xg_aload_n dX2_settleInPart_93 (Eq.refl 94) rfl ?_
          refine xg_aload_n dX2_settleInPart_94 (Eq.refl 95) rfl ?_
          refine xg_lload_n dX2_settleInPart_95 (Eq.refl 96) rfl ?_
          refine xg_callV_N (kc := 0) (ks := 0) (st := []) (mX2_settlePartOf hl x0 h0 x2 h2 x3 h3 M2 hM2) bX2_settlePartOf xcl2 h0 rfl xq_714 rfl (by decide) rfl (by decide) dX2_settleInPart_96 (Eq.refl 99) rfl (by decide) (by decide) ?_
          intro z3 M4 hz3 hM4
          exact xg_jump (gX2_settleInPart_99 hl rc2 x0 h0 x1 h1 hr2 M4 hM4) (xsb_s (xsb_s (xsb_n (xsb_n (xsb_n (xsb_n xsb_0)))))) (by decide) (by decide)
        · exact xg_jump (gX2_settleInPart_99 hl rc2 x0 h0 x1 h1 hr2 M2 hM2) (xsb_s (xsb_s (xsb_n (xsb_n (xsb_n (xsb_n xsb_0)))))) (by decide) (by decide)
  · exact xg_jump (gX2_settleInPart_99 hl rc2 x0 h0 x1 h1 hr2 M hM) (xsb_s (xsb_s (xsb_n (xsb_n (xsb_n (xsb_n xsb_0)))))) (by decide) (by decide)
theorem gX2_settleInPart_57 {l : Launch} {G : xG} (hl : l.stackTraces = false) (rc2 : Int → xM → xO) (x0 : Nat) (h0 : xOb 2 x0) (x1 : Int) (h1 : R32 x1) (x2 : Nat) (h2 : xOb 10 x2) (x3 : Int) (h3 : R64 x3) (hr2 : ∀ w1 : Int, R32 w1 → ∀ M : xM, xcan M → Gv l G uX2_settleInPart 6 3 0 0 2 [some (.ref x0), some (iv w1), none, none, none, none] [] M (rc2 w1 M)) (M : xM) (hM : xcan M) : Gv l G uX2_settleInPart 6 3 0 0 57 [some (.ref x0), some (iv x1), some (.ref x2), some (jv x3), none, none] [] M (fX2_settleInPart_57 rc2 x0 x1 x2 x3 M) := by
  unfold fX2_settleInPart_57
  refine xg_iconst dX2_settleInPart_57 (Eq.refl 58) ?_
  exact xg_jump (gX2_settleInPart_58 hl rc2 x0 h0 x1 h1 x2 h2 x3 h3 0 (by decide) hr2 M hM) (xsb_s (xsb_s (xsb_s (xsb_s (xsb_n (xsb_n xsb_0)))))) (by decide) (by decide)
theorem gX2_settleInPart_2 {l : Launch} {G : xG} (hl : l.stackTraces = false) (x0 : Nat) (h0 : xOb 2 x0) : ∀ (n : Nat) (x1 : Int) (_ : R32 x1) (M : xM) (_ : xcan M), Gv l G uX2_settleInPart 6 3 0 0 2 [some (.ref x0), some (iv x1), none, none, none, none] [] M (fX2_settleInPart_2 x0 n x1 M) := by
  intro n; induction n with
  | zero => intro x1 h1 M hM; exact xg_none
  | succ n ih =>
    intro x1 h1 M hM
    rw [fX2_settleInPart_2]
    refine xg_iload_n dX2_settleInPart_2 (Eq.refl 3) rfl ?_
    refine xg_aload_n dX2_settleInPart_3 (Eq.refl 4) rfl ?_
    refine xg_getI (k := 4) xcl2 h0 rfl xq_298 rfl dX2_settleInPart_4 (Eq.refl 7) ?_
    refine xg_icmp_ge (tgt := 105) dX2_settleInPart_7 (Eq.refl 10) (by decide) h1 (hM.I h0 rfl) ?_ ?_
    · exact xg_vret rfl dX2_settleInPart_105 rfl hM
    · refine xg_aload_n dX2_settleInPart_10 (Eq.refl 11) rfl ?_
      refine xg_iload_n dX2_settleInPart_11 (Eq.refl 12) rfl ?_
      refine xg_callV_R (cr := 10) (kc := 0) (ks := 0) (st := []) (mX2_candidate hl x0 h0 x1 h1 M hM) bX2_candidate xcl2 h0 rfl xq_329 rfl (by decide) rfl (by decide) dX2_settleInPart_12 (Eq.refl 15) rfl (by decide) (by decide) ?_
      intro z1 M2 hz1 hM2
      refine xg_astore_n (ls2 := [some (.ref x0), some (iv x1), some (.ref z1.toNat), none, none, none]) dX2_settleInPart_15 (Eq.refl 16) (by decide) rfl ?_
      refine xg_aload_n dX2_settleInPart_16 (Eq.refl 17) rfl ?_
      refine xg_getR (k := 0) xcl2 h0 rfl xq_109 rfl (xt_2_0 h0).1 dX2_settleInPart_17 (Eq.refl 20) ?_
      refine xg_aload_n dX2_settleInPart_20 (Eq.refl 21) rfl ?_
      refine xg_getI (k := 3) xcl10 hz1 rfl xq_382 rfl dX2_settleInPart_21 (Eq.refl 24) ?_
      refine xg_callV_R (cr := 0) (kc := 0) (ks := 0) (st := []) (mX1_account hl (xr x0 0) (xt_2_0 h0).2 (M2 z1.toNat 3) (hM2.I hz1 rfl) M2 hM2) bX1_account xcl1 (xt_2_0 h0).2 rfl xq_650 rfl (by decide) rfl (by decide) dX2_settleInPart_24 (Eq.refl 27) rfl (by decide) (by decide) ?_
      intro z3 M4 hz3 hM4
      refine xg_aload_n dX2_settleInPart_27 (Eq.refl 28) rfl ?_
      refine xg_getI (k := 5) xcl10 hz1 rfl xq_343 rfl dX2_settleInPart_28 (Eq.refl 31) ?_
      refine xg_callV_J (kc := 0) (ks := 0) (st := []) (mX0_freeOf hl z3.toNat hz3 (M4 z1.toNat 5) (hM4.I hz1 rfl) M4 hM4) bX0_freeOf xcl0 hz3 rfl xq_651 rfl (by decide) rfl (by decide) dX2_settleInPart_31 (Eq.refl 34) rfl (by decide) (by decide) ?_
      intro z5 M6 hz5 hM6
      refine xg_lstore_n (ls2 := [some (.ref x0), some (iv x1), some (.ref z1.toNat), some (jv z5), none, none]) dX2_settleInPart_34 (Eq.refl 35) (by decide) rfl ?_
      refine xg_lload_n dX2_settleInPart_35 (Eq.refl 36) rfl ?_
      refine xg_aload_n dX2_settleInPart_36 (Eq.refl 37) rfl ?_
      refine xg_getJ (k := 6) xcl10 hz1 rfl xq_344 rfl dX2_settleInPart_37 (Eq.refl 40) ?_
      refine xg_lif_ge (tgt := 57) dX2_settleInPart_40 (Eq.refl 41) dX2_settleInPart_41 (Eq.refl 44) (by decide) hz5 (hM6.J hz1 rfl) ?_ ?_
      · exact xg_jump (gX2_settleInPart_57 hl (fX2_settleInPart_2 x0 n) x0 h0 x1 h1 z1.toNat hz1 z5 hz5 ih M6 hM6) (xsb_s (xsb_s (xsb_s (xsb_s (xsb_n (xsb_n xsb_0)))))) (by decide) (by decide)
      · refine xg_lload_n dX2_settleInPart_44 (Eq.refl 45) rfl ?_
        refine xg_aload_n dX2_settleInPart_45 (Eq.refl 46) rfl ?_
        refine xg_getJ (k := 8) xcl10 hz1 rfl xq_713 rfl dX2_settleInPart_46 (Eq.refl 49) ?_
        refine xg_lif_lt (tgt := 57) dX2_settleInPart_49 (Eq.refl 50) dX2_settleInPart_50 (Eq.refl 53) (by decide) hz5 (hM6.J hz1 rfl) ?_ ?_
        · exact xg_jump (gX2_settleInPart_57 hl (fX2_settleInPart_2 x0 n) x0 h0 x1 h1 z1.toNat hz1 z5 hz5 ih M6 hM6) (xsb_s (xsb_s (xsb_s (xsb_s (xsb_n (xsb_n xsb_0)))))) (by decide) (by decide)
        · refine xg_iconst dX2_settleInPart_53 (Eq.refl 54) ?_
          refine xg_goto (tgt := 58) dX2_settleInPart_54 (by decide) ?_
          exact xg_jump (gX2_settleInPart_58 hl (fX2_settleInPart_2 x0 n) x0 h0 x1 h1 z1.toNat hz1 z5 hz5 1 (by decide) ih M6 hM6) (xsb_s (xsb_s (xsb_s (xsb_s (xsb_n (xsb_n xsb_0)))))) (by decide) (by decide)
theorem mX2_settleInPart {l : Launch} {G : xG} (hl : l.stackTraces = false) (x0 : Nat) (h0 : xOb 2 x0) (M : xM) (hM : xcan M) : Cm l G yX2_settleInPart cX2_settleInPart 6 none 6 3 0 0 [.ref x0] M (fX2_settleInPart x0 M) := by
  refine xcm_of (u := uX2_settleInPart) (ls := [some (.ref x0), none, none, none, none, none]) 5 hl rfl (by decide +kernel) (Nat.le_of_ble_eq_true rfl) rfl ?_
  unfold fX2_settleInPart
  refine xg_iconst dX2_settleInPart_0 (Eq.refl 1) ?_
  refine xg_istore_n (ls2 := [some (.ref x0), some (iv 0), none, none, none, none]) dX2_settleInPart_1 (Eq.refl 2) (by decide) rfl ?_
  exact xg_jump (gX2_settleInPart_2 hl x0 h0 xN 0 (by decide) M hM) (xsb_s (xsb_s (xsb_n (xsb_n (xsb_n (xsb_n xsb_0)))))) (by decide) (by decide)
abbrev uX4_setEntitled : xU := (RX4, cX4_setEntitled, 4, none, [], "setEntitled")
theorem bX4_setEntitled : xYV yX4_setEntitled cX4_setEntitled 4 none 2 := ⟨xq_751, xq_752, xq_67, xq_753, ⟨by decide +kernel, by decide +kernel, by decide +kernel⟩, by decide⟩
theorem mX4_setEntitled {l : Launch} {G : xG} (hl : l.stackTraces = false) (x0 : Nat) (h0 : xOb 4 x0) (x1 : Int) (h1 : R32 x1) (x2 : Int) (h2 : R64 x2) (M : xM) (hM : xcan M) : Cm l G yX4_setEntitled cX4_setEntitled 4 none 1 3 0 0 [.ref x0, iv x1, jv x2] M (fX4_setEntitled x0 x1 x2 M) := by
  refine xcm_of (u := uX4_setEntitled) (ls := [some (.ref x0), some (iv x1), some (jv x2), none]) 0 hl rfl (by decide +kernel) (Nat.le_of_ble_eq_true rfl) rfl ?_
  unfold fX4_setEntitled
  refine xg_iload_n dX4_setEntitled_0 (Eq.refl 1) rfl ?_
  refine xg_if_lt (tgt := 20) dX4_setEntitled_1 (Eq.refl 4) (by decide) h1 ?_ ?_
  · exact xg_vret rfl dX4_setEntitled_20 rfl hM
  · refine xg_iload_n dX4_setEntitled_4 (Eq.refl 5) rfl ?_
    refine xg_aload_n dX4_setEntitled_5 (Eq.refl 6) rfl ?_
    refine xg_getR (k := 10) xcl4 h0 rfl xq_99 rfl (xt_4_10 h0).1 dX4_setEntitled_6 (Eq.refl 9) ?_
    refine xg_alen (z := 10) (xt_4_10 h0).2 (by decide) dX4_setEntitled_9 (Eq.refl 10) rfl ?_
    refine xg_icmp_ge (tgt := 20) dX4_setEntitled_10 (Eq.refl 13) (by decide) h1 (by decide) ?_ ?_
    · exact xg_vret rfl dX4_setEntitled_20 rfl hM
    · refine xg_aload_n dX4_setEntitled_13 (Eq.refl 14) rfl ?_
      refine xg_getR (k := 10) xcl4 h0 rfl xq_99 rfl (xt_4_10 h0).1 dX4_setEntitled_14 (Eq.refl 17) ?_
      refine xg_iload_n dX4_setEntitled_17 (Eq.refl 18) rfl ?_
      refine xg_lload_n dX4_setEntitled_18 (Eq.refl 19) rfl ?_
      refine xg_last (xt_4_10 h0).2 dX4_setEntitled_19 (Eq.refl 20) hM h2 ?_
      intro M1 hM1
      exact xg_vret rfl dX4_setEntitled_20 rfl hM1
abbrev uX4_setClaimed : xU := (RX4, cX4_setClaimed, 4, none, [], "setClaimed")
theorem bX4_setClaimed : xYV yX4_setClaimed cX4_setClaimed 4 none 2 := ⟨xq_757, xq_758, xq_67, xq_759, ⟨by decide +kernel, by decide +kernel, by decide +kernel⟩, by decide⟩
theorem mX4_setClaimed {l : Launch} {G : xG} (hl : l.stackTraces = false) (x0 : Nat) (h0 : xOb 4 x0) (x1 : Int) (h1 : R32 x1) (x2 : Int) (h2 : R64 x2) (M : xM) (hM : xcan M) : Cm l G yX4_setClaimed cX4_setClaimed 4 none 1 3 0 0 [.ref x0, iv x1, jv x2] M (fX4_setClaimed x0 x1 x2 M) := by
  refine xcm_of (u := uX4_setClaimed) (ls := [some (.ref x0), some (iv x1), some (jv x2), none]) 0 hl rfl (by decide +kernel) (Nat.le_of_ble_eq_true rfl) rfl ?_
  unfold fX4_setClaimed
  refine xg_iload_n dX4_setClaimed_0 (Eq.refl 1) rfl ?_
  refine xg_if_lt (tgt := 20) dX4_setClaimed_1 (Eq.refl 4) (by decide) h1 ?_ ?_
  · exact xg_vret rfl dX4_setClaimed_20 rfl hM
  · refine xg_iload_n dX4_setClaimed_4 (Eq.refl 5) rfl ?_
    refine xg_aload_n dX4_setClaimed_5 (Eq.refl 6) rfl ?_
    refine xg_getR (k := 12) xcl4 h0 rfl xq_101 rfl (xt_4_12 h0).1 dX4_setClaimed_6 (Eq.refl 9) ?_
    refine xg_alen (z := 20) (xt_4_12 h0).2 (by decide) dX4_setClaimed_9 (Eq.refl 10) rfl ?_
    refine xg_icmp_ge (tgt := 20) dX4_setClaimed_10 (Eq.refl 13) (by decide) h1 (by decide) ?_ ?_
    · exact xg_vret rfl dX4_setClaimed_20 rfl hM
    · refine xg_aload_n dX4_setClaimed_13 (Eq.refl 14) rfl ?_
      refine xg_getR (k := 12) xcl4 h0 rfl xq_101 rfl (xt_4_12 h0).1 dX4_setClaimed_14 (Eq.refl 17) ?_
      refine xg_iload_n dX4_setClaimed_17 (Eq.refl 18) rfl ?_
      refine xg_lload_n dX4_setClaimed_18 (Eq.refl 19) rfl ?_
      refine xg_last (xt_4_12 h0).2 dX4_setClaimed_19 (Eq.refl 20) hM h2 ?_
      intro M1 hM1
      exact xg_vret rfl dX4_setClaimed_20 rfl hM1
abbrev uX3_note : xU := (RX3, cX3_note, 5, none, [], "note")
theorem bX3_note : xYV yX3_note cX3_note 5 none 1 := ⟨xq_736, xq_737, xq_26, xq_738, ⟨by decide +kernel, by decide +kernel, by decide +kernel⟩, by decide⟩
theorem gX3_note_113 {l : Launch} {G : xG} (hl : l.stackTraces = false) (rc41 : Int → xM → xO) (x0 : Nat) (h0 : xOb 3 x0) (x1 : Nat) (h1 : xOb 4 x1) (x2 : Int) (h2 : R32 x2) (s0 : Int) (hs0 : R64 s0) (s1 : Int) (hs1 : R32 s1) (s2 : Nat) (hs2 : xOb 4 s2) (hr41 : ∀ w2 : Int, R32 w2 → ∀ M : xM, xcan M → Gv l G uX3_note 2 3 0 0 41 [some (.ref x0), some (.ref x1), some (iv w2), none, none] [] M (rc41 w2 M)) (M : xM) (hM : xcan M) : Gv l G uX3_note 2 3 0 0 113 [some (.ref x0), some (.ref x1), some (iv x2), none, none] [jv s0, iv s1, .ref s2] M (fX3_note_113 rc41 x0 x1 x2 s0 s1 s2 M) := by
  unfold fX3_note_113
  refine xg_callV_N (kc := 0) (ks := 0) (st := []) (mX4_setClaimed hl s2 hs2 s1 hs1 s0 hs0 M hM) bX4_setClaimed xcl4 hs2 rfl xq_756 rfl (by decide) rfl (by decide) dX3_note_113 (Eq.refl 116) rfl (by decide) (by decide) ?_
  intro z1 M2 hz1 hM2
  refine xg_iinc (ls2 := [some (.ref x0), some (.ref x1), some (iv (w32 (x2 + 1))), none, none]) dX3_note_116 (Eq.refl 119) rfl (by decide) rfl ?_
  refine xg_goto (tgt := 41) dX3_note_119 (by decide) ?_
  exact xg_jump (hr41 (w32 (x2 + 1)) (w32_r _) M2 hM2) (xsb_s (xsb_s (xsb_s (xsb_n (xsb_n xsb_0))))) (by decide) (by decide)
theorem gX3_note_96 {l : Launch} {G : xG} (hl : l.stackTraces = false) (rc41 : Int → xM → xO) (x0 : Nat) (h0 : xOb 3 x0) (x1 : Nat) (h1 : xOb 4 x1) (x2 : Int) (h2 : R32 x2) (x3 : Nat) (h3 : xOb 10 x3) (s0 : Int) (hs0 : B01 s0) (hr41 : ∀ w2 : Int, R32 w2 → ∀ M : xM, xcan M → Gv l G uX3_note 2 3 0 0 41 [some (.ref x0), some (.ref x1), some (iv w2), none, none] [] M (rc41 w2 M)) (M : xM) (hM : xcan M) : Gv l G uX3_note 2 3 0 0 96 [some (.ref x0), some (.ref x1), some (iv x2), some (.ref x3), none] [iv s0] M (fX3_note_96 rc41 x0 x1 x2 x3 s0 M) := by
  unfold fX3_note_96
  refine xg_istore (ls2 := [some (.ref x0), some (.ref x1), some (iv x2), some (.ref x3), some (iv s0)]) dX3_note_96 (Eq.refl 98) (by decide) rfl ?_
  refine xg_aload_n dX3_note_98 (Eq.refl 99) rfl ?_
  refine xg_iload_n dX3_note_99 (Eq.refl 100) rfl ?_
  refine xg_iload dX3_note_100 (Eq.refl 102) rfl ?_
  refine xg_if_eq (tgt := 112) dX3_note_102 (Eq.refl 105) (by decide) (B01.r hs0) ?_ ?_
  · refine xg_lconst (z := 0) dX3_note_112 (Eq.refl 113) rfl ?_
    exact xg_jump (gX3_note_113 hl rc41 x0 h0 x1 h1 x2 h2 0 (by decide) x2 h2 x1 h1 hr41 M hM) (xsb_s (xsb_s (xsb_s (xsb_n (xsb_n xsb_0))))) (by decide) (by decide)
  · refine xg_aload_n dX3_note_105 (Eq.refl 106) rfl ?_
    refine xg_getJ (k := 6) xcl10 h3 rfl xq_744 rfl dX3_note_106 (Eq.refl 109) ?_
    refine xg_goto (tgt := 113) dX3_note_109 (by decide) ?_
    exact xg_jump (gX3_note_113 hl rc41 x0 h0 x1 h1 x2 h2 (M x3 6) (hM.J h3 rfl) x2 h2 x1 h1 hr41 M hM) (xsb_s (xsb_s (xsb_s (xsb_n (xsb_n xsb_0))))) (by decide) (by decide)
theorem gX3_note_95 {l : Launch} {G : xG} (hl : l.stackTraces = false) (rc41 : Int → xM → xO) (x0 : Nat) (h0 : xOb 3 x0) (x1 : Nat) (h1 : xOb 4 x1) (x2 : Int) (h2 : R32 x2) (x3 : Nat) (h3 : xOb 10 x3) (hr41 : ∀ w2 : Int, R32 w2 → ∀ M : xM, xcan M → Gv l G uX3_note 2 3 0 0 41 [some (.ref x0), some (.ref x1), some (iv w2), none, none] [] M (rc41 w2 M)) (M : xM) (hM : xcan M) : Gv l G uX3_note 2 3 0 0 95 [some (.ref x0), some (.ref x1), some (iv x2), some (.ref x3), none] [] M (fX3_note_95 rc41 x0 x1 x2 x3 M) := by
  unfold fX3_note_95
  refine xg_iconst dX3_note_95 (Eq.refl 96) ?_
  exact xg_jump (gX3_note_96 hl rc41 x0 h0 x1 h1 x2 h2 x3 h3 0 (by decide) hr41 M hM) (xsb_s (xsb_s (xsb_s (xsb_s (xsb_n xsb_0))))) (by decide) (by decide)
theorem gX3_note_41 {l : Launch} {G : xG} (hl : l.stackTraces = false) (x0 : Nat) (h0 : xOb 3 x0) (x1 : Nat) (h1 : xOb 4 x1) : ∀ (n : Nat) (x2 : Int) (_ : R32 x2) (M : xM) (_ : xcan M), Gv l G uX3_note 2 3 0 0 41 [some (.ref x0), some (.ref x1), some (iv x2), none, none] [] M (fX3_note_41 x0 x1 n x2 M) := by
  intro n; induction n with
  | zero => intro x2 h2 M hM; exact xg_none
  | succ n ih =>
    intro x2 h2 M hM
    rw [fX3_note_41]
    refine xg_iload_n dX3_note_41 (Eq.refl 42) rfl ?_
    refine xg_aload_n dX3_note_42 (Eq.refl 43) rfl ?_
    refine xg_getR (k := 0) xcl3 h0 rfl xq_114 rfl (xt_3_0 h0).1 dX3_note_43 (Eq.refl 46) ?_
    refine xg_getI (k := 12) xcl1 (xt_3_0 h0).2 rfl xq_741 rfl dX3_note_46 (Eq.refl 49) ?_
    refine xg_icmp_ge (tgt := 122) dX3_note_49 (Eq.refl 52) (by decide) h2 (hM.I (xt_3_0 h0).2 rfl) ?_ ?_
    · refine xg_aload_n dX3_note_122 (Eq.refl 123) rfl ?_
      refine xg_aload_n dX3_note_123 (Eq.refl 124) rfl ?_
      refine xg_getR (k := 0) xcl3 h0 rfl xq_114 rfl (xt_3_0 h0).1 dX3_note_124 (Eq.refl 127) ?_
      refine xg_getI (k := 17) xcl1 (xt_3_0 h0).2 rfl xq_745 rfl dX3_note_127 (Eq.refl 130) ?_
      refine xg_putI (k := 9) xcl4 h1 rfl xq_746 rfl (by decide +kernel) dX3_note_130 (Eq.refl 133) rfl hM (hM.I (xt_3_0 h0).2 rfl) ?_
      intro M1 hM1
      refine xg_aload_n dX3_note_133 (Eq.refl 134) rfl ?_
      refine xg_iconst dX3_note_134 (Eq.refl 135) ?_
      refine xg_putZ (k := 7) xcl4 h1 rfl xq_747 rfl (by decide +kernel) dX3_note_135 (Eq.refl 138) rfl hM1 (by decide) ?_
      intro M2 hM2
      refine xg_aload_n dX3_note_138 (Eq.refl 139) rfl ?_
      refine xg_getR (k := 0) xcl3 h0 rfl xq_114 rfl (xt_3_0 h0).1 dX3_note_139 (Eq.refl 142) ?_
      refine xg_dup dX3_note_142 (Eq.refl 143) rfl ?_
      refine xg_getI (k := 17) xcl1 (xt_3_0 h0).2 rfl xq_745 rfl dX3_note_143 (Eq.refl 146) ?_
      refine xg_iconst dX3_note_146 (Eq.refl 147) ?_
      refine xg_iadd dX3_note_147 (Eq.refl 148) ?_
      refine xg_putI (k := 17) xcl1 (xt_3_0 h0).2 rfl xq_745 rfl (by decide +kernel) dX3_note_148 (Eq.refl 151) rfl hM2 (w32_r _) ?_
      intro M3 hM3
      exact xg_vret rfl dX3_note_151 rfl hM3
    · refine xg_aload_n dX3_note_52 (Eq.refl 53) rfl ?_
      refine xg_getR (k := 0) xcl3 h0 rfl xq_114 rfl (xt_3_0 h0).1 dX3_note_53 (Eq.refl 56) ?_
      refine xg_iload_n dX3_note_56 (Eq.refl 57) rfl ?_
      refine xg_callV_R (cr := 10) (kc := 0) (ks := 0) (st := []) (mX1_trade hl (xr x0 0) (xt_3_0 h0).2 x2 h2 M hM) bX1_trade xcl1 (xt_3_0 h0).2 rfl xq_754 rfl (by decide) rfl (by decide) dX3_note_57 (Eq.refl 60) rfl (by decide) (by decide) ?_
      intro z4 M5 hz4 hM5
      refine xg_astore_n (ls2 := [some (.ref x0), some (.ref x1), some (iv x2), some (.ref z4.toNat), none]) dX3_note_60 (Eq.refl 61) (by decide) rfl ?_
      refine xg_aload_n dX3_note_61 (Eq.refl 62) rfl ?_
      refine xg_getI (k := 0) xcl4 h1 rfl xq_742 rfl dX3_note_62 (Eq.refl 65) ?_
      refine xg_iconst dX3_note_65 (Eq.refl 66) ?_
      refine xg_icmp_eq (tgt := 95) dX3_note_66 (Eq.refl 69) (by decide) (hM5.I h1 rfl) (by decide) ?_ ?_
      · exact xg_jump (gX3_note_95 hl (fX3_note_41 x0 x1 n) x0 h0 x1 h1 x2 h2 z4.toNat hz4 ih M5 hM5) (xsb_s (xsb_s (xsb_s (xsb_s (xsb_n xsb_0))))) (by decide) (by decide)
      · refine xg_aload_n dX3_note_69 (Eq.refl 70) rfl ?_
        refine xg_getR (k := 0) xcl3 h0 rfl xq_114 rfl (xt_3_0 h0).1 dX3_note_70 (Eq.refl 73) ?_
        refine xg_aload_n dX3_note_73 (Eq.refl 74) rfl ?_
        refine xg_callV_Z (kc := 0) (ks := 0) (st := []) (mX1_isDue hl (xr x0 0) (xt_3_0 h0).2 z4.toNat hz4 M5 hM5) bX1_isDue xcl1 (xt_3_0 h0).2 rfl xq_755 rfl (by decide) rfl (by decide) dX3_note_74 (Eq.refl 77) rfl (by decide) (by decide) ?_
        intro z6 M7 hz6 hM7
        refine xg_if_eq (tgt := 95) dX3_note_77 (Eq.refl 80) (by decide) (B01.r hz6) ?_ ?_
        · exact xg_jump (gX3_note_95 hl (fX3_note_41 x0 x1 n) x0 h0 x1 h1 x2 h2 z4.toNat hz4 ih M7 hM7) (xsb_s (xsb_s (xsb_s (xsb_s (xsb_n xsb_0))))) (by decide) (by decide)
        · refine xg_aload_n dX3_note_80 (Eq.refl 81) rfl ?_
          refine xg_getI (k := 5) xcl10 hz4 rfl xq_743 rfl dX3_note_81 (Eq.refl 84) ?_
          refine xg_aload_n dX3_note_84 (Eq.refl 85) rfl ?_
          refine xg_getI (k := 1) xcl4 h1 rfl xq_740 rfl dX3_note_85 (Eq.refl 88) ?_
          refine xg_icmp_ne (tgt := 95) dX3_note_88 (Eq.refl 91) (by decide) (hM7.I hz4 rfl) (hM7.I h1 rfl) ?_ ?_
          · refine xg_iconst dX3_note_91 (Eq.refl 92) ?_
            refine xg_goto (tgt := 96) dX3_note_92 (by decide) ?_
            exact xg_jump (gX3_note_96 hl (fX3_note_41 x0 x1 n) x0 h0 x1 h1 x2 h2 z4.toNat hz4 1 (by decide) ih M7 hM7) (xsb_s (xsb_s (xsb_s (xsb_s (xsb_n xsb_0))))) (by decide) (by decide)
          · exact xg_jump (gX3_note_95 hl (fX3_note_41 x0 x1 n) x0 h0 x1 h1 x2 h2 z4.toNat hz4 ih M7 hM7) (xsb_s (xsb_s (xsb_s (xsb_s (xsb_n xsb_0))))) (by decide) (by decide)
theorem gX3_note_2 {l : Launch} {G : xG} (hl : l.stackTraces = false) (x0 : Nat) (h0 : xOb 3 x0) (x1 : Nat) (h1 : xOb 4 x1) : ∀ (n : Nat) (x2 : Int) (_ : R32 x2) (M : xM) (_ : xcan M), Gv l G uX3_note 2 3 0 0 2 [some (.ref x0), some (.ref x1), some (iv x2), none, none] [] M (fX3_note_2 x0 x1 n x2 M) := by
  intro n; induction n with
  | zero => intro x2 h2 M hM; exact xg_none
  | succ n ih =>
    intro x2 h2 M hM
    rw [fX3_note_2]
    refine xg_iload_n dX3_note_2 (Eq.refl 3) rfl ?_
    refine xg_aload_n dX3_note_3 (Eq.refl 4) rfl ?_
    refine xg_getR (k := 0) xcl3 h0 rfl xq_114 rfl (xt_3_0 h0).1 dX3_note_4 (Eq.refl 7) ?_
    refine xg_getI (k := 9) xcl1 (xt_3_0 h0).2 rfl xq_739 rfl dX3_note_7 (Eq.refl 10) ?_
    refine xg_icmp_ge (tgt := 39) dX3_note_10 (Eq.refl 13) (by decide) h2 (hM.I (xt_3_0 h0).2 rfl) ?_ ?_
    · refine xg_iconst dX3_note_39 (Eq.refl 40) ?_
      refine xg_istore_n (ls2 := [some (.ref x0), some (.ref x1), some (iv 0), none, none]) dX3_note_40 (Eq.refl 41) (by decide) rfl ?_
      exact xg_jump (gX3_note_41 hl x0 h0 x1 h1 xN 0 (by decide) M hM) (xsb_s (xsb_s (xsb_s (xsb_n (xsb_n xsb_0))))) (by decide) (by decide)
    · refine xg_aload_n dX3_note_13 (Eq.refl 14) rfl ?_
      refine xg_iload_n dX3_note_14 (Eq.refl 15) rfl ?_
      refine xg_aload_n dX3_note_15 (Eq.refl 16) rfl ?_
      refine xg_getR (k := 0) xcl3 h0 rfl xq_114 rfl (xt_3_0 h0).1 dX3_note_16 (Eq.refl 19) ?_
      refine xg_iload_n dX3_note_19 (Eq.refl 20) rfl ?_
      refine xg_callV_R (cr := 0) (kc := 0) (ks := 0) (st := [iv x2, .ref x1]) (mX1_account hl (xr x0 0) (xt_3_0 h0).2 x2 h2 M hM) bX1_account xcl1 (xt_3_0 h0).2 rfl xq_748 rfl (by decide) rfl (Nat.le_of_ble_eq_true rfl) dX3_note_20 (Eq.refl 23) rfl (by decide) (by decide) ?_
      intro z1 M2 hz1 hM2
      refine xg_aload_n dX3_note_23 (Eq.refl 24) rfl ?_
      refine xg_getI (k := 1) xcl4 h1 rfl xq_740 rfl dX3_note_24 (Eq.refl 27) ?_
      refine xg_callV_J (kc := 0) (ks := 0) (st := [iv x2, .ref x1]) (mX0_heldOf hl z1.toNat hz1 (M2 x1 1) (hM2.I h1 rfl) M2 hM2) bX0_heldOf xcl0 hz1 rfl xq_749 rfl (by decide) rfl (Nat.le_of_ble_eq_true rfl) dX3_note_27 (Eq.refl 30) rfl (by decide) (by decide) ?_
      intro z3 M4 hz3 hM4
      refine xg_callV_N (kc := 0) (ks := 0) (st := []) (mX4_setEntitled hl x1 h1 x2 h2 z3 hz3 M4 hM4) bX4_setEntitled xcl4 h1 rfl xq_750 rfl (by decide) rfl (by decide) dX3_note_30 (Eq.refl 33) rfl (by decide) (by decide) ?_
      intro z5 M6 hz5 hM6
      refine xg_iinc (ls2 := [some (.ref x0), some (.ref x1), some (iv (w32 (x2 + 1))), none, none]) dX3_note_33 (Eq.refl 36) rfl (by decide) rfl ?_
      refine xg_goto (tgt := 2) dX3_note_36 (by decide) ?_
      exact xg_jump (ih (w32 (x2 + 1)) (w32_r _) M6 hM6) (xsb_s (xsb_s (xsb_s (xsb_n (xsb_n xsb_0))))) (by decide) (by decide)
theorem mX3_note {l : Launch} {G : xG} (hl : l.stackTraces = false) (x0 : Nat) (h0 : xOb 3 x0) (x1 : Nat) (h1 : xOb 4 x1) (M : xM) (hM : xcan M) : Cm l G yX3_note cX3_note 5 none 2 3 0 0 [.ref x0, .ref x1] M (fX3_note x0 x1 M) := by
  refine xcm_of (u := uX3_note) (ls := [some (.ref x0), some (.ref x1), none, none, none]) 3 hl rfl (by decide +kernel) (Nat.le_of_ble_eq_true rfl) rfl ?_
  unfold fX3_note
  refine xg_iconst dX3_note_0 (Eq.refl 1) ?_
  refine xg_istore_n (ls2 := [some (.ref x0), some (.ref x1), some (iv 0), none, none]) dX3_note_1 (Eq.refl 2) (by decide) rfl ?_
  exact xg_jump (gX3_note_2 hl x0 h0 x1 h1 xN 0 (by decide) M hM) (xsb_s (xsb_s (xsb_s (xsb_n (xsb_n xsb_0))))) (by decide) (by decide)
abbrev uX4_splitOf : xU := (RX4, cX4_splitOf, 3, (some .long), [], "splitOf")
theorem bX4_splitOf : xYV yX4_splitOf cX4_splitOf 3 (some .long) 1 := ⟨xq_777, xq_778, xq_67, xq_779, ⟨by decide +kernel, by decide +kernel, by decide +kernel⟩, by decide⟩
theorem mX4_splitOf {l : Launch} {G : xG} (hl : l.stackTraces = false) (x0 : Nat) (h0 : xOb 4 x0) (x1 : Int) (h1 : R64 x1) (M : xM) (hM : xcan M) : Cm l G yX4_splitOf cX4_splitOf 3 (some .long) 1 2 0 0 [.ref x0, jv x1] M (fX4_splitOf x0 x1 M) := by
  refine xcm_of (u := uX4_splitOf) (ls := [some (.ref x0), some (jv x1), none]) 0 hl rfl (by decide +kernel) (Nat.le_of_ble_eq_true rfl) rfl ?_
  unfold fX4_splitOf
  refine xg_aload_n dX4_splitOf_0 (Eq.refl 1) rfl ?_
  refine xg_getI (k := 3) xcl4 h0 rfl xq_780 rfl dX4_splitOf_1 (Eq.refl 4) ?_
  refine xg_if_ne (tgt := 11) dX4_splitOf_4 (Eq.refl 7) (by decide) (hM.I h0 rfl) ?_ ?_
  · refine xg_lload_n dX4_splitOf_7 (Eq.refl 8) rfl ?_
    refine xg_goto (tgt := 24) dX4_splitOf_8 (by decide) ?_
    exact xg_lret rfl dX4_splitOf_24 rfl hM h1
  · refine xg_lload_n dX4_splitOf_11 (Eq.refl 12) rfl ?_
    refine xg_aload_n dX4_splitOf_12 (Eq.refl 13) rfl ?_
    refine xg_getI (k := 2) xcl4 h0 rfl xq_781 rfl dX4_splitOf_13 (Eq.refl 16) ?_
    refine xg_i2l dX4_splitOf_16 (Eq.refl 17) (hM.I h0 rfl) ?_
    refine xg_lmul dX4_splitOf_17 (Eq.refl 18) ?_
    refine xg_aload_n dX4_splitOf_18 (Eq.refl 19) rfl ?_
    refine xg_getI (k := 3) xcl4 h0 rfl xq_780 rfl dX4_splitOf_19 (Eq.refl 22) ?_
    refine xg_i2l dX4_splitOf_22 (Eq.refl 23) (hM.I h0 rfl) ?_
    refine xg_ldiv dX4_splitOf_23 (Eq.refl 24) (w64_r _) (R32.j (hM.I h0 rfl)) ?_
    intro q1
    exact xg_lret rfl dX4_splitOf_24 rfl hM (xtd_r (w64_r _) q1)
abbrev uX3_splitAccount : xU := (RX3, cX3_splitAccount, 5, none, [], "splitAccount")
theorem bX3_splitAccount : xYV yX3_splitAccount cX3_splitAccount 5 none 3 := ⟨xq_783, xq_784, xq_26, xq_785, ⟨by decide +kernel, by decide +kernel, by decide +kernel⟩, by decide⟩
theorem mX3_splitAccount {l : Launch} {G : xG} (hl : l.stackTraces = false) (x0 : Nat) (h0 : xOb 3 x0) (x1 : Nat) (h1 : xOb 4 x1) (x2 : Nat) (h2 : xOb 0 x2) (x3 : Int) (h3 : R64 x3) (M : xM) (hM : xcan M) : Cm l G yX3_splitAccount cX3_splitAccount 5 none 3 3 0 0 [.ref x0, .ref x1, .ref x2, jv x3] M (fX3_splitAccount x0 x1 x2 x3 M) := by
  refine xcm_of (u := uX3_splitAccount) (ls := [some (.ref x0), some (.ref x1), some (.ref x2), some (jv x3), none]) 0 hl rfl (by decide +kernel) (Nat.le_of_ble_eq_true rfl) rfl ?_
  unfold fX3_splitAccount
  refine xg_aload_n dX3_splitAccount_0 (Eq.refl 1) rfl ?_
  refine xg_aload_n dX3_splitAccount_1 (Eq.refl 2) rfl ?_
  refine xg_getI (k := 1) xcl4 h1 rfl xq_740 rfl dX3_splitAccount_2 (Eq.refl 5) ?_
  refine xg_lload_n dX3_splitAccount_5 (Eq.refl 6) rfl ?_
  refine xg_aload_n dX3_splitAccount_6 (Eq.refl 7) rfl ?_
  refine xg_aload_n dX3_splitAccount_7 (Eq.refl 8) rfl ?_
  refine xg_getI (k := 1) xcl4 h1 rfl xq_740 rfl dX3_splitAccount_8 (Eq.refl 11) ?_
  refine xg_callV_J (kc := 0) (ks := 0) (st := [jv x3, iv (M x1 1), .ref x2]) (mX0_heldOf hl x2 h2 (M x1 1) (hM.I h1 rfl) M hM) bX0_heldOf xcl0 h2 rfl xq_749 rfl (by decide) rfl (Nat.le_of_ble_eq_true rfl) dX3_splitAccount_11 (Eq.refl 14) rfl (by decide) (by decide) ?_
  intro z1 M2 hz1 hM2
  refine xg_lsub dX3_splitAccount_14 (Eq.refl 15) ?_
  refine xg_aload_n dX3_splitAccount_15 (Eq.refl 16) rfl ?_
  refine xg_getR (k := 0) xcl3 h0 rfl xq_114 rfl (xt_3_0 h0).1 dX3_splitAccount_16 (Eq.refl 19) ?_
  refine xg_getI (k := 17) xcl1 (xt_3_0 h0).2 rfl xq_745 rfl dX3_splitAccount_19 (Eq.refl 22) ?_
  refine xg_callV_N (kc := 0) (ks := 0) (st := []) (mX0_move hl x2 h2 (M x1 1) (hM.I h1 rfl) (w64 (x3 - z1)) (w64_r _) (M2 (xr x0 0) 17) (hM2.I (xt_3_0 h0).2 rfl) M2 hM2) bX0_move xcl0 h2 rfl xq_786 rfl (by decide) rfl (by decide) dX3_splitAccount_22 (Eq.refl 25) rfl (by decide) (by decide) ?_
  intro z3 M4 hz3 hM4
  refine xg_aload_n dX3_splitAccount_25 (Eq.refl 26) rfl ?_
  refine xg_aload_n dX3_splitAccount_26 (Eq.refl 27) rfl ?_
  refine xg_getI (k := 1) xcl4 h1 rfl xq_740 rfl dX3_splitAccount_27 (Eq.refl 30) ?_
  refine xg_aload_n dX3_splitAccount_30 (Eq.refl 31) rfl ?_
  refine xg_aload_n dX3_splitAccount_31 (Eq.refl 32) rfl ?_
  refine xg_aload_n dX3_splitAccount_32 (Eq.refl 33) rfl ?_
  refine xg_getI (k := 1) xcl4 h1 rfl xq_740 rfl dX3_splitAccount_33 (Eq.refl 36) ?_
  refine xg_callV_J (kc := 0) (ks := 0) (st := [.ref x1, iv (M4 x1 1), .ref x2]) (mX0_blockedOf hl x2 h2 (M4 x1 1) (hM4.I h1 rfl) M4 hM4) bX0_blockedOf xcl0 h2 rfl xq_787 rfl (by decide) rfl (Nat.le_of_ble_eq_true rfl) dX3_splitAccount_36 (Eq.refl 39) rfl (by decide) (by decide) ?_
  intro z5 M6 hz5 hM6
  refine xg_callV_J (kc := 0) (ks := 0) (st := [iv (M4 x1 1), .ref x2]) (mX4_splitOf hl x1 h1 z5 hz5 M6 hM6) bX4_splitOf xcl4 h1 rfl xq_776 rfl (by decide) rfl (Nat.le_of_ble_eq_true rfl) dX3_splitAccount_39 (Eq.refl 42) rfl (by decide) (by decide) ?_
  intro z7 M8 hz7 hM8
  refine xg_callV_N (kc := 0) (ks := 0) (st := []) (mX0_setBlocked hl x2 h2 (M4 x1 1) (hM4.I h1 rfl) z7 hz7 M8 hM8) bX0_setBlocked xcl0 h2 rfl xq_788 rfl (by decide) rfl (by decide) dX3_splitAccount_42 (Eq.refl 45) rfl (by decide) (by decide) ?_
  intro z9 M10 hz9 hM10
  exact xg_vret rfl dX3_splitAccount_45 rfl hM10
abbrev uX3_splitWithPool : xU := (RX3, cX3_splitWithPool, 13, (some .long), [], "splitWithPool")
theorem bX3_splitWithPool : xYV yX3_splitWithPool cX3_splitWithPool 13 (some .long) 2 := ⟨xq_772, xq_773, xq_26, xq_774, ⟨by decide +kernel, by decide +kernel, by decide +kernel⟩, by decide⟩
theorem gX3_splitWithPool_107 {l : Launch} {G : xG} (hl : l.stackTraces = false) (rc25 : Int → Int → Int → xM → xO) (x0 : Nat) (h0 : xOb 3 x0) (x1 : Nat) (h1 : xOb 4 x1) (x2 : Int) (h2 : R32 x2) (x5 : Int) (h5 : R64 x5) (x7 : Int) (h7 : R64 x7) (x9 : Int) (h9 : R32 x9) (hr25 : ∀ w5 : Int, R64 w5 → ∀ w7 : Int, R64 w7 → ∀ w9 : Int, R32 w9 → ∀ M : xM, xcan M → Gv l G uX3_splitWithPool 4 2 0 0 25 [some (.ref x0), some (.ref x1), some (iv x2), none, none, some (jv w5), none, some (jv w7), none, some (iv w9), none, none, none] [] M (rc25 w5 w7 w9 M)) (M : xM) (hM : xcan M) : Gv l G uX3_splitWithPool 4 2 0 0 107 [some (.ref x0), some (.ref x1), some (iv x2), none, none, some (jv x5), none, some (jv x7), none, some (iv x9), none, none, none] [] M (fX3_splitWithPool_107 rc25 x0 x1 x2 x5 x7 x9 M) := by
  unfold fX3_splitWithPool_107
  refine xg_iinc (ls2 := [some (.ref x0), some (.ref x1), some (iv x2), none, none, some (jv x5), none, some (jv x7), none, some (iv (w32 (x9 + 1))), none, none, none]) dX3_splitWithPool_107 (Eq.refl 110) rfl (by decide) rfl ?_
  refine xg_goto (tgt := 25) dX3_splitWithPool_110 (by decide) ?_
  exact xg_jump (hr25 x5 h5 x7 h7 (w32 (x9 + 1)) (w32_r _) M hM) (xsb_s (xsb_s (xsb_s (xsb_n (xsb_n (xsb_s (xsb_n (xsb_s (xsb_n (xsb_s (xsb_n (xsb_n (xsb_n xsb_0))))))))))))) (by decide) (by decide)
theorem gX3_splitWithPool_25 {l : Launch} {G : xG} (hl : l.stackTraces = false) (x0 : Nat) (h0 : xOb 3 x0) (x1 : Nat) (h1 : xOb 4 x1) (x2 : Int) (h2 : R32 x2) : ∀ (n : Nat) (x5 : Int) (_ : R64 x5) (x7 : Int) (_ : R64 x7) (x9 : Int) (_ : R32 x9) (M : xM) (_ : xcan M), Gv l G uX3_splitWithPool 4 2 0 0 25 [some (.ref x0), some (.ref x1), some (iv x2), none, none, some (jv x5), none, some (jv x7), none, some (iv x9), none, none, none] [] M (fX3_splitWithPool_25 x0 x1 x2 n x5 x7 x9 M) := by
  intro n; induction n with
  | zero => intro x5 h5 x7 h7 x9 h9 M hM; exact xg_none
  | succ n ih =>
    intro x5 h5 x7 h7 x9 h9 M hM
    rw [fX3_splitWithPool_25]
    refine xg_iload dX3_splitWithPool_25 (Eq.refl 27) rfl ?_
    refine xg_aload_n dX3_splitWithPool_27 (Eq.refl 28) rfl ?_
    refine xg_getR (k := 0) xcl3 h0 rfl xq_114 rfl (xt_3_0 h0).1 dX3_splitWithPool_28 (Eq.refl 31) ?_
    refine xg_getI (k := 9) xcl1 (xt_3_0 h0).2 rfl xq_739 rfl dX3_splitWithPool_31 (Eq.refl 34) ?_
    refine xg_icmp_ge (tgt := 113) dX3_splitWithPool_34 (Eq.refl 37) (by decide) h9 (hM.I (xt_3_0 h0).2 rfl) ?_ ?_
    · refine xg_aload_n dX3_splitWithPool_113 (Eq.refl 114) rfl ?_
      refine xg_lload dX3_splitWithPool_114 (Eq.refl 116) rfl ?_
      refine xg_callV_J (kc := 0) (ks := 0) (st := []) (mX4_splitOf hl x1 h1 x5 h5 M hM) bX4_splitOf xcl4 h1 rfl xq_776 rfl (by decide) rfl (by decide) dX3_splitWithPool_116 (Eq.refl 119) rfl (by decide) (by decide) ?_
      intro z1 M2 hz1 hM2
      refine xg_lstore (ls2 := [some (.ref x0), some (.ref x1), some (iv x2), none, none, some (jv x5), none, some (jv x7), none, some (jv z1), none, none, none]) dX3_splitWithPool_119 (Eq.refl 121) (by decide) rfl ?_
      refine xg_aload_n dX3_splitWithPool_121 (Eq.refl 122) rfl ?_
      refine xg_aload_n dX3_splitWithPool_122 (Eq.refl 123) rfl ?_
      refine xg_aload_n dX3_splitWithPool_123 (Eq.refl 124) rfl ?_
      refine xg_getR (k := 0) xcl3 h0 rfl xq_114 rfl (xt_3_0 h0).1 dX3_splitWithPool_124 (Eq.refl 127) ?_
      refine xg_iload_n dX3_splitWithPool_127 (Eq.refl 128) rfl ?_
      refine xg_callV_R (cr := 0) (kc := 0) (ks := 0) (st := [.ref x1, .ref x0]) (mX1_account hl (xr x0 0) (xt_3_0 h0).2 x2 h2 M2 hM2) bX1_account xcl1 (xt_3_0 h0).2 rfl xq_748 rfl (by decide) rfl (Nat.le_of_ble_eq_true rfl) dX3_splitWithPool_128 (Eq.refl 131) rfl (by decide) (by decide) ?_
      intro z3 M4 hz3 hM4
      refine xg_lload dX3_splitWithPool_131 (Eq.refl 133) rfl ?_
      refine xg_lload dX3_splitWithPool_133 (Eq.refl 135) rfl ?_
      refine xg_lsub dX3_splitWithPool_135 (Eq.refl 136) ?_
      refine xg_callV_N (kc := 0) (ks := 0) (st := []) (mX3_splitAccount hl x0 h0 x1 h1 z3.toNat hz3 (w64 (z1 - x7)) (w64_r _) M4 hM4) bX3_splitAccount xcl3 h0 rfl xq_782 rfl (by decide) rfl (by decide) dX3_splitWithPool_136 (Eq.refl 139) rfl (by decide) (by decide) ?_
      intro z5 M6 hz5 hM6
      refine xg_lload dX3_splitWithPool_139 (Eq.refl 141) rfl ?_
      exact xg_lret rfl dX3_splitWithPool_141 rfl hM6 hz1
    · refine xg_aload_n dX3_splitWithPool_37 (Eq.refl 38) rfl ?_
      refine xg_getR (k := 0) xcl3 h0 rfl xq_114 rfl (xt_3_0 h0).1 dX3_splitWithPool_38 (Eq.refl 41) ?_
      refine xg_iload dX3_splitWithPool_41 (Eq.refl 43) rfl ?_
      refine xg_callV_R (cr := 0) (kc := 0) (ks := 0) (st := []) (mX1_account hl (xr x0 0) (xt_3_0 h0).2 x9 h9 M hM) bX1_account xcl1 (xt_3_0 h0).2 rfl xq_748 rfl (by decide) rfl (by decide) dX3_splitWithPool_43 (Eq.refl 46) rfl (by decide) (by decide) ?_
      intro z7 M8 hz7 hM8
      refine xg_astore (ls2 := [some (.ref x0), some (.ref x1), some (iv x2), none, none, some (jv x5), none, some (jv x7), none, some (iv x9), some (.ref z7.toNat), none, none]) dX3_splitWithPool_46 (Eq.refl 48) (by decide) rfl ?_
      refine xg_aload dX3_splitWithPool_48 (Eq.refl 50) rfl ?_
      refine xg_getZ (k := 2) xcl0 hz7 rfl xq_769 rfl dX3_splitWithPool_50 (Eq.refl 53) hM8 ?_
      refine xg_if_eq (tgt := 107) dX3_splitWithPool_53 (Eq.refl 56) (by decide) (B01.r (hM8.Z hz7 rfl)) ?_ ?_
      · exact xg_jump (gX3_splitWithPool_107 hl (fX3_splitWithPool_25 x0 x1 x2 n) x0 h0 x1 h1 x2 h2 x5 h5 x7 h7 x9 h9 ih M8 hM8) (xsb_s (xsb_s (xsb_s (xsb_n (xsb_n (xsb_s (xsb_n (xsb_s (xsb_n (xsb_s (xsb_n (xsb_n (xsb_n xsb_0))))))))))))) (by decide) (by decide)
      · refine xg_aload dX3_splitWithPool_56 (Eq.refl 58) rfl ?_
        refine xg_getI (k := 1) xcl0 hz7 rfl xq_775 rfl dX3_splitWithPool_58 (Eq.refl 61) ?_
        refine xg_iload_n dX3_splitWithPool_61 (Eq.refl 62) rfl ?_
        refine xg_icmp_ne (tgt := 107) dX3_splitWithPool_62 (Eq.refl 65) (by decide) (hM8.I hz7 rfl) h2 ?_ ?_
        · refine xg_aload dX3_splitWithPool_65 (Eq.refl 67) rfl ?_
          refine xg_aload_n dX3_splitWithPool_67 (Eq.refl 68) rfl ?_
          refine xg_getI (k := 1) xcl4 h1 rfl xq_740 rfl dX3_splitWithPool_68 (Eq.refl 71) ?_
          refine xg_callV_J (kc := 0) (ks := 0) (st := []) (mX0_heldOf hl z7.toNat hz7 (M8 x1 1) (hM8.I h1 rfl) M8 hM8) bX0_heldOf xcl0 hz7 rfl xq_749 rfl (by decide) rfl (by decide) dX3_splitWithPool_71 (Eq.refl 74) rfl (by decide) (by decide) ?_
          intro z9 M10 hz9 hM10
          refine xg_lstore (ls2 := [some (.ref x0), some (.ref x1), some (iv x2), none, none, some (jv x5), none, some (jv x7), none, some (iv x9), some (.ref z7.toNat), some (jv z9), none]) dX3_splitWithPool_74 (Eq.refl 76) (by decide) rfl ?_
          refine xg_lload dX3_splitWithPool_76 (Eq.refl 78) rfl ?_
          refine xg_lload dX3_splitWithPool_78 (Eq.refl 80) rfl ?_
          refine xg_ladd dX3_splitWithPool_80 (Eq.refl 81) ?_
          refine xg_lstoreL (P := R64) (ls2 := fun y11 => [some (.ref x0), some (.ref x1), some (iv x2), none, none, some (jv y11), none, some (jv x7), none, some (iv x9), some (.ref z7.toNat), some (jv z9), none]) dX3_splitWithPool_81 (Eq.refl 83) (by decide) (w64_r _) (fun _ => rfl) ?_
          intro y11 hy11
          refine xg_lload dX3_splitWithPool_83 (Eq.refl 85) rfl ?_
          refine xg_aload_n dX3_splitWithPool_85 (Eq.refl 86) rfl ?_
          refine xg_lload dX3_splitWithPool_86 (Eq.refl 88) rfl ?_
          refine xg_callV_J (kc := 0) (ks := 0) (st := [jv x7]) (mX4_splitOf hl x1 h1 z9 hz9 M10 hM10) bX4_splitOf xcl4 h1 rfl xq_776 rfl (by decide) rfl (Nat.le_of_ble_eq_true rfl) dX3_splitWithPool_88 (Eq.refl 91) rfl (by decide) (by decide) ?_
          intro z12 M13 hz12 hM13
          refine xg_ladd dX3_splitWithPool_91 (Eq.refl 92) ?_
          refine xg_lstoreL (P := R64) (ls2 := fun y14 => [some (.ref x0), some (.ref x1), some (iv x2), none, none, some (jv y11), none, some (jv y14), none, some (iv x9), some (.ref z7.toNat), some (jv z9), none]) dX3_splitWithPool_92 (Eq.refl 94) (by decide) (w64_r _) (fun _ => rfl) ?_
          intro y14 hy14
          refine xg_aload_n dX3_splitWithPool_94 (Eq.refl 95) rfl ?_
          refine xg_aload_n dX3_splitWithPool_95 (Eq.refl 96) rfl ?_
          refine xg_aload dX3_splitWithPool_96 (Eq.refl 98) rfl ?_
          refine xg_aload_n dX3_splitWithPool_98 (Eq.refl 99) rfl ?_
          refine xg_lload dX3_splitWithPool_99 (Eq.refl 101) rfl ?_
          refine xg_callV_J (kc := 0) (ks := 0) (st := [.ref z7.toNat, .ref x1, .ref x0]) (mX4_splitOf hl x1 h1 z9 hz9 M13 hM13) bX4_splitOf xcl4 h1 rfl xq_776 rfl (by decide) rfl (Nat.le_of_ble_eq_true rfl) dX3_splitWithPool_101 (Eq.refl 104) rfl (by decide) (by decide) ?_
          intro z15 M16 hz15 hM16
          refine xg_callV_N (kc := 0) (ks := 0) (st := []) (mX3_splitAccount hl x0 h0 x1 h1 z7.toNat hz7 z15 hz15 M16 hM16) bX3_splitAccount xcl3 h0 rfl xq_782 rfl (by decide) rfl (by decide) dX3_splitWithPool_104 (Eq.refl 107) rfl (by decide) (by decide) ?_
          intro z17 M18 hz17 hM18
          exact xg_jump (gX3_splitWithPool_107 hl (fX3_splitWithPool_25 x0 x1 x2 n) x0 h0 x1 h1 x2 h2 y11 hy11 y14 hy14 x9 h9 ih M18 hM18) (xsb_s (xsb_s (xsb_s (xsb_n (xsb_n (xsb_s (xsb_n (xsb_s (xsb_n (xsb_s (xsb_n (xsb_n (xsb_n xsb_0))))))))))))) (by decide) (by decide)
        · exact xg_jump (gX3_splitWithPool_107 hl (fX3_splitWithPool_25 x0 x1 x2 n) x0 h0 x1 h1 x2 h2 x5 h5 x7 h7 x9 h9 ih M8 hM8) (xsb_s (xsb_s (xsb_s (xsb_n (xsb_n (xsb_s (xsb_n (xsb_s (xsb_n (xsb_s (xsb_n (xsb_n (xsb_n xsb_0))))))))))))) (by decide) (by decide)
theorem mX3_splitWithPool {l : Launch} {G : xG} (hl : l.stackTraces = false) (x0 : Nat) (h0 : xOb 3 x0) (x1 : Nat) (h1 : xOb 4 x1) (x2 : Int) (h2 : R32 x2) (M : xM) (hM : xcan M) : Cm l G yX3_splitWithPool cX3_splitWithPool 13 (some .long) 4 2 0 0 [.ref x0, .ref x1, iv x2] M (fX3_splitWithPool x0 x1 x2 M) := by
  refine xcm_of (u := uX3_splitWithPool) (ls := [some (.ref x0), some (.ref x1), some (iv x2), none, none, none, none, none, none, none, none, none, none]) 10 hl rfl (by decide +kernel) (Nat.le_of_ble_eq_true rfl) rfl ?_
  unfold fX3_splitWithPool
  refine xg_aload_n dX3_splitWithPool_0 (Eq.refl 1) rfl ?_
  refine xg_getR (k := 0) xcl3 h0 rfl xq_114 rfl (xt_3_0 h0).1 dX3_splitWithPool_1 (Eq.refl 4) ?_
  refine xg_iload_n dX3_splitWithPool_4 (Eq.refl 5) rfl ?_
  refine xg_callV_R (cr := 0) (kc := 0) (ks := 0) (st := []) (mX1_account hl (xr x0 0) (xt_3_0 h0).2 x2 h2 M hM) bX1_account xcl1 (xt_3_0 h0).2 rfl xq_748 rfl (by decide) rfl (by decide) dX3_splitWithPool_5 (Eq.refl 8) rfl (by decide) (by decide) ?_
  intro z1 M2 hz1 hM2
  refine xg_aload_n dX3_splitWithPool_8 (Eq.refl 9) rfl ?_
  refine xg_getI (k := 1) xcl4 h1 rfl xq_740 rfl dX3_splitWithPool_9 (Eq.refl 12) ?_
  refine xg_callV_J (kc := 0) (ks := 0) (st := []) (mX0_heldOf hl z1.toNat hz1 (M2 x1 1) (hM2.I h1 rfl) M2 hM2) bX0_heldOf xcl0 hz1 rfl xq_749 rfl (by decide) rfl (by decide) dX3_splitWithPool_12 (Eq.refl 15) rfl (by decide) (by decide) ?_
  intro z3 M4 hz3 hM4
  refine xg_lstore_n (ls2 := [some (.ref x0), some (.ref x1), some (iv x2), some (jv z3), none, none, none, none, none, none, none, none, none]) dX3_splitWithPool_15 (Eq.refl 16) (by decide) rfl ?_
  refine xg_lload_n dX3_splitWithPool_16 (Eq.refl 17) rfl ?_
  refine xg_lstore (ls2 := [some (.ref x0), some (.ref x1), some (iv x2), some (jv z3), none, some (jv z3), none, none, none, none, none, none, none]) dX3_splitWithPool_17 (Eq.refl 19) (by decide) rfl ?_
  refine xg_lconst (z := 0) dX3_splitWithPool_19 (Eq.refl 20) rfl ?_
  refine xg_lstore (ls2 := [some (.ref x0), some (.ref x1), some (iv x2), some (jv z3), none, some (jv z3), none, some (jv 0), none, none, none, none, none]) dX3_splitWithPool_20 (Eq.refl 22) (by decide) rfl ?_
  refine xg_iconst dX3_splitWithPool_22 (Eq.refl 23) ?_
  refine xg_istore (ls2 := [some (.ref x0), some (.ref x1), some (iv x2), some (jv z3), none, some (jv z3), none, some (jv 0), none, some (iv 0), none, none, none]) dX3_splitWithPool_23 (Eq.refl 25) (by decide) rfl ?_
  exact xg_jump (gX3_splitWithPool_25 hl x0 h0 x1 h1 x2 h2 xN z3 hz3 0 (by decide) 0 (by decide) M4 hM4) (xsb_s (xsb_s (xsb_s (xsb_n (xsb_n (xsb_s (xsb_n (xsb_s (xsb_n (xsb_s (xsb_n (xsb_n (xsb_n xsb_0))))))))))))) (by decide) (by decide)
abbrev uX3_splitHoldings : xU := (RX3, cX3_splitHoldings, 5, none, [], "splitHoldings")
theorem bX3_splitHoldings : xYV yX3_splitHoldings cX3_splitHoldings 5 none 1 := ⟨xq_766, xq_767, xq_26, xq_768, ⟨by decide +kernel, by decide +kernel, by decide +kernel⟩, by decide⟩
theorem gX3_splitHoldings_42 {l : Launch} {G : xG} (hl : l.stackTraces = false) (rc5 : Int → Int → xM → xO) (x0 : Nat) (h0 : xOb 3 x0) (x1 : Nat) (h1 : xOb 4 x1) (x2 : Int) (h2 : R64 x2) (x4 : Int) (h4 : R32 x4) (hr5 : ∀ w2 : Int, R64 w2 → ∀ w4 : Int, R32 w4 → ∀ M : xM, xcan M → Gv l G uX3_splitHoldings 5 3 0 0 5 [some (.ref x0), some (.ref x1), some (jv w2), none, some (iv w4)] [] M (rc5 w2 w4 M)) (M : xM) (hM : xcan M) : Gv l G uX3_splitHoldings 5 3 0 0 42 [some (.ref x0), some (.ref x1), some (jv x2), none, some (iv x4)] [] M (fX3_splitHoldings_42 rc5 x0 x1 x2 x4 M) := by
  unfold fX3_splitHoldings_42
  refine xg_iinc (ls2 := [some (.ref x0), some (.ref x1), some (jv x2), none, some (iv (w32 (x4 + 1)))]) dX3_splitHoldings_42 (Eq.refl 45) rfl (by decide) rfl ?_
  refine xg_goto (tgt := 5) dX3_splitHoldings_45 (by decide) ?_
  exact xg_jump (hr5 x2 h2 (w32 (x4 + 1)) (w32_r _) M hM) (xsb_s (xsb_s (xsb_s (xsb_n (xsb_s xsb_0))))) (by decide) (by decide)
theorem gX3_splitHoldings_5 {l : Launch} {G : xG} (hl : l.stackTraces = false) (x0 : Nat) (h0 : xOb 3 x0) (x1 : Nat) (h1 : xOb 4 x1) : ∀ (n : Nat) (x2 : Int) (_ : R64 x2) (x4 : Int) (_ : R32 x4) (M : xM) (_ : xcan M), Gv l G uX3_splitHoldings 5 3 0 0 5 [some (.ref x0), some (.ref x1), some (jv x2), none, some (iv x4)] [] M (fX3_splitHoldings_5 x0 x1 n x2 x4 M) := by
  intro n; induction n with
  | zero => intro x2 h2 x4 h4 M hM; exact xg_none
  | succ n ih =>
    intro x2 h2 x4 h4 M hM
    rw [fX3_splitHoldings_5]
    refine xg_iload dX3_splitHoldings_5 (Eq.refl 7) rfl ?_
    refine xg_aload_n dX3_splitHoldings_7 (Eq.refl 8) rfl ?_
    refine xg_getR (k := 0) xcl3 h0 rfl xq_114 rfl (xt_3_0 h0).1 dX3_splitHoldings_8 (Eq.refl 11) ?_
    refine xg_getI (k := 9) xcl1 (xt_3_0 h0).2 rfl xq_739 rfl dX3_splitHoldings_11 (Eq.refl 14) ?_
    refine xg_icmp_ge (tgt := 48) dX3_splitHoldings_14 (Eq.refl 17) (by decide) h4 (hM.I (xt_3_0 h0).2 rfl) ?_ ?_
    · refine xg_aload_n dX3_splitHoldings_48 (Eq.refl 49) rfl ?_
      refine xg_getR (k := 0) xcl3 h0 rfl xq_114 rfl (xt_3_0 h0).1 dX3_splitHoldings_49 (Eq.refl 52) ?_
      refine xg_aload_n dX3_splitHoldings_52 (Eq.refl 53) rfl ?_
      refine xg_getI (k := 1) xcl4 h1 rfl xq_740 rfl dX3_splitHoldings_53 (Eq.refl 56) ?_
      refine xg_callV_R (cr := 9) (kc := 0) (ks := 0) (st := []) (mX1_security hl (xr x0 0) (xt_3_0 h0).2 (M x1 1) (hM.I h1 rfl) M hM) bX1_security xcl1 (xt_3_0 h0).2 rfl xq_789 rfl (by decide) rfl (by decide) dX3_splitHoldings_56 (Eq.refl 59) rfl (by decide) (by decide) ?_
      intro z1 M2 hz1 hM2
      refine xg_lload_n dX3_splitHoldings_59 (Eq.refl 60) rfl ?_
      refine xg_putJ (k := 3) xcl9 hz1 rfl xq_770 rfl (by decide +kernel) dX3_splitHoldings_60 (Eq.refl 63) rfl hM2 h2 ?_
      intro M3 hM3
      exact xg_vret rfl dX3_splitHoldings_63 rfl hM3
    · refine xg_aload_n dX3_splitHoldings_17 (Eq.refl 18) rfl ?_
      refine xg_getR (k := 0) xcl3 h0 rfl xq_114 rfl (xt_3_0 h0).1 dX3_splitHoldings_18 (Eq.refl 21) ?_
      refine xg_iload dX3_splitHoldings_21 (Eq.refl 23) rfl ?_
      refine xg_callV_R (cr := 0) (kc := 0) (ks := 0) (st := []) (mX1_account hl (xr x0 0) (xt_3_0 h0).2 x4 h4 M hM) bX1_account xcl1 (xt_3_0 h0).2 rfl xq_748 rfl (by decide) rfl (by decide) dX3_splitHoldings_23 (Eq.refl 26) rfl (by decide) (by decide) ?_
      intro z4 M5 hz4 hM5
      refine xg_getZ (k := 2) xcl0 hz4 rfl xq_769 rfl dX3_splitHoldings_26 (Eq.refl 29) hM5 ?_
      refine xg_if_ne (tgt := 42) dX3_splitHoldings_29 (Eq.refl 32) (by decide) (B01.r (hM5.Z hz4 rfl)) ?_ ?_
      · refine xg_lload_n dX3_splitHoldings_32 (Eq.refl 33) rfl ?_
        refine xg_aload_n dX3_splitHoldings_33 (Eq.refl 34) rfl ?_
        refine xg_aload_n dX3_splitHoldings_34 (Eq.refl 35) rfl ?_
        refine xg_iload dX3_splitHoldings_35 (Eq.refl 37) rfl ?_
        refine xg_callV_J (kc := 0) (ks := 0) (st := [jv x2]) (mX3_splitWithPool hl x0 h0 x1 h1 x4 h4 M5 hM5) bX3_splitWithPool xcl3 h0 rfl xq_771 rfl (by decide) rfl (Nat.le_of_ble_eq_true rfl) dX3_splitHoldings_37 (Eq.refl 40) rfl (by decide) (by decide) ?_
        intro z6 M7 hz6 hM7
        refine xg_ladd dX3_splitHoldings_40 (Eq.refl 41) ?_
        refine xg_lstore_nL (P := R64) (ls2 := fun y8 => [some (.ref x0), some (.ref x1), some (jv y8), none, some (iv x4)]) dX3_splitHoldings_41 (Eq.refl 42) (by decide) (w64_r _) (fun _ => rfl) ?_
        intro y8 hy8
        exact xg_jump (gX3_splitHoldings_42 hl (fX3_splitHoldings_5 x0 x1 n) x0 h0 x1 h1 y8 hy8 x4 h4 ih M7 hM7) (xsb_s (xsb_s (xsb_s (xsb_n (xsb_s xsb_0))))) (by decide) (by decide)
      · exact xg_jump (gX3_splitHoldings_42 hl (fX3_splitHoldings_5 x0 x1 n) x0 h0 x1 h1 x2 h2 x4 h4 ih M5 hM5) (xsb_s (xsb_s (xsb_s (xsb_n (xsb_s xsb_0))))) (by decide) (by decide)
theorem mX3_splitHoldings {l : Launch} {G : xG} (hl : l.stackTraces = false) (x0 : Nat) (h0 : xOb 3 x0) (x1 : Nat) (h1 : xOb 4 x1) (M : xM) (hM : xcan M) : Cm l G yX3_splitHoldings cX3_splitHoldings 5 none 5 3 0 0 [.ref x0, .ref x1] M (fX3_splitHoldings x0 x1 M) := by
  refine xcm_of (u := uX3_splitHoldings) (ls := [some (.ref x0), some (.ref x1), none, none, none]) 3 hl rfl (by decide +kernel) (Nat.le_of_ble_eq_true rfl) rfl ?_
  unfold fX3_splitHoldings
  refine xg_lconst (z := 0) dX3_splitHoldings_0 (Eq.refl 1) rfl ?_
  refine xg_lstore_n (ls2 := [some (.ref x0), some (.ref x1), some (jv 0), none, none]) dX3_splitHoldings_1 (Eq.refl 2) (by decide) rfl ?_
  refine xg_iconst dX3_splitHoldings_2 (Eq.refl 3) ?_
  refine xg_istore (ls2 := [some (.ref x0), some (.ref x1), some (jv 0), none, some (iv 0)]) dX3_splitHoldings_3 (Eq.refl 5) (by decide) rfl ?_
  exact xg_jump (gX3_splitHoldings_5 hl x0 h0 x1 h1 xN 0 (by decide) 0 (by decide) M hM) (xsb_s (xsb_s (xsb_s (xsb_n (xsb_s xsb_0))))) (by decide) (by decide)
abbrev uX3_splitLoans : xU := (RX3, cX3_splitLoans, 4, none, [], "splitLoans")
theorem bX3_splitLoans : xYV yX3_splitLoans cX3_splitLoans 4 none 1 := ⟨xq_791, xq_792, xq_26, xq_793, ⟨by decide +kernel, by decide +kernel, by decide +kernel⟩, by decide⟩
theorem gX3_splitLoans_45 {l : Launch} {G : xG} (hl : l.stackTraces = false) (rc2 : Int → xM → xO) (x0 : Nat) (h0 : xOb 3 x0) (x1 : Nat) (h1 : xOb 4 x1) (x2 : Int) (h2 : R32 x2) (hr2 : ∀ w2 : Int, R32 w2 → ∀ M : xM, xcan M → Gv l G uX3_splitLoans 2 3 0 0 2 [some (.ref x0), some (.ref x1), some (iv w2), none] [] M (rc2 w2 M)) (M : xM) (hM : xcan M) : Gv l G uX3_splitLoans 2 3 0 0 45 [some (.ref x0), some (.ref x1), some (iv x2), none] [] M (fX3_splitLoans_45 rc2 x0 x1 x2 M) := by
  unfold fX3_splitLoans_45
  refine xg_iinc (ls2 := [some (.ref x0), some (.ref x1), some (iv (w32 (x2 + 1))), none]) dX3_splitLoans_45 (Eq.refl 48) rfl (by decide) rfl ?_
  refine xg_goto (tgt := 2) dX3_splitLoans_48 (by decide) ?_
  exact xg_jump (hr2 (w32 (x2 + 1)) (w32_r _) M hM) (xsb_s (xsb_s (xsb_s (xsb_n xsb_0)))) (by decide) (by decide)
theorem gX3_splitLoans_2 {l : Launch} {G : xG} (hl : l.stackTraces = false) (x0 : Nat) (h0 : xOb 3 x0) (x1 : Nat) (h1 : xOb 4 x1) : ∀ (n : Nat) (x2 : Int) (_ : R32 x2) (M : xM) (_ : xcan M), Gv l G uX3_splitLoans 2 3 0 0 2 [some (.ref x0), some (.ref x1), some (iv x2), none] [] M (fX3_splitLoans_2 x0 x1 n x2 M) := by
  intro n; induction n with
  | zero => intro x2 h2 M hM; exact xg_none
  | succ n ih =>
    intro x2 h2 M hM
    rw [fX3_splitLoans_2]
    refine xg_iload_n dX3_splitLoans_2 (Eq.refl 3) rfl ?_
    refine xg_aload_n dX3_splitLoans_3 (Eq.refl 4) rfl ?_
    refine xg_getR (k := 0) xcl3 h0 rfl xq_114 rfl (xt_3_0 h0).1 dX3_splitLoans_4 (Eq.refl 7) ?_
    refine xg_getI (k := 14) xcl1 (xt_3_0 h0).2 rfl xq_794 rfl dX3_splitLoans_7 (Eq.refl 10) ?_
    refine xg_icmp_ge (tgt := 51) dX3_splitLoans_10 (Eq.refl 13) (by decide) h2 (hM.I (xt_3_0 h0).2 rfl) ?_ ?_
    · exact xg_vret rfl dX3_splitLoans_51 rfl hM
    · refine xg_aload_n dX3_splitLoans_13 (Eq.refl 14) rfl ?_
      refine xg_getR (k := 0) xcl3 h0 rfl xq_114 rfl (xt_3_0 h0).1 dX3_splitLoans_14 (Eq.refl 17) ?_
      refine xg_iload_n dX3_splitLoans_17 (Eq.refl 18) rfl ?_
      refine xg_callV_R (cr := 7) (kc := 0) (ks := 0) (st := []) (mX1_loanAt hl (xr x0 0) (xt_3_0 h0).2 x2 h2 M hM) bX1_loanAt xcl1 (xt_3_0 h0).2 rfl xq_797 rfl (by decide) rfl (by decide) dX3_splitLoans_18 (Eq.refl 21) rfl (by decide) (by decide) ?_
      intro z1 M2 hz1 hM2
      refine xg_astore_n (ls2 := [some (.ref x0), some (.ref x1), some (iv x2), some (.ref z1.toNat)]) dX3_splitLoans_21 (Eq.refl 22) (by decide) rfl ?_
      refine xg_aload_n dX3_splitLoans_22 (Eq.refl 23) rfl ?_
      refine xg_getI (k := 2) xcl7 hz1 rfl xq_795 rfl dX3_splitLoans_23 (Eq.refl 26) ?_
      refine xg_aload_n dX3_splitLoans_26 (Eq.refl 27) rfl ?_
      refine xg_getI (k := 1) xcl4 h1 rfl xq_740 rfl dX3_splitLoans_27 (Eq.refl 30) ?_
      refine xg_icmp_ne (tgt := 45) dX3_splitLoans_30 (Eq.refl 33) (by decide) (hM2.I hz1 rfl) (hM2.I h1 rfl) ?_ ?_
      · refine xg_aload_n dX3_splitLoans_33 (Eq.refl 34) rfl ?_
        refine xg_aload_n dX3_splitLoans_34 (Eq.refl 35) rfl ?_
        refine xg_aload_n dX3_splitLoans_35 (Eq.refl 36) rfl ?_
        refine xg_getJ (k := 3) xcl7 hz1 rfl xq_796 rfl dX3_splitLoans_36 (Eq.refl 39) ?_
        refine xg_callV_J (kc := 0) (ks := 0) (st := [.ref z1.toNat]) (mX4_splitOf hl x1 h1 (M2 z1.toNat 3) (hM2.J hz1 rfl) M2 hM2) bX4_splitOf xcl4 h1 rfl xq_776 rfl (by decide) rfl (Nat.le_of_ble_eq_true rfl) dX3_splitLoans_39 (Eq.refl 42) rfl (by decide) (by decide) ?_
        intro z3 M4 hz3 hM4
        refine xg_putJ (k := 3) xcl7 hz1 rfl xq_796 rfl (by decide +kernel) dX3_splitLoans_42 (Eq.refl 45) rfl hM4 hz3 ?_
        intro M5 hM5
        exact xg_jump (gX3_splitLoans_45 hl (fX3_splitLoans_2 x0 x1 n) x0 h0 x1 h1 x2 h2 ih M5 hM5) (xsb_s (xsb_s (xsb_s (xsb_n xsb_0)))) (by decide) (by decide)
      · exact xg_jump (gX3_splitLoans_45 hl (fX3_splitLoans_2 x0 x1 n) x0 h0 x1 h1 x2 h2 ih M2 hM2) (xsb_s (xsb_s (xsb_s (xsb_n xsb_0)))) (by decide) (by decide)
theorem mX3_splitLoans {l : Launch} {G : xG} (hl : l.stackTraces = false) (x0 : Nat) (h0 : xOb 3 x0) (x1 : Nat) (h1 : xOb 4 x1) (M : xM) (hM : xcan M) : Cm l G yX3_splitLoans cX3_splitLoans 4 none 2 3 0 0 [.ref x0, .ref x1] M (fX3_splitLoans x0 x1 M) := by
  refine xcm_of (u := uX3_splitLoans) (ls := [some (.ref x0), some (.ref x1), none, none]) 2 hl rfl (by decide +kernel) (Nat.le_of_ble_eq_true rfl) rfl ?_
  unfold fX3_splitLoans
  refine xg_iconst dX3_splitLoans_0 (Eq.refl 1) ?_
  refine xg_istore_n (ls2 := [some (.ref x0), some (.ref x1), some (iv 0), none]) dX3_splitLoans_1 (Eq.refl 2) (by decide) rfl ?_
  exact xg_jump (gX3_splitLoans_2 hl x0 h0 x1 h1 xN 0 (by decide) M hM) (xsb_s (xsb_s (xsb_s (xsb_n xsb_0)))) (by decide) (by decide)
abbrev uX3_splitTrades : xU := (RX3, cX3_splitTrades, 4, none, [], "splitTrades")
theorem bX3_splitTrades : xYV yX3_splitTrades cX3_splitTrades 4 none 1 := ⟨xq_799, xq_800, xq_26, xq_801, ⟨by decide +kernel, by decide +kernel, by decide +kernel⟩, by decide⟩
theorem gX3_splitTrades_82 {l : Launch} {G : xG} (hl : l.stackTraces = false) (rc2 : Int → xM → xO) (x0 : Nat) (h0 : xOb 3 x0) (x1 : Nat) (h1 : xOb 4 x1) (x2 : Int) (h2 : R32 x2) (hr2 : ∀ w2 : Int, R32 w2 → ∀ M : xM, xcan M → Gv l G uX3_splitTrades 4 3 0 0 2 [some (.ref x0), some (.ref x1), some (iv w2), none] [] M (rc2 w2 M)) (M : xM) (hM : xcan M) : Gv l G uX3_splitTrades 4 3 0 0 82 [some (.ref x0), some (.ref x1), some (iv x2), none] [] M (fX3_splitTrades_82 rc2 x0 x1 x2 M) := by
  unfold fX3_splitTrades_82
  refine xg_iinc (ls2 := [some (.ref x0), some (.ref x1), some (iv (w32 (x2 + 1))), none]) dX3_splitTrades_82 (Eq.refl 85) rfl (by decide) rfl ?_
  refine xg_goto (tgt := 2) dX3_splitTrades_85 (by decide) ?_
  exact xg_jump (hr2 (w32 (x2 + 1)) (w32_r _) M hM) (xsb_s (xsb_s (xsb_s (xsb_n xsb_0)))) (by decide) (by decide)
theorem gX3_splitTrades_2 {l : Launch} {G : xG} (hl : l.stackTraces = false) (x0 : Nat) (h0 : xOb 3 x0) (x1 : Nat) (h1 : xOb 4 x1) : ∀ (n : Nat) (x2 : Int) (_ : R32 x2) (M : xM) (_ : xcan M), Gv l G uX3_splitTrades 4 3 0 0 2 [some (.ref x0), some (.ref x1), some (iv x2), none] [] M (fX3_splitTrades_2 x0 x1 n x2 M) := by
  intro n; induction n with
  | zero => intro x2 h2 M hM; exact xg_none
  | succ n ih =>
    intro x2 h2 M hM
    rw [fX3_splitTrades_2]
    refine xg_iload_n dX3_splitTrades_2 (Eq.refl 3) rfl ?_
    refine xg_aload_n dX3_splitTrades_3 (Eq.refl 4) rfl ?_
    refine xg_getR (k := 0) xcl3 h0 rfl xq_114 rfl (xt_3_0 h0).1 dX3_splitTrades_4 (Eq.refl 7) ?_
    refine xg_getI (k := 12) xcl1 (xt_3_0 h0).2 rfl xq_741 rfl dX3_splitTrades_7 (Eq.refl 10) ?_
    refine xg_icmp_ge (tgt := 88) dX3_splitTrades_10 (Eq.refl 13) (by decide) h2 (hM.I (xt_3_0 h0).2 rfl) ?_ ?_
    · exact xg_vret rfl dX3_splitTrades_88 rfl hM
    · refine xg_aload_n dX3_splitTrades_13 (Eq.refl 14) rfl ?_
      refine xg_getR (k := 0) xcl3 h0 rfl xq_114 rfl (xt_3_0 h0).1 dX3_splitTrades_14 (Eq.refl 17) ?_
      refine xg_iload_n dX3_splitTrades_17 (Eq.refl 18) rfl ?_
      refine xg_callV_R (cr := 10) (kc := 0) (ks := 0) (st := []) (mX1_trade hl (xr x0 0) (xt_3_0 h0).2 x2 h2 M hM) bX1_trade xcl1 (xt_3_0 h0).2 rfl xq_754 rfl (by decide) rfl (by decide) dX3_splitTrades_18 (Eq.refl 21) rfl (by decide) (by decide) ?_
      intro z1 M2 hz1 hM2
      refine xg_astore_n (ls2 := [some (.ref x0), some (.ref x1), some (iv x2), some (.ref z1.toNat)]) dX3_splitTrades_21 (Eq.refl 22) (by decide) rfl ?_
      refine xg_aload_n dX3_splitTrades_22 (Eq.refl 23) rfl ?_
      refine xg_getI (k := 12) xcl10 hz1 rfl xq_802 rfl dX3_splitTrades_23 (Eq.refl 26) ?_
      refine xg_iconst dX3_splitTrades_26 (Eq.refl 27) ?_
      refine xg_icmp_ne (tgt := 82) dX3_splitTrades_27 (Eq.refl 30) (by decide) (hM2.I hz1 rfl) (by decide) ?_ ?_
      · refine xg_aload_n dX3_splitTrades_30 (Eq.refl 31) rfl ?_
        refine xg_getI (k := 5) xcl10 hz1 rfl xq_743 rfl dX3_splitTrades_31 (Eq.refl 34) ?_
        refine xg_aload_n dX3_splitTrades_34 (Eq.refl 35) rfl ?_
        refine xg_getI (k := 1) xcl4 h1 rfl xq_740 rfl dX3_splitTrades_35 (Eq.refl 38) ?_
        refine xg_icmp_ne (tgt := 82) dX3_splitTrades_38 (Eq.refl 41) (by decide) (hM2.I hz1 rfl) (hM2.I h1 rfl) ?_ ?_
        · refine xg_aload_n dX3_splitTrades_41 (Eq.refl 42) rfl ?_
          refine xg_aload_n dX3_splitTrades_42 (Eq.refl 43) rfl ?_
          refine xg_aload_n dX3_splitTrades_43 (Eq.refl 44) rfl ?_
          refine xg_getJ (k := 6) xcl10 hz1 rfl xq_744 rfl dX3_splitTrades_44 (Eq.refl 47) ?_
          refine xg_callV_J (kc := 0) (ks := 0) (st := [.ref z1.toNat]) (mX4_splitOf hl x1 h1 (M2 z1.toNat 6) (hM2.J hz1 rfl) M2 hM2) bX4_splitOf xcl4 h1 rfl xq_776 rfl (by decide) rfl (Nat.le_of_ble_eq_true rfl) dX3_splitTrades_47 (Eq.refl 50) rfl (by decide) (by decide) ?_
          intro z3 M4 hz3 hM4
          refine xg_putJ (k := 6) xcl10 hz1 rfl xq_744 rfl (by decide +kernel) dX3_splitTrades_50 (Eq.refl 53) rfl hM4 hz3 ?_
          intro M5 hM5
          refine xg_aload_n dX3_splitTrades_53 (Eq.refl 54) rfl ?_
          refine xg_aload_n dX3_splitTrades_54 (Eq.refl 55) rfl ?_
          refine xg_aload_n dX3_splitTrades_55 (Eq.refl 56) rfl ?_
          refine xg_getJ (k := 8) xcl10 hz1 rfl xq_803 rfl dX3_splitTrades_56 (Eq.refl 59) ?_
          refine xg_callV_J (kc := 0) (ks := 0) (st := [.ref z1.toNat]) (mX4_splitOf hl x1 h1 (M5 z1.toNat 8) (hM5.J hz1 rfl) M5 hM5) bX4_splitOf xcl4 h1 rfl xq_776 rfl (by decide) rfl (Nat.le_of_ble_eq_true rfl) dX3_splitTrades_59 (Eq.refl 62) rfl (by decide) (by decide) ?_
          intro z6 M7 hz6 hM7
          refine xg_putJ (k := 8) xcl10 hz1 rfl xq_803 rfl (by decide +kernel) dX3_splitTrades_62 (Eq.refl 65) rfl hM7 hz6 ?_
          intro M8 hM8
          refine xg_aload_n dX3_splitTrades_65 (Eq.refl 66) rfl ?_
          refine xg_getJ (k := 6) xcl10 hz1 rfl xq_744 rfl dX3_splitTrades_66 (Eq.refl 69) ?_
          refine xg_lconst (z := 0) dX3_splitTrades_69 (Eq.refl 70) rfl ?_
          refine xg_lif_ne (tgt := 82) dX3_splitTrades_70 (Eq.refl 71) dX3_splitTrades_71 (Eq.refl 74) (by decide) (hM8.J hz1 rfl) (by decide) ?_ ?_
          · refine xg_aload_n dX3_splitTrades_74 (Eq.refl 75) rfl ?_
            refine xg_getR (k := 0) xcl3 h0 rfl xq_114 rfl (xt_3_0 h0).1 dX3_splitTrades_75 (Eq.refl 78) ?_
            refine xg_aload_n dX3_splitTrades_78 (Eq.refl 79) rfl ?_
            refine xg_callV_N (kc := 0) (ks := 0) (st := []) (mX1_cancelTrade hl (xr x0 0) (xt_3_0 h0).2 z1.toNat hz1 M8 hM8) bX1_cancelTrade xcl1 (xt_3_0 h0).2 rfl xq_804 rfl (by decide) rfl (by decide) dX3_splitTrades_79 (Eq.refl 82) rfl (by decide) (by decide) ?_
            intro z9 M10 hz9 hM10
            exact xg_jump (gX3_splitTrades_82 hl (fX3_splitTrades_2 x0 x1 n) x0 h0 x1 h1 x2 h2 ih M10 hM10) (xsb_s (xsb_s (xsb_s (xsb_n xsb_0)))) (by decide) (by decide)
          · exact xg_jump (gX3_splitTrades_82 hl (fX3_splitTrades_2 x0 x1 n) x0 h0 x1 h1 x2 h2 ih M8 hM8) (xsb_s (xsb_s (xsb_s (xsb_n xsb_0)))) (by decide) (by decide)
        · exact xg_jump (gX3_splitTrades_82 hl (fX3_splitTrades_2 x0 x1 n) x0 h0 x1 h1 x2 h2 ih M2 hM2) (xsb_s (xsb_s (xsb_s (xsb_n xsb_0)))) (by decide) (by decide)
      · exact xg_jump (gX3_splitTrades_82 hl (fX3_splitTrades_2 x0 x1 n) x0 h0 x1 h1 x2 h2 ih M2 hM2) (xsb_s (xsb_s (xsb_s (xsb_n xsb_0)))) (by decide) (by decide)
theorem mX3_splitTrades {l : Launch} {G : xG} (hl : l.stackTraces = false) (x0 : Nat) (h0 : xOb 3 x0) (x1 : Nat) (h1 : xOb 4 x1) (M : xM) (hM : xcan M) : Cm l G yX3_splitTrades cX3_splitTrades 4 none 4 3 0 0 [.ref x0, .ref x1] M (fX3_splitTrades x0 x1 M) := by
  refine xcm_of (u := uX3_splitTrades) (ls := [some (.ref x0), some (.ref x1), none, none]) 2 hl rfl (by decide +kernel) (Nat.le_of_ble_eq_true rfl) rfl ?_
  unfold fX3_splitTrades
  refine xg_iconst dX3_splitTrades_0 (Eq.refl 1) ?_
  refine xg_istore_n (ls2 := [some (.ref x0), some (.ref x1), some (iv 0), none]) dX3_splitTrades_1 (Eq.refl 2) (by decide) rfl ?_
  exact xg_jump (gX3_splitTrades_2 hl x0 h0 x1 h1 xN 0 (by decide) M hM) (xsb_s (xsb_s (xsb_s (xsb_n xsb_0)))) (by decide) (by decide)
abbrev uX4_entitledOf : xU := (RX4, cX4_entitledOf, 2, (some .long), [], "entitledOf")
theorem bX4_entitledOf : xYV yX4_entitledOf cX4_entitledOf 2 (some .long) 1 := ⟨xq_811, xq_812, xq_67, xq_813, ⟨by decide +kernel, by decide +kernel, by decide +kernel⟩, by decide⟩
theorem mX4_entitledOf {l : Launch} {G : xG} (hl : l.stackTraces = false) (x0 : Nat) (h0 : xOb 4 x0) (x1 : Int) (h1 : R32 x1) (M : xM) (hM : xcan M) : Cm l G yX4_entitledOf cX4_entitledOf 2 (some .long) 1 2 0 0 [.ref x0, iv x1] M (fX4_entitledOf x0 x1 M) := by
  refine xcm_of (u := uX4_entitledOf) (ls := [some (.ref x0), some (iv x1)]) 0 hl rfl (by decide +kernel) (Nat.le_of_ble_eq_true rfl) rfl ?_
  unfold fX4_entitledOf
  refine xg_iload_n dX4_entitledOf_0 (Eq.refl 1) rfl ?_
  refine xg_if_lt (tgt := 22) dX4_entitledOf_1 (Eq.refl 4) (by decide) h1 ?_ ?_
  · refine xg_lconst (z := 0) dX4_entitledOf_22 (Eq.refl 23) rfl ?_
    exact xg_lret rfl dX4_entitledOf_23 rfl hM (by decide)
  · refine xg_iload_n dX4_entitledOf_4 (Eq.refl 5) rfl ?_
    refine xg_aload_n dX4_entitledOf_5 (Eq.refl 6) rfl ?_
    refine xg_getR (k := 10) xcl4 h0 rfl xq_99 rfl (xt_4_10 h0).1 dX4_entitledOf_6 (Eq.refl 9) ?_
    refine xg_alen (z := 10) (xt_4_10 h0).2 (by decide) dX4_entitledOf_9 (Eq.refl 10) rfl ?_
    refine xg_icmp_ge (tgt := 22) dX4_entitledOf_10 (Eq.refl 13) (by decide) h1 (by decide) ?_ ?_
    · refine xg_lconst (z := 0) dX4_entitledOf_22 (Eq.refl 23) rfl ?_
      exact xg_lret rfl dX4_entitledOf_23 rfl hM (by decide)
    · refine xg_aload_n dX4_entitledOf_13 (Eq.refl 14) rfl ?_
      refine xg_getR (k := 10) xcl4 h0 rfl xq_99 rfl (xt_4_10 h0).1 dX4_entitledOf_14 (Eq.refl 17) ?_
      refine xg_iload_n dX4_entitledOf_17 (Eq.refl 18) rfl ?_
      refine xg_lald (xt_4_10 h0).2 dX4_entitledOf_18 (Eq.refl 19) ?_
      refine xg_goto (tgt := 23) dX4_entitledOf_19 (by decide) ?_
      exact xg_lret rfl dX4_entitledOf_23 rfl hM (hM.aj (xt_4_10 h0).2)
abbrev uX3_payLessTax : xU := (RX3, cX3_payLessTax, 7, none, [], "payLessTax")
theorem bX3_payLessTax : xYV yX3_payLessTax cX3_payLessTax 7 none 3 := ⟨xq_815, xq_816, xq_26, xq_817, ⟨by decide +kernel, by decide +kernel, by decide +kernel⟩, by decide⟩
theorem gX3_payLessTax_46 {l : Launch} {G : xG} (hl : l.stackTraces = false) (x3 : Int) (h3 : R64 x3) (x5 : Nat) (h5 : xOb 0 x5) (s0 : Int) (hs0 : R32 s0) (M : xM) (hM : xcan M) : Gv l G uX3_payLessTax 2 3 0 0 46 [none, none, none, some (jv x3), none, some (.ref x5), none] [iv s0] M (fX3_payLessTax_46 x3 x5 s0 M) := by
  unfold fX3_payLessTax_46
  refine xg_istore (ls2 := [none, none, none, some (jv x3), none, some (.ref x5), some (iv s0)]) dX3_payLessTax_46 (Eq.refl 48) (by decide) rfl ?_
  refine xg_aload dX3_payLessTax_48 (Eq.refl 50) rfl ?_
  refine xg_dup dX3_payLessTax_50 (Eq.refl 51) rfl ?_
  refine xg_getJ (k := 5) xcl0 h5 rfl xq_821 rfl dX3_payLessTax_51 (Eq.refl 54) ?_
  refine xg_lload_n dX3_payLessTax_54 (Eq.refl 55) rfl ?_
  refine xg_lload_n dX3_payLessTax_55 (Eq.refl 56) rfl ?_
  refine xg_iload dX3_payLessTax_56 (Eq.refl 58) rfl ?_
  refine xg_i2l dX3_payLessTax_58 (Eq.refl 59) hs0 ?_
  refine xg_lmul dX3_payLessTax_59 (Eq.refl 60) ?_
  refine xg_ldc2 (z := 100) xq_822 dX3_payLessTax_60 (Eq.refl 63) (by decide +kernel) ?_
  refine xg_ldivk dX3_payLessTax_63 (Eq.refl 64) (w64_r _) (by decide) ?_
  refine xg_lsub dX3_payLessTax_64 (Eq.refl 65) ?_
  refine xg_ladd dX3_payLessTax_65 (Eq.refl 66) ?_
  refine xg_putJ (k := 5) xcl0 h5 rfl xq_821 rfl (by decide +kernel) dX3_payLessTax_66 (Eq.refl 69) rfl hM (w64_r _) ?_
  intro M1 hM1
  exact xg_vret rfl dX3_payLessTax_69 rfl hM1
theorem mX3_payLessTax {l : Launch} {G : xG} (hl : l.stackTraces = false) (x0 : Nat) (h0 : xOb 3 x0) (x1 : Int) (h1 : R32 x1) (x2 : Int) (h2 : R32 x2) (x3 : Int) (h3 : R64 x3) (M : xM) (hM : xcan M) : Cm l G yX3_payLessTax cX3_payLessTax 7 none 2 3 0 0 [.ref x0, iv x1, iv x2, jv x3] M (fX3_payLessTax x0 x1 x2 x3 M) := by
  refine xcm_of (u := uX3_payLessTax) (ls := [some (.ref x0), some (iv x1), some (iv x2), some (jv x3), none, none, none]) 2 hl rfl (by decide +kernel) (Nat.le_of_ble_eq_true rfl) rfl ?_
  unfold fX3_payLessTax
  refine xg_aload_n dX3_payLessTax_0 (Eq.refl 1) rfl ?_
  refine xg_getR (k := 0) xcl3 h0 rfl xq_114 rfl (xt_3_0 h0).1 dX3_payLessTax_1 (Eq.refl 4) ?_
  refine xg_iload_n dX3_payLessTax_4 (Eq.refl 5) rfl ?_
  refine xg_callV_R (cr := 0) (kc := 0) (ks := 0) (st := []) (mX1_account hl (xr x0 0) (xt_3_0 h0).2 x1 h1 M hM) bX1_account xcl1 (xt_3_0 h0).2 rfl xq_748 rfl (by decide) rfl (by decide) dX3_payLessTax_5 (Eq.refl 8) rfl (by decide) (by decide) ?_
  intro z1 M2 hz1 hM2
  refine xg_astore (ls2 := [some (.ref x0), some (iv x1), some (iv x2), some (jv x3), none, some (.ref z1.toNat), none]) dX3_payLessTax_8 (Eq.refl 10) (by decide) rfl ?_
  refine xg_aload dX3_payLessTax_10 (Eq.refl 12) rfl ?_
  refine xg_getZ (k := 4) xcl0 hz1 rfl xq_818 rfl dX3_payLessTax_12 (Eq.refl 15) hM2 ?_
  refine xg_if_eq (tgt := 44) dX3_payLessTax_15 (Eq.refl 18) (by decide) (B01.r (hM2.Z hz1 rfl)) ?_ ?_
  · refine xg_bipush dX3_payLessTax_44 (Eq.refl 46) (by decide +kernel) ?_
    exact xg_jump (gX3_payLessTax_46 hl x3 h3 z1.toNat hz1 30 (by decide) M2 hM2) (xsb_n (xsb_n (xsb_n (xsb_s (xsb_n (xsb_s (xsb_n xsb_0))))))) (by decide) (by decide)
  · refine xg_aload_n dX3_payLessTax_18 (Eq.refl 19) rfl ?_
    refine xg_getR (k := 0) xcl3 h0 rfl xq_114 rfl (xt_3_0 h0).1 dX3_payLessTax_19 (Eq.refl 22) ?_
    refine xg_aload_n dX3_payLessTax_22 (Eq.refl 23) rfl ?_
    refine xg_getR (k := 0) xcl3 h0 rfl xq_114 rfl (xt_3_0 h0).1 dX3_payLessTax_23 (Eq.refl 26) ?_
    refine xg_iload_n dX3_payLessTax_26 (Eq.refl 27) rfl ?_
    refine xg_callV_R (cr := 9) (kc := 0) (ks := 0) (st := [.ref (xr x0 0)]) (mX1_security hl (xr x0 0) (xt_3_0 h0).2 x2 h2 M2 hM2) bX1_security xcl1 (xt_3_0 h0).2 rfl xq_789 rfl (by decide) rfl (Nat.le_of_ble_eq_true rfl) dX3_payLessTax_27 (Eq.refl 30) rfl (by decide) (by decide) ?_
    intro z3 M4 hz3 hM4
    refine xg_getI (k := 0) xcl9 hz3 rfl xq_819 rfl dX3_payLessTax_30 (Eq.refl 33) ?_
    refine xg_aload dX3_payLessTax_33 (Eq.refl 35) rfl ?_
    refine xg_getI (k := 0) xcl0 hz1 rfl xq_820 rfl dX3_payLessTax_35 (Eq.refl 38) ?_
    refine xg_callV_I (kc := 0) (ks := 0) (st := []) (mX1_treatyTax hl (xr x0 0) (xt_3_0 h0).2 (M4 z3.toNat 0) (hM4.I hz3 rfl) (M4 z1.toNat 0) (hM4.I hz1 rfl) M4 hM4) bX1_treatyTax xcl1 (xt_3_0 h0).2 rfl xq_823 rfl (by decide) rfl (by decide) dX3_payLessTax_38 (Eq.refl 41) rfl (by decide) (by decide) ?_
    intro z5 M6 hz5 hM6
    refine xg_goto (tgt := 46) dX3_payLessTax_41 (by decide) ?_
    exact xg_jump (gX3_payLessTax_46 hl x3 h3 z1.toNat hz1 z5 hz5 M6 hM6) (xsb_n (xsb_n (xsb_n (xsb_s (xsb_n (xsb_s (xsb_n xsb_0))))))) (by decide) (by decide)
abbrev uX3_payDividend : xU := (RX3, cX3_payDividend, 3, none, [], "payDividend")
theorem bX3_payDividend : xYV yX3_payDividend cX3_payDividend 3 none 1 := ⟨xq_806, xq_807, xq_26, xq_808, ⟨by decide +kernel, by decide +kernel, by decide +kernel⟩, by decide⟩
theorem gX3_payDividend_2 {l : Launch} {G : xG} (hl : l.stackTraces = false) (x0 : Nat) (h0 : xOb 3 x0) (x1 : Nat) (h1 : xOb 4 x1) : ∀ (n : Nat) (x2 : Int) (_ : R32 x2) (M : xM) (_ : xcan M), Gv l G uX3_payDividend 3 3 0 0 2 [some (.ref x0), some (.ref x1), some (iv x2)] [] M (fX3_payDividend_2 x0 x1 n x2 M) := by
  intro n; induction n with
  | zero => intro x2 h2 M hM; exact xg_none
  | succ n ih =>
    intro x2 h2 M hM
    rw [fX3_payDividend_2]
    refine xg_iload_n dX3_payDividend_2 (Eq.refl 3) rfl ?_
    refine xg_aload_n dX3_payDividend_3 (Eq.refl 4) rfl ?_
    refine xg_getR (k := 0) xcl3 h0 rfl xq_114 rfl (xt_3_0 h0).1 dX3_payDividend_4 (Eq.refl 7) ?_
    refine xg_getI (k := 9) xcl1 (xt_3_0 h0).2 rfl xq_739 rfl dX3_payDividend_7 (Eq.refl 10) ?_
    refine xg_icmp_ge (tgt := 39) dX3_payDividend_10 (Eq.refl 13) (by decide) h2 (hM.I (xt_3_0 h0).2 rfl) ?_ ?_
    · exact xg_vret rfl dX3_payDividend_39 rfl hM
    · refine xg_aload_n dX3_payDividend_13 (Eq.refl 14) rfl ?_
      refine xg_iload_n dX3_payDividend_14 (Eq.refl 15) rfl ?_
      refine xg_aload_n dX3_payDividend_15 (Eq.refl 16) rfl ?_
      refine xg_getI (k := 1) xcl4 h1 rfl xq_740 rfl dX3_payDividend_16 (Eq.refl 19) ?_
      refine xg_aload_n dX3_payDividend_19 (Eq.refl 20) rfl ?_
      refine xg_getI (k := 2) xcl4 h1 rfl xq_809 rfl dX3_payDividend_20 (Eq.refl 23) ?_
      refine xg_i2l dX3_payDividend_23 (Eq.refl 24) (hM.I h1 rfl) ?_
      refine xg_aload_n dX3_payDividend_24 (Eq.refl 25) rfl ?_
      refine xg_iload_n dX3_payDividend_25 (Eq.refl 26) rfl ?_
      refine xg_callV_J (kc := 0) (ks := 0) (st := [jv (M x1 2), iv (M x1 1), iv x2, .ref x0]) (mX4_entitledOf hl x1 h1 x2 h2 M hM) bX4_entitledOf xcl4 h1 rfl xq_810 rfl (by decide) rfl (Nat.le_of_ble_eq_true rfl) dX3_payDividend_26 (Eq.refl 29) rfl (by decide) (by decide) ?_
      intro z1 M2 hz1 hM2
      refine xg_lmul dX3_payDividend_29 (Eq.refl 30) ?_
      refine xg_callV_N (kc := 0) (ks := 0) (st := []) (mX3_payLessTax hl x0 h0 x2 h2 (M x1 1) (hM.I h1 rfl) (w64 ((M x1 2) * z1)) (w64_r _) M2 hM2) bX3_payLessTax xcl3 h0 rfl xq_814 rfl (by decide) rfl (by decide) dX3_payDividend_30 (Eq.refl 33) rfl (by decide) (by decide) ?_
      intro z3 M4 hz3 hM4
      refine xg_iinc (ls2 := [some (.ref x0), some (.ref x1), some (iv (w32 (x2 + 1)))]) dX3_payDividend_33 (Eq.refl 36) rfl (by decide) rfl ?_
      refine xg_goto (tgt := 2) dX3_payDividend_36 (by decide) ?_
      exact xg_jump (ih (w32 (x2 + 1)) (w32_r _) M4 hM4) (xsb_s (xsb_s (xsb_s xsb_0))) (by decide) (by decide)
theorem mX3_payDividend {l : Launch} {G : xG} (hl : l.stackTraces = false) (x0 : Nat) (h0 : xOb 3 x0) (x1 : Nat) (h1 : xOb 4 x1) (M : xM) (hM : xcan M) : Cm l G yX3_payDividend cX3_payDividend 3 none 3 3 0 0 [.ref x0, .ref x1] M (fX3_payDividend x0 x1 M) := by
  refine xcm_of (u := uX3_payDividend) (ls := [some (.ref x0), some (.ref x1), none]) 1 hl rfl (by decide +kernel) (Nat.le_of_ble_eq_true rfl) rfl ?_
  unfold fX3_payDividend
  refine xg_iconst dX3_payDividend_0 (Eq.refl 1) ?_
  refine xg_istore_n (ls2 := [some (.ref x0), some (.ref x1), some (iv 0)]) dX3_payDividend_1 (Eq.refl 2) (by decide) rfl ?_
  exact xg_jump (gX3_payDividend_2 hl x0 h0 x1 h1 xN 0 (by decide) M hM) (xsb_s (xsb_s (xsb_s xsb_0))) (by decide) (by decide)
abbrev uX4_electedOf : xU := (RX4, cX4_electedOf, 2, (some .long), [], "electedOf")
theorem bX4_electedOf : xYV yX4_electedOf cX4_electedOf 2 (some .long) 1 := ⟨xq_838, xq_839, xq_67, xq_840, ⟨by decide +kernel, by decide +kernel, by decide +kernel⟩, by decide⟩
theorem mX4_electedOf {l : Launch} {G : xG} (hl : l.stackTraces = false) (x0 : Nat) (h0 : xOb 4 x0) (x1 : Int) (h1 : R32 x1) (M : xM) (hM : xcan M) : Cm l G yX4_electedOf cX4_electedOf 2 (some .long) 1 2 0 0 [.ref x0, iv x1] M (fX4_electedOf x0 x1 M) := by
  refine xcm_of (u := uX4_electedOf) (ls := [some (.ref x0), some (iv x1)]) 0 hl rfl (by decide +kernel) (Nat.le_of_ble_eq_true rfl) rfl ?_
  unfold fX4_electedOf
  refine xg_iload_n dX4_electedOf_0 (Eq.refl 1) rfl ?_
  refine xg_if_lt (tgt := 22) dX4_electedOf_1 (Eq.refl 4) (by decide) h1 ?_ ?_
  · refine xg_lconst (z := 0) dX4_electedOf_22 (Eq.refl 23) rfl ?_
    exact xg_lret rfl dX4_electedOf_23 rfl hM (by decide)
  · refine xg_iload_n dX4_electedOf_4 (Eq.refl 5) rfl ?_
    refine xg_aload_n dX4_electedOf_5 (Eq.refl 6) rfl ?_
    refine xg_getR (k := 11) xcl4 h0 rfl xq_100 rfl (xt_4_11 h0).1 dX4_electedOf_6 (Eq.refl 9) ?_
    refine xg_alen (z := 10) (xt_4_11 h0).2 (by decide) dX4_electedOf_9 (Eq.refl 10) rfl ?_
    refine xg_icmp_ge (tgt := 22) dX4_electedOf_10 (Eq.refl 13) (by decide) h1 (by decide) ?_ ?_
    · refine xg_lconst (z := 0) dX4_electedOf_22 (Eq.refl 23) rfl ?_
      exact xg_lret rfl dX4_electedOf_23 rfl hM (by decide)
    · refine xg_aload_n dX4_electedOf_13 (Eq.refl 14) rfl ?_
      refine xg_getR (k := 11) xcl4 h0 rfl xq_100 rfl (xt_4_11 h0).1 dX4_electedOf_14 (Eq.refl 17) ?_
      refine xg_iload_n dX4_electedOf_17 (Eq.refl 18) rfl ?_
      refine xg_lald (xt_4_11 h0).2 dX4_electedOf_18 (Eq.refl 19) ?_
      refine xg_goto (tgt := 23) dX4_electedOf_19 (by decide) ?_
      exact xg_lret rfl dX4_electedOf_23 rfl hM (hM.aj (xt_4_11 h0).2)
abbrev uX4_askedBy : xU := (RX4, cX4_askedBy, 2, (some .long), [], "askedBy")
theorem bX4_askedBy : xYV yX4_askedBy cX4_askedBy 2 (some .long) 1 := ⟨xq_834, xq_835, xq_67, xq_836, ⟨by decide +kernel, by decide +kernel, by decide +kernel⟩, by decide⟩
theorem mX4_askedBy {l : Launch} {G : xG} (hl : l.stackTraces = false) (x0 : Nat) (h0 : xOb 4 x0) (x1 : Int) (h1 : R32 x1) (M : xM) (hM : xcan M) : Cm l G yX4_askedBy cX4_askedBy 2 (some .long) 2 2 0 0 [.ref x0, iv x1] M (fX4_askedBy x0 x1 M) := by
  refine xcm_of (u := uX4_askedBy) (ls := [some (.ref x0), some (iv x1)]) 0 hl rfl (by decide +kernel) (Nat.le_of_ble_eq_true rfl) rfl ?_
  unfold fX4_askedBy
  refine xg_aload_n dX4_askedBy_0 (Eq.refl 1) rfl ?_
  refine xg_getI (k := 3) xcl4 h0 rfl xq_780 rfl dX4_askedBy_1 (Eq.refl 4) ?_
  refine xg_if_ne (tgt := 11) dX4_askedBy_4 (Eq.refl 7) (by decide) (hM.I h0 rfl) ?_ ?_
  · refine xg_lconst (z := 0) dX4_askedBy_7 (Eq.refl 8) rfl ?_
    refine xg_goto (tgt := 22) dX4_askedBy_8 (by decide) ?_
    exact xg_lret rfl dX4_askedBy_22 rfl hM (by decide)
  · refine xg_aload_n dX4_askedBy_11 (Eq.refl 12) rfl ?_
    refine xg_iload_n dX4_askedBy_12 (Eq.refl 13) rfl ?_
    refine xg_callV_J (kc := 0) (ks := 0) (st := []) (mX4_electedOf hl x0 h0 x1 h1 M hM) bX4_electedOf xcl4 h0 rfl xq_837 rfl (by decide) rfl (by decide) dX4_askedBy_13 (Eq.refl 16) rfl (by decide) (by decide) ?_
    intro z1 M2 hz1 hM2
    refine xg_aload_n dX4_askedBy_16 (Eq.refl 17) rfl ?_
    refine xg_getI (k := 3) xcl4 h0 rfl xq_780 rfl dX4_askedBy_17 (Eq.refl 20) ?_
    refine xg_i2l dX4_askedBy_20 (Eq.refl 21) (hM2.I h0 rfl) ?_
    refine xg_ldiv dX4_askedBy_21 (Eq.refl 22) hz1 (R32.j (hM2.I h0 rfl)) ?_
    intro q3
    exact xg_lret rfl dX4_askedBy_22 rfl hM2 (xtd_r hz1 q3)
abbrev uX3_payOption : xU := (RX3, cX3_payOption, 7, none, [], "payOption")
theorem bX3_payOption : xYV yX3_payOption cX3_payOption 7 none 1 := ⟨xq_828, xq_829, xq_26, xq_830, ⟨by decide +kernel, by decide +kernel, by decide +kernel⟩, by decide⟩
theorem gX3_payOption_83 {l : Launch} {G : xG} (hl : l.stackTraces = false) (rc35 : Int → xM → xO) (x0 : Nat) (h0 : xOb 3 x0) (x1 : Nat) (h1 : xOb 4 x1) (x2 : Int) (h2 : R64 x2) (x4 : Int) (h4 : R32 x4) (x5 : Int) (h5 : R64 x5) (hr35 : ∀ w4 : Int, R32 w4 → ∀ M : xM, xcan M → Gv l G uX3_payOption 3 3 0 0 35 [some (.ref x0), some (.ref x1), some (jv x2), none, some (iv w4), none, none] [] M (rc35 w4 M)) (M : xM) (hM : xcan M) : Gv l G uX3_payOption 3 3 0 0 83 [some (.ref x0), some (.ref x1), some (jv x2), none, some (iv x4), some (jv x5), none] [] M (fX3_payOption_83 rc35 x0 x1 x2 x4 x5 M) := by
  unfold fX3_payOption_83
  refine xg_aload_n dX3_payOption_83 (Eq.refl 84) rfl ?_
  refine xg_getR (k := 0) xcl3 h0 rfl xq_114 rfl (xt_3_0 h0).1 dX3_payOption_84 (Eq.refl 87) ?_
  refine xg_iload dX3_payOption_87 (Eq.refl 89) rfl ?_
  refine xg_callV_R (cr := 0) (kc := 0) (ks := 0) (st := []) (mX1_account hl (xr x0 0) (xt_3_0 h0).2 x4 h4 M hM) bX1_account xcl1 (xt_3_0 h0).2 rfl xq_748 rfl (by decide) rfl (by decide) dX3_payOption_89 (Eq.refl 92) rfl (by decide) (by decide) ?_
  intro z1 M2 hz1 hM2
  refine xg_aload_n dX3_payOption_92 (Eq.refl 93) rfl ?_
  refine xg_getI (k := 1) xcl4 h1 rfl xq_740 rfl dX3_payOption_93 (Eq.refl 96) ?_
  refine xg_lload dX3_payOption_96 (Eq.refl 98) rfl ?_
  refine xg_aload_n dX3_payOption_98 (Eq.refl 99) rfl ?_
  refine xg_getR (k := 0) xcl3 h0 rfl xq_114 rfl (xt_3_0 h0).1 dX3_payOption_99 (Eq.refl 102) ?_
  refine xg_getI (k := 17) xcl1 (xt_3_0 h0).2 rfl xq_745 rfl dX3_payOption_102 (Eq.refl 105) ?_
  refine xg_callV_N (kc := 0) (ks := 0) (st := []) (mX0_move hl z1.toNat hz1 (M2 x1 1) (hM2.I h1 rfl) x5 h5 (M2 (xr x0 0) 17) (hM2.I (xt_3_0 h0).2 rfl) M2 hM2) bX0_move xcl0 hz1 rfl xq_786 rfl (by decide) rfl (by decide) dX3_payOption_105 (Eq.refl 108) rfl (by decide) (by decide) ?_
  intro z3 M4 hz3 hM4
  refine xg_aload_n dX3_payOption_108 (Eq.refl 109) rfl ?_
  refine xg_getR (k := 0) xcl3 h0 rfl xq_114 rfl (xt_3_0 h0).1 dX3_payOption_109 (Eq.refl 112) ?_
  refine xg_aload_n dX3_payOption_112 (Eq.refl 113) rfl ?_
  refine xg_getI (k := 1) xcl4 h1 rfl xq_740 rfl dX3_payOption_113 (Eq.refl 116) ?_
  refine xg_callV_R (cr := 9) (kc := 0) (ks := 0) (st := []) (mX1_security hl (xr x0 0) (xt_3_0 h0).2 (M4 x1 1) (hM4.I h1 rfl) M4 hM4) bX1_security xcl1 (xt_3_0 h0).2 rfl xq_789 rfl (by decide) rfl (by decide) dX3_payOption_116 (Eq.refl 119) rfl (by decide) (by decide) ?_
  intro z5 M6 hz5 hM6
  refine xg_dup dX3_payOption_119 (Eq.refl 120) rfl ?_
  refine xg_getJ (k := 3) xcl9 hz5 rfl xq_770 rfl dX3_payOption_120 (Eq.refl 123) ?_
  refine xg_lload dX3_payOption_123 (Eq.refl 125) rfl ?_
  refine xg_ladd dX3_payOption_125 (Eq.refl 126) ?_
  refine xg_putJ (k := 3) xcl9 hz5 rfl xq_770 rfl (by decide +kernel) dX3_payOption_126 (Eq.refl 129) rfl hM6 (w64_r _) ?_
  intro M7 hM7
  refine xg_aload_n dX3_payOption_129 (Eq.refl 130) rfl ?_
  refine xg_iload dX3_payOption_130 (Eq.refl 132) rfl ?_
  refine xg_aload_n dX3_payOption_132 (Eq.refl 133) rfl ?_
  refine xg_getI (k := 1) xcl4 h1 rfl xq_740 rfl dX3_payOption_133 (Eq.refl 136) ?_
  refine xg_aload_n dX3_payOption_136 (Eq.refl 137) rfl ?_
  refine xg_getI (k := 2) xcl4 h1 rfl xq_809 rfl dX3_payOption_137 (Eq.refl 140) ?_
  refine xg_i2l dX3_payOption_140 (Eq.refl 141) (hM7.I h1 rfl) ?_
  refine xg_aload_n dX3_payOption_141 (Eq.refl 142) rfl ?_
  refine xg_iload dX3_payOption_142 (Eq.refl 144) rfl ?_
  refine xg_callV_J (kc := 0) (ks := 0) (st := [jv (M7 x1 2), iv (M7 x1 1), iv x4, .ref x0]) (mX4_entitledOf hl x1 h1 x4 h4 M7 hM7) bX4_entitledOf xcl4 h1 rfl xq_810 rfl (by decide) rfl (Nat.le_of_ble_eq_true rfl) dX3_payOption_144 (Eq.refl 147) rfl (by decide) (by decide) ?_
  intro z8 M9 hz8 hM9
  refine xg_aload_n dX3_payOption_147 (Eq.refl 148) rfl ?_
  refine xg_getI (k := 3) xcl4 h1 rfl xq_832 rfl dX3_payOption_148 (Eq.refl 151) ?_
  refine xg_i2l dX3_payOption_151 (Eq.refl 152) (hM9.I h1 rfl) ?_
  refine xg_lload dX3_payOption_152 (Eq.refl 154) rfl ?_
  refine xg_lmul dX3_payOption_154 (Eq.refl 155) ?_
  refine xg_lsub dX3_payOption_155 (Eq.refl 156) ?_
  refine xg_lmul dX3_payOption_156 (Eq.refl 157) ?_
  refine xg_callV_N (kc := 0) (ks := 0) (st := []) (mX3_payLessTax hl x0 h0 x4 h4 (M7 x1 1) (hM7.I h1 rfl) (w64 ((M7 x1 2) * (w64 (z8 - (w64 ((M9 x1 3) * x5)))))) (w64_r _) M9 hM9) bX3_payLessTax xcl3 h0 rfl xq_814 rfl (by decide) rfl (by decide) dX3_payOption_157 (Eq.refl 160) rfl (by decide) (by decide) ?_
  intro z10 M11 hz10 hM11
  refine xg_iinc (ls2 := [some (.ref x0), some (.ref x1), some (jv x2), none, some (iv (w32 (x4 + 1))), some (jv x5), none]) dX3_payOption_160 (Eq.refl 163) rfl (by decide) rfl ?_
  refine xg_goto (tgt := 35) dX3_payOption_163 (by decide) ?_
  exact xg_jump (hr35 (w32 (x4 + 1)) (w32_r _) M11 hM11) (xsb_s (xsb_s (xsb_s (xsb_n (xsb_s (xsb_n (xsb_n xsb_0))))))) (by decide) (by decide)
theorem gX3_payOption_35 {l : Launch} {G : xG} (hl : l.stackTraces = false) (x0 : Nat) (h0 : xOb 3 x0) (x1 : Nat) (h1 : xOb 4 x1) (x2 : Int) (h2 : R64 x2) : ∀ (n : Nat) (x4 : Int) (_ : R32 x4) (M : xM) (_ : xcan M), Gv l G uX3_payOption 3 3 0 0 35 [some (.ref x0), some (.ref x1), some (jv x2), none, some (iv x4), none, none] [] M (fX3_payOption_35 x0 x1 x2 n x4 M) := by
  intro n; induction n with
  | zero => intro x4 h4 M hM; exact xg_none
  | succ n ih =>
    intro x4 h4 M hM
    rw [fX3_payOption_35]
    refine xg_iload dX3_payOption_35 (Eq.refl 37) rfl ?_
    refine xg_aload_n dX3_payOption_37 (Eq.refl 38) rfl ?_
    refine xg_getR (k := 0) xcl3 h0 rfl xq_114 rfl (xt_3_0 h0).1 dX3_payOption_38 (Eq.refl 41) ?_
    refine xg_getI (k := 9) xcl1 (xt_3_0 h0).2 rfl xq_739 rfl dX3_payOption_41 (Eq.refl 44) ?_
    refine xg_icmp_ge (tgt := 166) dX3_payOption_44 (Eq.refl 47) (by decide) h4 (hM.I (xt_3_0 h0).2 rfl) ?_ ?_
    · exact xg_vret rfl dX3_payOption_166 rfl hM
    · refine xg_aload_n dX3_payOption_47 (Eq.refl 48) rfl ?_
      refine xg_iload dX3_payOption_48 (Eq.refl 50) rfl ?_
      refine xg_callV_J (kc := 0) (ks := 0) (st := []) (mX4_askedBy hl x1 h1 x4 h4 M hM) bX4_askedBy xcl4 h1 rfl xq_833 rfl (by decide) rfl (by decide) dX3_payOption_50 (Eq.refl 53) rfl (by decide) (by decide) ?_
      intro z1 M2 hz1 hM2
      refine xg_lstore (ls2 := [some (.ref x0), some (.ref x1), some (jv x2), none, some (iv x4), some (jv z1), none]) dX3_payOption_53 (Eq.refl 55) (by decide) rfl ?_
      refine xg_lload_n dX3_payOption_55 (Eq.refl 56) rfl ?_
      refine xg_aload_n dX3_payOption_56 (Eq.refl 57) rfl ?_
      refine xg_getI (k := 4) xcl4 h1 rfl xq_831 rfl dX3_payOption_57 (Eq.refl 60) ?_
      refine xg_i2l dX3_payOption_60 (Eq.refl 61) (hM2.I h1 rfl) ?_
      refine xg_lif_le (tgt := 83) dX3_payOption_61 (Eq.refl 62) dX3_payOption_62 (Eq.refl 65) (by decide) h2 (R32.j (hM2.I h1 rfl)) ?_ ?_
      · exact xg_jump (gX3_payOption_83 hl (fX3_payOption_35 x0 x1 x2 n) x0 h0 x1 h1 x2 h2 x4 h4 z1 hz1 ih M2 hM2) (xsb_s (xsb_s (xsb_s (xsb_n (xsb_s (xsb_s (xsb_n xsb_0))))))) (by decide) (by decide)
      · refine xg_lload_n dX3_payOption_65 (Eq.refl 66) rfl ?_
        refine xg_lconst (z := 0) dX3_payOption_66 (Eq.refl 67) rfl ?_
        refine xg_lif_le (tgt := 83) dX3_payOption_67 (Eq.refl 68) dX3_payOption_68 (Eq.refl 71) (by decide) h2 (by decide) ?_ ?_
        · exact xg_jump (gX3_payOption_83 hl (fX3_payOption_35 x0 x1 x2 n) x0 h0 x1 h1 x2 h2 x4 h4 z1 hz1 ih M2 hM2) (xsb_s (xsb_s (xsb_s (xsb_n (xsb_s (xsb_s (xsb_n xsb_0))))))) (by decide) (by decide)
        · refine xg_lload dX3_payOption_71 (Eq.refl 73) rfl ?_
          refine xg_aload_n dX3_payOption_73 (Eq.refl 74) rfl ?_
          refine xg_getI (k := 4) xcl4 h1 rfl xq_831 rfl dX3_payOption_74 (Eq.refl 77) ?_
          refine xg_i2l dX3_payOption_77 (Eq.refl 78) (hM2.I h1 rfl) ?_
          refine xg_lmul dX3_payOption_78 (Eq.refl 79) ?_
          refine xg_lload_n dX3_payOption_79 (Eq.refl 80) rfl ?_
          refine xg_ldiv dX3_payOption_80 (Eq.refl 81) (w64_r _) h2 ?_
          intro q3
          refine xg_lstoreL (P := R64) (ls2 := fun y4 => [some (.ref x0), some (.ref x1), some (jv x2), none, some (iv x4), some (jv y4), none]) dX3_payOption_81 (Eq.refl 83) (by decide) (xtd_r (w64_r _) q3) (fun _ => rfl) ?_
          intro y4 hy4
          exact xg_jump (gX3_payOption_83 hl (fX3_payOption_35 x0 x1 x2 n) x0 h0 x1 h1 x2 h2 x4 h4 y4 hy4 ih M2 hM2) (xsb_s (xsb_s (xsb_s (xsb_n (xsb_s (xsb_s (xsb_n xsb_0))))))) (by decide) (by decide)
theorem gX3_payOption_5 {l : Launch} {G : xG} (hl : l.stackTraces = false) (x0 : Nat) (h0 : xOb 3 x0) (x1 : Nat) (h1 : xOb 4 x1) : ∀ (n : Nat) (x2 : Int) (_ : R64 x2) (x4 : Int) (_ : R32 x4) (M : xM) (_ : xcan M), Gv l G uX3_payOption 3 3 0 0 5 [some (.ref x0), some (.ref x1), some (jv x2), none, some (iv x4), none, none] [] M (fX3_payOption_5 x0 x1 n x2 x4 M) := by
  intro n; induction n with
  | zero => intro x2 h2 x4 h4 M hM; exact xg_none
  | succ n ih =>
    intro x2 h2 x4 h4 M hM
    rw [fX3_payOption_5]
    refine xg_iload dX3_payOption_5 (Eq.refl 7) rfl ?_
    refine xg_aload_n dX3_payOption_7 (Eq.refl 8) rfl ?_
    refine xg_getR (k := 0) xcl3 h0 rfl xq_114 rfl (xt_3_0 h0).1 dX3_payOption_8 (Eq.refl 11) ?_
    refine xg_getI (k := 9) xcl1 (xt_3_0 h0).2 rfl xq_739 rfl dX3_payOption_11 (Eq.refl 14) ?_
    refine xg_icmp_ge (tgt := 32) dX3_payOption_14 (Eq.refl 17) (by decide) h4 (hM.I (xt_3_0 h0).2 rfl) ?_ ?_
    · refine xg_iconst dX3_payOption_32 (Eq.refl 33) ?_
      refine xg_istore (ls2 := [some (.ref x0), some (.ref x1), some (jv x2), none, some (iv 0), none, none]) dX3_payOption_33 (Eq.refl 35) (by decide) rfl ?_
      exact xg_jump (gX3_payOption_35 hl x0 h0 x1 h1 x2 h2 xN 0 (by decide) M hM) (xsb_s (xsb_s (xsb_s (xsb_n (xsb_s (xsb_n (xsb_n xsb_0))))))) (by decide) (by decide)
    · refine xg_lload_n dX3_payOption_17 (Eq.refl 18) rfl ?_
      refine xg_aload_n dX3_payOption_18 (Eq.refl 19) rfl ?_
      refine xg_iload dX3_payOption_19 (Eq.refl 21) rfl ?_
      refine xg_callV_J (kc := 0) (ks := 0) (st := [jv x2]) (mX4_askedBy hl x1 h1 x4 h4 M hM) bX4_askedBy xcl4 h1 rfl xq_833 rfl (by decide) rfl (Nat.le_of_ble_eq_true rfl) dX3_payOption_21 (Eq.refl 24) rfl (by decide) (by decide) ?_
      intro z1 M2 hz1 hM2
      refine xg_ladd dX3_payOption_24 (Eq.refl 25) ?_
      refine xg_lstore_nL (P := R64) (ls2 := fun y3 => [some (.ref x0), some (.ref x1), some (jv y3), none, some (iv x4), none, none]) dX3_payOption_25 (Eq.refl 26) (by decide) (w64_r _) (fun _ => rfl) ?_
      intro y3 hy3
      refine xg_iinc (ls2 := [some (.ref x0), some (.ref x1), some (jv y3), none, some (iv (w32 (x4 + 1))), none, none]) dX3_payOption_26 (Eq.refl 29) rfl (by decide) rfl ?_
      refine xg_goto (tgt := 5) dX3_payOption_29 (by decide) ?_
      exact xg_jump (ih y3 hy3 (w32 (x4 + 1)) (w32_r _) M2 hM2) (xsb_s (xsb_s (xsb_s (xsb_n (xsb_s (xsb_n (xsb_n xsb_0))))))) (by decide) (by decide)
theorem mX3_payOption {l : Launch} {G : xG} (hl : l.stackTraces = false) (x0 : Nat) (h0 : xOb 3 x0) (x1 : Nat) (h1 : xOb 4 x1) (M : xM) (hM : xcan M) : Cm l G yX3_payOption cX3_payOption 7 none 3 3 0 0 [.ref x0, .ref x1] M (fX3_payOption x0 x1 M) := by
  refine xcm_of (u := uX3_payOption) (ls := [some (.ref x0), some (.ref x1), none, none, none, none, none]) 5 hl rfl (by decide +kernel) (Nat.le_of_ble_eq_true rfl) rfl ?_
  unfold fX3_payOption
  refine xg_lconst (z := 0) dX3_payOption_0 (Eq.refl 1) rfl ?_
  refine xg_lstore_n (ls2 := [some (.ref x0), some (.ref x1), some (jv 0), none, none, none, none]) dX3_payOption_1 (Eq.refl 2) (by decide) rfl ?_
  refine xg_iconst dX3_payOption_2 (Eq.refl 3) ?_
  refine xg_istore (ls2 := [some (.ref x0), some (.ref x1), some (jv 0), none, some (iv 0), none, none]) dX3_payOption_3 (Eq.refl 5) (by decide) rfl ?_
  exact xg_jump (gX3_payOption_5 hl x0 h0 x1 h1 xN 0 (by decide) 0 (by decide) M hM) (xsb_s (xsb_s (xsb_s (xsb_n (xsb_s (xsb_n (xsb_n xsb_0))))))) (by decide) (by decide)
abbrev uX4_claimedOf : xU := (RX4, cX4_claimedOf, 2, (some .long), [], "claimedOf")
theorem bX4_claimedOf : xYV yX4_claimedOf cX4_claimedOf 2 (some .long) 1 := ⟨xq_848, xq_849, xq_67, xq_850, ⟨by decide +kernel, by decide +kernel, by decide +kernel⟩, by decide⟩
theorem mX4_claimedOf {l : Launch} {G : xG} (hl : l.stackTraces = false) (x0 : Nat) (h0 : xOb 4 x0) (x1 : Int) (h1 : R32 x1) (M : xM) (hM : xcan M) : Cm l G yX4_claimedOf cX4_claimedOf 2 (some .long) 1 2 0 0 [.ref x0, iv x1] M (fX4_claimedOf x0 x1 M) := by
  refine xcm_of (u := uX4_claimedOf) (ls := [some (.ref x0), some (iv x1)]) 0 hl rfl (by decide +kernel) (Nat.le_of_ble_eq_true rfl) rfl ?_
  unfold fX4_claimedOf
  refine xg_iload_n dX4_claimedOf_0 (Eq.refl 1) rfl ?_
  refine xg_if_lt (tgt := 22) dX4_claimedOf_1 (Eq.refl 4) (by decide) h1 ?_ ?_
  · refine xg_lconst (z := 0) dX4_claimedOf_22 (Eq.refl 23) rfl ?_
    exact xg_lret rfl dX4_claimedOf_23 rfl hM (by decide)
  · refine xg_iload_n dX4_claimedOf_4 (Eq.refl 5) rfl ?_
    refine xg_aload_n dX4_claimedOf_5 (Eq.refl 6) rfl ?_
    refine xg_getR (k := 12) xcl4 h0 rfl xq_101 rfl (xt_4_12 h0).1 dX4_claimedOf_6 (Eq.refl 9) ?_
    refine xg_alen (z := 20) (xt_4_12 h0).2 (by decide) dX4_claimedOf_9 (Eq.refl 10) rfl ?_
    refine xg_icmp_ge (tgt := 22) dX4_claimedOf_10 (Eq.refl 13) (by decide) h1 (by decide) ?_ ?_
    · refine xg_lconst (z := 0) dX4_claimedOf_22 (Eq.refl 23) rfl ?_
      exact xg_lret rfl dX4_claimedOf_23 rfl hM (by decide)
    · refine xg_aload_n dX4_claimedOf_13 (Eq.refl 14) rfl ?_
      refine xg_getR (k := 12) xcl4 h0 rfl xq_101 rfl (xt_4_12 h0).1 dX4_claimedOf_14 (Eq.refl 17) ?_
      refine xg_iload_n dX4_claimedOf_17 (Eq.refl 18) rfl ?_
      refine xg_lald (xt_4_12 h0).2 dX4_claimedOf_18 (Eq.refl 19) ?_
      refine xg_goto (tgt := 23) dX4_claimedOf_19 (by decide) ?_
      exact xg_lret rfl dX4_claimedOf_23 rfl hM (hM.aj (xt_4_12 h0).2)
abbrev uX3_payClaims : xU := (RX3, cX3_payClaims, 4, none, [], "payClaims")
theorem bX3_payClaims : xYV yX3_payClaims cX3_payClaims 4 none 1 := ⟨xq_842, xq_843, xq_26, xq_844, ⟨by decide +kernel, by decide +kernel, by decide +kernel⟩, by decide⟩
theorem gX3_payClaims_2 {l : Launch} {G : xG} (hl : l.stackTraces = false) (x0 : Nat) (h0 : xOb 3 x0) (x1 : Nat) (h1 : xOb 4 x1) : ∀ (n : Nat) (x2 : Int) (_ : R32 x2) (M : xM) (_ : xcan M), Gv l G uX3_payClaims 3 3 0 0 2 [some (.ref x0), some (.ref x1), some (iv x2), none] [] M (fX3_payClaims_2 x0 x1 n x2 M) := by
  intro n; induction n with
  | zero => intro x2 h2 M hM; exact xg_none
  | succ n ih =>
    intro x2 h2 M hM
    rw [fX3_payClaims_2]
    refine xg_iload_n dX3_payClaims_2 (Eq.refl 3) rfl ?_
    refine xg_aload_n dX3_payClaims_3 (Eq.refl 4) rfl ?_
    refine xg_getR (k := 0) xcl3 h0 rfl xq_114 rfl (xt_3_0 h0).1 dX3_payClaims_4 (Eq.refl 7) ?_
    refine xg_getI (k := 12) xcl1 (xt_3_0 h0).2 rfl xq_741 rfl dX3_payClaims_7 (Eq.refl 10) ?_
    refine xg_icmp_ge (tgt := 54) dX3_payClaims_10 (Eq.refl 13) (by decide) h2 (hM.I (xt_3_0 h0).2 rfl) ?_ ?_
    · exact xg_vret rfl dX3_payClaims_54 rfl hM
    · refine xg_aload_n dX3_payClaims_13 (Eq.refl 14) rfl ?_
      refine xg_getR (k := 0) xcl3 h0 rfl xq_114 rfl (xt_3_0 h0).1 dX3_payClaims_14 (Eq.refl 17) ?_
      refine xg_iload_n dX3_payClaims_17 (Eq.refl 18) rfl ?_
      refine xg_callV_R (cr := 10) (kc := 0) (ks := 0) (st := []) (mX1_trade hl (xr x0 0) (xt_3_0 h0).2 x2 h2 M hM) bX1_trade xcl1 (xt_3_0 h0).2 rfl xq_754 rfl (by decide) rfl (by decide) dX3_payClaims_18 (Eq.refl 21) rfl (by decide) (by decide) ?_
      intro z1 M2 hz1 hM2
      refine xg_astore_n (ls2 := [some (.ref x0), some (.ref x1), some (iv x2), some (.ref z1.toNat)]) dX3_payClaims_21 (Eq.refl 22) (by decide) rfl ?_
      refine xg_aload_n dX3_payClaims_22 (Eq.refl 23) rfl ?_
      refine xg_getR (k := 0) xcl3 h0 rfl xq_114 rfl (xt_3_0 h0).1 dX3_payClaims_23 (Eq.refl 26) ?_
      refine xg_aload_n dX3_payClaims_26 (Eq.refl 27) rfl ?_
      refine xg_getI (k := 3) xcl10 hz1 rfl xq_845 rfl dX3_payClaims_27 (Eq.refl 30) ?_
      refine xg_aload_n dX3_payClaims_30 (Eq.refl 31) rfl ?_
      refine xg_getI (k := 4) xcl10 hz1 rfl xq_846 rfl dX3_payClaims_31 (Eq.refl 34) ?_
      refine xg_aload_n dX3_payClaims_34 (Eq.refl 35) rfl ?_
      refine xg_getI (k := 2) xcl4 h1 rfl xq_809 rfl dX3_payClaims_35 (Eq.refl 38) ?_
      refine xg_i2l dX3_payClaims_38 (Eq.refl 39) (hM2.I h1 rfl) ?_
      refine xg_aload_n dX3_payClaims_39 (Eq.refl 40) rfl ?_
      refine xg_iload_n dX3_payClaims_40 (Eq.refl 41) rfl ?_
      refine xg_callV_J (kc := 0) (ks := 0) (st := [jv (M2 x1 2), iv (M2 z1.toNat 4), iv (M2 z1.toNat 3), .ref (xr x0 0)]) (mX4_claimedOf hl x1 h1 x2 h2 M2 hM2) bX4_claimedOf xcl4 h1 rfl xq_847 rfl (by decide) rfl (Nat.le_of_ble_eq_true rfl) dX3_payClaims_41 (Eq.refl 44) rfl (by decide) (by decide) ?_
      intro z3 M4 hz3 hM4
      refine xg_lmul dX3_payClaims_44 (Eq.refl 45) ?_
      refine xg_callV_N (kc := 0) (ks := 0) (st := []) (mX1_owe hl (xr x0 0) (xt_3_0 h0).2 (M2 z1.toNat 3) (hM2.I hz1 rfl) (M2 z1.toNat 4) (hM2.I hz1 rfl) (w64 ((M2 x1 2) * z3)) (w64_r _) M4 hM4) bX1_owe xcl1 (xt_3_0 h0).2 rfl xq_851 rfl (by decide) rfl (by decide) dX3_payClaims_45 (Eq.refl 48) rfl (by decide) (by decide) ?_
      intro z5 M6 hz5 hM6
      refine xg_iinc (ls2 := [some (.ref x0), some (.ref x1), some (iv (w32 (x2 + 1))), some (.ref z1.toNat)]) dX3_payClaims_48 (Eq.refl 51) rfl (by decide) rfl ?_
      refine xg_goto (tgt := 2) dX3_payClaims_51 (by decide) ?_
      exact xg_jump (ih (w32 (x2 + 1)) (w32_r _) M6 hM6) (xsb_s (xsb_s (xsb_s (xsb_n xsb_0)))) (by decide) (by decide)
theorem mX3_payClaims {l : Launch} {G : xG} (hl : l.stackTraces = false) (x0 : Nat) (h0 : xOb 3 x0) (x1 : Nat) (h1 : xOb 4 x1) (M : xM) (hM : xcan M) : Cm l G yX3_payClaims cX3_payClaims 4 none 3 3 0 0 [.ref x0, .ref x1] M (fX3_payClaims x0 x1 M) := by
  refine xcm_of (u := uX3_payClaims) (ls := [some (.ref x0), some (.ref x1), none, none]) 2 hl rfl (by decide +kernel) (Nat.le_of_ble_eq_true rfl) rfl ?_
  unfold fX3_payClaims
  refine xg_iconst dX3_payClaims_0 (Eq.refl 1) ?_
  refine xg_istore_n (ls2 := [some (.ref x0), some (.ref x1), some (iv 0), none]) dX3_payClaims_1 (Eq.refl 2) (by decide) rfl ?_
  exact xg_jump (gX3_payClaims_2 hl x0 h0 x1 h1 xN 0 (by decide) M hM) (xsb_s (xsb_s (xsb_s (xsb_n xsb_0)))) (by decide) (by decide)
abbrev uX3_payOut : xU := (RX3, cX3_payOut, 2, none, [], "payOut")
theorem bX3_payOut : xYV yX3_payOut cX3_payOut 2 none 1 := ⟨xq_761, xq_762, xq_26, xq_763, ⟨by decide +kernel, by decide +kernel, by decide +kernel⟩, by decide⟩
theorem gX3_payOut_46 {l : Launch} {G : xG} (hl : l.stackTraces = false) (x0 : Nat) (h0 : xOb 3 x0) (x1 : Nat) (h1 : xOb 4 x1) (M : xM) (hM : xcan M) : Gv l G uX3_payOut 6 3 0 0 46 [some (.ref x0), some (.ref x1)] [] M (fX3_payOut_46 x0 x1 M) := by
  unfold fX3_payOut_46
  refine xg_aload_n dX3_payOut_46 (Eq.refl 47) rfl ?_
  refine xg_aload_n dX3_payOut_47 (Eq.refl 48) rfl ?_
  refine xg_callV_N (kc := 0) (ks := 0) (st := []) (mX3_payClaims hl x0 h0 x1 h1 M hM) bX3_payClaims xcl3 h0 rfl xq_841 rfl (by decide) rfl (by decide) dX3_payOut_48 (Eq.refl 51) rfl (by decide) (by decide) ?_
  intro z1 M2 hz1 hM2
  refine xg_aload_n dX3_payOut_51 (Eq.refl 52) rfl ?_
  refine xg_iconst dX3_payOut_52 (Eq.refl 53) ?_
  refine xg_putZ (k := 8) xcl4 h1 rfl xq_764 rfl (by decide +kernel) dX3_payOut_53 (Eq.refl 56) rfl hM2 (by decide) ?_
  intro M3 hM3
  exact xg_vret rfl dX3_payOut_56 rfl hM3
theorem mX3_payOut {l : Launch} {G : xG} (hl : l.stackTraces = false) (x0 : Nat) (h0 : xOb 3 x0) (x1 : Nat) (h1 : xOb 4 x1) (M : xM) (hM : xcan M) : Cm l G yX3_payOut cX3_payOut 2 none 6 3 0 0 [.ref x0, .ref x1] M (fX3_payOut x0 x1 M) := by
  refine xcm_of (u := uX3_payOut) (ls := [some (.ref x0), some (.ref x1)]) 0 hl rfl (by decide +kernel) (Nat.le_of_ble_eq_true rfl) rfl ?_
  unfold fX3_payOut
  refine xg_aload_n dX3_payOut_0 (Eq.refl 1) rfl ?_
  refine xg_getI (k := 0) xcl4 h1 rfl xq_742 rfl dX3_payOut_1 (Eq.refl 4) ?_
  refine xg_iconst dX3_payOut_4 (Eq.refl 5) ?_
  refine xg_icmp_ne (tgt := 26) dX3_payOut_5 (Eq.refl 8) (by decide) (hM.I h1 rfl) (by decide) ?_ ?_
  · refine xg_aload_n dX3_payOut_8 (Eq.refl 9) rfl ?_
    refine xg_aload_n dX3_payOut_9 (Eq.refl 10) rfl ?_
    refine xg_callV_N (kc := 0) (ks := 0) (st := []) (mX3_splitHoldings hl x0 h0 x1 h1 M hM) bX3_splitHoldings xcl3 h0 rfl xq_765 rfl (by decide) rfl (by decide) dX3_payOut_10 (Eq.refl 13) rfl (by decide) (by decide) ?_
    intro z1 M2 hz1 hM2
    refine xg_aload_n dX3_payOut_13 (Eq.refl 14) rfl ?_
    refine xg_aload_n dX3_payOut_14 (Eq.refl 15) rfl ?_
    refine xg_callV_N (kc := 0) (ks := 0) (st := []) (mX3_splitLoans hl x0 h0 x1 h1 M2 hM2) bX3_splitLoans xcl3 h0 rfl xq_790 rfl (by decide) rfl (by decide) dX3_payOut_15 (Eq.refl 18) rfl (by decide) (by decide) ?_
    intro z3 M4 hz3 hM4
    refine xg_aload_n dX3_payOut_18 (Eq.refl 19) rfl ?_
    refine xg_aload_n dX3_payOut_19 (Eq.refl 20) rfl ?_
    refine xg_callV_N (kc := 0) (ks := 0) (st := []) (mX3_splitTrades hl x0 h0 x1 h1 M4 hM4) bX3_splitTrades xcl3 h0 rfl xq_798 rfl (by decide) rfl (by decide) dX3_payOut_20 (Eq.refl 23) rfl (by decide) (by decide) ?_
    intro z5 M6 hz5 hM6
    refine xg_goto (tgt := 46) dX3_payOut_23 (by decide) ?_
    exact xg_jump (gX3_payOut_46 hl x0 h0 x1 h1 M6 hM6) (xsb_s (xsb_s xsb_0)) (by decide) (by decide)
  · refine xg_aload_n dX3_payOut_26 (Eq.refl 27) rfl ?_
    refine xg_getI (k := 0) xcl4 h1 rfl xq_742 rfl dX3_payOut_27 (Eq.refl 30) ?_
    refine xg_if_ne (tgt := 41) dX3_payOut_30 (Eq.refl 33) (by decide) (hM.I h1 rfl) ?_ ?_
    · refine xg_aload_n dX3_payOut_33 (Eq.refl 34) rfl ?_
      refine xg_aload_n dX3_payOut_34 (Eq.refl 35) rfl ?_
      refine xg_callV_N (kc := 0) (ks := 0) (st := []) (mX3_payDividend hl x0 h0 x1 h1 M hM) bX3_payDividend xcl3 h0 rfl xq_805 rfl (by decide) rfl (by decide) dX3_payOut_35 (Eq.refl 38) rfl (by decide) (by decide) ?_
      intro z7 M8 hz7 hM8
      refine xg_goto (tgt := 46) dX3_payOut_38 (by decide) ?_
      exact xg_jump (gX3_payOut_46 hl x0 h0 x1 h1 M8 hM8) (xsb_s (xsb_s xsb_0)) (by decide) (by decide)
    · refine xg_aload_n dX3_payOut_41 (Eq.refl 42) rfl ?_
      refine xg_aload_n dX3_payOut_42 (Eq.refl 43) rfl ?_
      refine xg_callV_N (kc := 0) (ks := 0) (st := []) (mX3_payOption hl x0 h0 x1 h1 M hM) bX3_payOption xcl3 h0 rfl xq_827 rfl (by decide) rfl (by decide) dX3_payOut_43 (Eq.refl 46) rfl (by decide) (by decide) ?_
      intro z9 M10 hz9 hM10
      exact xg_jump (gX3_payOut_46 hl x0 h0 x1 h1 M10 hM10) (xsb_s (xsb_s xsb_0)) (by decide) (by decide)
