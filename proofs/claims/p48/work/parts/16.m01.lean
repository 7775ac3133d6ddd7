abbrev uX1_cancelInstruction : xU := (RX1, cX1_cancelInstruction, 2, none, [], "cancelInstruction")
theorem bX1_cancelInstruction : xYV yX1_cancelInstruction cX1_cancelInstruction 2 none 1 := ⟨xq_540, xq_541, xq_17, xq_542, ⟨by decide +kernel, by decide +kernel, by decide +kernel⟩, by decide⟩
theorem mX1_cancelInstruction {l : Launch} {G : xG} (hl : l.stackTraces = false) (x0 : Nat) (h0 : xOb 1 x0) (x1 : Nat) (h1 : xOb 5 x1) (M : xM) (hM : xcan M) : Cm l G yX1_cancelInstruction cX1_cancelInstruction 2 none 2 3 0 0 [.ref x0, .ref x1] M (fX1_cancelInstruction x0 x1 M) := by
  refine xcm_of (u := uX1_cancelInstruction) (ls := [some (.ref x0), some (.ref x1)]) 0 hl rfl (by decide +kernel) (Nat.le_of_ble_eq_true rfl) rfl ?_
  unfold fX1_cancelInstruction
  refine xg_aload_n dX1_cancelInstruction_0 (Eq.refl 1) rfl ?_
  refine xg_iconst dX1_cancelInstruction_1 (Eq.refl 2) ?_
  refine xg_putI (k := 9) xcl5 h1 rfl xq_494 rfl (by decide +kernel) dX1_cancelInstruction_2 (Eq.refl 5) rfl hM (by decide) ?_
  intro M1 hM1
  refine xg_aload_n dX1_cancelInstruction_5 (Eq.refl 6) rfl ?_
  refine xg_getR (k := 0) xcl1 h0 rfl xq_53 rfl (xt_1_0 h0).1 dX1_cancelInstruction_6 (Eq.refl 9) ?_
  refine xg_aload_n dX1_cancelInstruction_9 (Eq.refl 10) rfl ?_
  refine xg_getI (k := 0) xcl5 h1 rfl xq_474 rfl dX1_cancelInstruction_10 (Eq.refl 13) ?_
  refine xg_callV_N (kc := 0) (ks := 0) (st := []) (mX8_tell hl (xr x0 0) (xt_1_0 h0).2 (M1 x1 0) (hM1.I h1 rfl) M1 hM1) bX8_tell xcl8 (xt_1_0 h0).2 rfl xq_499 rfl (by decide) rfl (by decide) dX1_cancelInstruction_13 (Eq.refl 16) rfl (by decide) (by decide) ?_
  intro z2 M3 hz2 hM3
  exact xg_vret rfl dX1_cancelInstruction_16 rfl hM3
abbrev uX6_names : xU := (RX6, cX6_names, 2, (some .boolean), [], "names")
theorem bX6_names : xYV yX6_names cX6_names 2 (some .boolean) 1 := ⟨xq_551, xq_552, xq_63, xq_553, ⟨by decide +kernel, by decide +kernel, by decide +kernel⟩, by decide⟩
theorem gX6_names_16 {l : Launch} {G : xG} (hl : l.stackTraces = false) (M : xM) (hM : xcan M) : Gv l G uX6_names 1 1 0 0 16 [none, none] [] M (fX6_names_16 M) := by
  unfold fX6_names_16
  refine xg_iconst dX6_names_16 (Eq.refl 17) ?_
  refine xg_goto (tgt := 21) dX6_names_17 (by decide) ?_
  exact xg_zret rfl dX6_names_21 rfl hM (by decide)
theorem mX6_names {l : Launch} {G : xG} (hl : l.stackTraces = false) (x0 : Nat) (h0 : xOb 6 x0) (x1 : Int) (h1 : R32 x1) (M : xM) (hM : xcan M) : Cm l G yX6_names cX6_names 2 (some .boolean) 1 1 0 0 [.ref x0, iv x1] M (fX6_names x0 x1 M) := by
  refine xcm_of (u := uX6_names) (ls := [some (.ref x0), some (iv x1)]) 0 hl rfl (by decide +kernel) (Nat.le_of_ble_eq_true rfl) rfl ?_
  unfold fX6_names
  refine xg_aload_n dX6_names_0 (Eq.refl 1) rfl ?_
  refine xg_getI (k := 0) xcl6 h0 rfl xq_554 rfl dX6_names_1 (Eq.refl 4) ?_
  refine xg_iload_n dX6_names_4 (Eq.refl 5) rfl ?_
  refine xg_icmp_eq (tgt := 16) dX6_names_5 (Eq.refl 8) (by decide) (hM.I h0 rfl) h1 ?_ ?_
  · exact xg_jump (gX6_names_16 hl M hM) (xsb_n (xsb_n xsb_0)) (by decide) (by decide)
  · refine xg_aload_n dX6_names_8 (Eq.refl 9) rfl ?_
    refine xg_getI (k := 1) xcl6 h0 rfl xq_555 rfl dX6_names_9 (Eq.refl 12) ?_
    refine xg_iload_n dX6_names_12 (Eq.refl 13) rfl ?_
    refine xg_icmp_ne (tgt := 20) dX6_names_13 (Eq.refl 16) (by decide) (hM.I h0 rfl) h1 ?_ ?_
    · exact xg_jump (gX6_names_16 hl M hM) (xsb_n (xsb_n xsb_0)) (by decide) (by decide)
    · refine xg_iconst dX6_names_20 (Eq.refl 21) ?_
      exact xg_zret rfl dX6_names_21 rfl hM (by decide)
abbrev uX1_cancelTrade : xU := (RX1, cX1_cancelTrade, 4, none, [], "cancelTrade")
theorem bX1_cancelTrade : xYV yX1_cancelTrade cX1_cancelTrade 4 none 1 := ⟨xq_544, xq_545, xq_17, xq_546, ⟨by decide +kernel, by decide +kernel, by decide +kernel⟩, by decide⟩
theorem gX1_cancelTrade_54 {l : Launch} {G : xG} (hl : l.stackTraces = false) (rc15 : Int → Int → xM → xO) (x0 : Nat) (h0 : xOb 1 x0) (x1 : Nat) (h1 : xOb 10 x1) (x2 : Int) (h2 : R32 x2) (x3 : Int) (h3 : R32 x3) (hr15 : ∀ w2 : Int, R32 w2 → ∀ w3 : Int, R32 w3 → ∀ M : xM, xcan M → Gv l G uX1_cancelTrade 3 3 0 0 15 [some (.ref x0), some (.ref x1), some (iv w2), some (iv w3)] [] M (rc15 w2 w3 M)) (M : xM) (hM : xcan M) : Gv l G uX1_cancelTrade 3 3 0 0 54 [some (.ref x0), some (.ref x1), some (iv x2), some (iv x3)] [] M (fX1_cancelTrade_54 rc15 x0 x1 x2 x3 M) := by
  unfold fX1_cancelTrade_54
  refine xg_iinc (ls2 := [some (.ref x0), some (.ref x1), some (iv x2), some (iv (w32 (x3 + 1)))]) dX1_cancelTrade_54 (Eq.refl 57) rfl (by decide) rfl ?_
  refine xg_goto (tgt := 15) dX1_cancelTrade_57 (by decide) ?_
  exact xg_jump (hr15 x2 h2 (w32 (x3 + 1)) (w32_r _) M hM) (xsb_s (xsb_s (xsb_s (xsb_s xsb_0)))) (by decide) (by decide)
theorem gX1_cancelTrade_15 {l : Launch} {G : xG} (hl : l.stackTraces = false) (x0 : Nat) (h0 : xOb 1 x0) (x1 : Nat) (h1 : xOb 10 x1) : ∀ (n : Nat) (x2 : Int) (_ : R32 x2) (x3 : Int) (_ : R32 x3) (M : xM) (_ : xcan M), Gv l G uX1_cancelTrade 3 3 0 0 15 [some (.ref x0), some (.ref x1), some (iv x2), some (iv x3)] [] M (fX1_cancelTrade_15 x0 x1 n x2 x3 M) := by
  intro n; induction n with
  | zero => intro x2 h2 x3 h3 M hM; exact xg_none
  | succ n ih =>
    intro x2 h2 x3 h3 M hM
    rw [fX1_cancelTrade_15]
    refine xg_iload_n dX1_cancelTrade_15 (Eq.refl 16) rfl ?_
    refine xg_aload_n dX1_cancelTrade_16 (Eq.refl 17) rfl ?_
    refine xg_getI (k := 13) xcl1 h0 rfl xq_547 rfl dX1_cancelTrade_17 (Eq.refl 20) ?_
    refine xg_icmp_ge (tgt := 60) dX1_cancelTrade_20 (Eq.refl 23) (by decide) h3 (hM.I h0 rfl) ?_ ?_
    · refine xg_aload_n dX1_cancelTrade_60 (Eq.refl 61) rfl ?_
      refine xg_iload_n dX1_cancelTrade_61 (Eq.refl 62) rfl ?_
      refine xg_putI (k := 13) xcl1 h0 rfl xq_547 rfl (by decide +kernel) dX1_cancelTrade_62 (Eq.refl 65) rfl hM h2 ?_
      intro M1 hM1
      exact xg_vret rfl dX1_cancelTrade_65 rfl hM1
    · refine xg_aload_n dX1_cancelTrade_23 (Eq.refl 24) rfl ?_
      refine xg_iload_n dX1_cancelTrade_24 (Eq.refl 25) rfl ?_
      refine xg_callV_R (cr := 6) (kc := 0) (ks := 0) (st := []) (mX1_linkAt hl x0 h0 x3 h3 M hM) bX1_linkAt xcl1 h0 rfl xq_549 rfl (by decide) rfl (by decide) dX1_cancelTrade_25 (Eq.refl 28) rfl (by decide) (by decide) ?_
      intro z2 M3 hz2 hM3
      refine xg_aload_n dX1_cancelTrade_28 (Eq.refl 29) rfl ?_
      refine xg_getI (k := 0) xcl10 h1 rfl xq_548 rfl dX1_cancelTrade_29 (Eq.refl 32) ?_
      refine xg_callV_Z (kc := 0) (ks := 0) (st := []) (mX6_names hl z2.toNat hz2 (M3 x1 0) (hM3.I h1 rfl) M3 hM3) bX6_names xcl6 hz2 rfl xq_550 rfl (by decide) rfl (by decide) dX1_cancelTrade_32 (Eq.refl 35) rfl (by decide) (by decide) ?_
      intro z4 M5 hz4 hM5
      refine xg_if_ne (tgt := 54) dX1_cancelTrade_35 (Eq.refl 38) (by decide) (B01.r hz4) ?_ ?_
      · refine xg_aload_n dX1_cancelTrade_38 (Eq.refl 39) rfl ?_
        refine xg_iload_n dX1_cancelTrade_39 (Eq.refl 40) rfl ?_
        refine xg_callV_R (cr := 6) (kc := 0) (ks := 0) (st := []) (mX1_linkAt hl x0 h0 x2 h2 M5 hM5) bX1_linkAt xcl1 h0 rfl xq_549 rfl (by decide) rfl (by decide) dX1_cancelTrade_40 (Eq.refl 43) rfl (by decide) (by decide) ?_
        intro z6 M7 hz6 hM7
        refine xg_aload_n dX1_cancelTrade_43 (Eq.refl 44) rfl ?_
        refine xg_iload_n dX1_cancelTrade_44 (Eq.refl 45) rfl ?_
        refine xg_callV_R (cr := 6) (kc := 0) (ks := 0) (st := [.ref z6.toNat]) (mX1_linkAt hl x0 h0 x3 h3 M7 hM7) bX1_linkAt xcl1 h0 rfl xq_549 rfl (by decide) rfl (Nat.le_of_ble_eq_true rfl) dX1_cancelTrade_45 (Eq.refl 48) rfl (by decide) (by decide) ?_
        intro z8 M9 hz8 hM9
        refine xg_callV_N (kc := 0) (ks := 0) (st := []) (mX6_copyFrom hl z6.toNat hz6 z8.toNat hz8 M9 hM9) bX6_copyFrom xcl6 hz6 rfl xq_556 rfl (by decide) rfl (by decide) dX1_cancelTrade_48 (Eq.refl 51) rfl (by decide) (by decide) ?_
        intro z10 M11 hz10 hM11
        refine xg_iinc (ls2 := [some (.ref x0), some (.ref x1), some (iv (w32 (x2 + 1))), some (iv x3)]) dX1_cancelTrade_51 (Eq.refl 54) rfl (by decide) rfl ?_
        exact xg_jump (gX1_cancelTrade_54 hl (fX1_cancelTrade_15 x0 x1 n) x0 h0 x1 h1 (w32 (x2 + 1)) (w32_r _) x3 h3 ih M11 hM11) (xsb_s (xsb_s (xsb_s (xsb_s xsb_0)))) (by decide) (by decide)
      · exact xg_jump (gX1_cancelTrade_54 hl (fX1_cancelTrade_15 x0 x1 n) x0 h0 x1 h1 x2 h2 x3 h3 ih M5 hM5) (xsb_s (xsb_s (xsb_s (xsb_s xsb_0)))) (by decide) (by decide)
theorem mX1_cancelTrade {l : Launch} {G : xG} (hl : l.stackTraces = false) (x0 : Nat) (h0 : xOb 1 x0) (x1 : Nat) (h1 : xOb 10 x1) (M : xM) (hM : xcan M) : Cm l G yX1_cancelTrade cX1_cancelTrade 4 none 3 3 0 0 [.ref x0, .ref x1] M (fX1_cancelTrade x0 x1 M) := by
  refine xcm_of (u := uX1_cancelTrade) (ls := [some (.ref x0), some (.ref x1), none, none]) 2 hl rfl (by decide +kernel) (Nat.le_of_ble_eq_true rfl) rfl ?_
  unfold fX1_cancelTrade
  refine xg_aload_n dX1_cancelTrade_0 (Eq.refl 1) rfl ?_
  refine xg_aload_n dX1_cancelTrade_1 (Eq.refl 2) rfl ?_
  refine xg_iconst dX1_cancelTrade_2 (Eq.refl 3) ?_
  refine xg_callV_N (kc := 0) (ks := 0) (st := []) (mX1_putStatus hl x0 h0 x1 h1 3 (by decide) M hM) bX1_putStatus xcl1 h0 rfl xq_490 rfl (by decide) rfl (by decide) dX1_cancelTrade_3 (Eq.refl 6) rfl (by decide) (by decide) ?_
  intro z1 M2 hz1 hM2
  refine xg_aload_n dX1_cancelTrade_6 (Eq.refl 7) rfl ?_
  refine xg_aload_n dX1_cancelTrade_7 (Eq.refl 8) rfl ?_
  refine xg_callV_N (kc := 0) (ks := 0) (st := []) (mX1_tellBoth hl x0 h0 x1 h1 M2 hM2) bX1_tellBoth xcl1 h0 rfl xq_495 rfl (by decide) rfl (by decide) dX1_cancelTrade_8 (Eq.refl 11) rfl (by decide) (by decide) ?_
  intro z3 M4 hz3 hM4
  refine xg_iconst dX1_cancelTrade_11 (Eq.refl 12) ?_
  refine xg_istore_n (ls2 := [some (.ref x0), some (.ref x1), some (iv 0), none]) dX1_cancelTrade_12 (Eq.refl 13) (by decide) rfl ?_
  refine xg_iconst dX1_cancelTrade_13 (Eq.refl 14) ?_
  refine xg_istore_n (ls2 := [some (.ref x0), some (.ref x1), some (iv 0), some (iv 0)]) dX1_cancelTrade_14 (Eq.refl 15) (by decide) rfl ?_
  exact xg_jump (gX1_cancelTrade_15 hl x0 h0 x1 h1 xN 0 (by decide) 0 (by decide) M4 hM4) (xsb_s (xsb_s (xsb_s (xsb_s xsb_0)))) (by decide) (by decide)
abbrev uX1_isDue : xU := (RX1, cX1_isDue, 2, (some .boolean), [], "isDue")
theorem bX1_isDue : xYV yX1_isDue cX1_isDue 2 (some .boolean) 1 := ⟨xq_310, xq_311, xq_17, xq_312, ⟨by decide +kernel, by decide +kernel, by decide +kernel⟩, by decide⟩
theorem mX1_isDue {l : Launch} {G : xG} (hl : l.stackTraces = false) (x0 : Nat) (h0 : xOb 1 x0) (x1 : Nat) (h1 : xOb 10 x1) (M : xM) (hM : xcan M) : Cm l G yX1_isDue cX1_isDue 2 (some .boolean) 1 1 0 0 [.ref x0, .ref x1] M (fX1_isDue x0 x1 M) := by
  refine xcm_of (u := uX1_isDue) (ls := [some (.ref x0), some (.ref x1)]) 0 hl rfl (by decide +kernel) (Nat.le_of_ble_eq_true rfl) rfl ?_
  unfold fX1_isDue
  refine xg_aload_n dX1_isDue_0 (Eq.refl 1) rfl ?_
  refine xg_getI (k := 12) xcl10 h1 rfl xq_313 rfl dX1_isDue_1 (Eq.refl 4) ?_
  refine xg_iconst dX1_isDue_4 (Eq.refl 5) ?_
  refine xg_icmp_ne (tgt := 23) dX1_isDue_5 (Eq.refl 8) (by decide) (hM.I h1 rfl) (by decide) ?_ ?_
  · refine xg_aload_n dX1_isDue_8 (Eq.refl 9) rfl ?_
    refine xg_getI (k := 9) xcl10 h1 rfl xq_314 rfl dX1_isDue_9 (Eq.refl 12) ?_
    refine xg_aload_n dX1_isDue_12 (Eq.refl 13) rfl ?_
    refine xg_getI (k := 16) xcl1 h0 rfl xq_315 rfl dX1_isDue_13 (Eq.refl 16) ?_
    refine xg_icmp_gt (tgt := 23) dX1_isDue_16 (Eq.refl 19) (by decide) (hM.I h1 rfl) (hM.I h0 rfl) ?_ ?_
    · refine xg_iconst dX1_isDue_23 (Eq.refl 24) ?_
      exact xg_zret rfl dX1_isDue_24 rfl hM (by decide)
    · refine xg_iconst dX1_isDue_19 (Eq.refl 20) ?_
      refine xg_goto (tgt := 24) dX1_isDue_20 (by decide) ?_
      exact xg_zret rfl dX1_isDue_24 rfl hM (by decide)
  · refine xg_iconst dX1_isDue_23 (Eq.refl 24) ?_
    exact xg_zret rfl dX1_isDue_24 rfl hM (by decide)
abbrev uX1_isHeldUp : xU := (RX1, cX1_isHeldUp, 2, (some .boolean), [], "isHeldUp")
theorem bX1_isHeldUp : xYV yX1_isHeldUp cX1_isHeldUp 2 (some .boolean) 1 := ⟨xq_317, xq_318, xq_17, xq_319, ⟨by decide +kernel, by decide +kernel, by decide +kernel⟩, by decide⟩
theorem gX1_isHeldUp_28 {l : Launch} {G : xG} (hl : l.stackTraces = false) (M : xM) (hM : xcan M) : Gv l G uX1_isHeldUp 2 1 0 0 28 [none, none] [] M (fX1_isHeldUp_28 M) := by
  unfold fX1_isHeldUp_28
  refine xg_iconst dX1_isHeldUp_28 (Eq.refl 29) ?_
  refine xg_goto (tgt := 33) dX1_isHeldUp_29 (by decide) ?_
  exact xg_zret rfl dX1_isHeldUp_33 rfl hM (by decide)
theorem mX1_isHeldUp {l : Launch} {G : xG} (hl : l.stackTraces = false) (x0 : Nat) (h0 : xOb 1 x0) (x1 : Nat) (h1 : xOb 10 x1) (M : xM) (hM : xcan M) : Cm l G yX1_isHeldUp cX1_isHeldUp 2 (some .boolean) 2 1 0 0 [.ref x0, .ref x1] M (fX1_isHeldUp x0 x1 M) := by
  refine xcm_of (u := uX1_isHeldUp) (ls := [some (.ref x0), some (.ref x1)]) 0 hl rfl (by decide +kernel) (Nat.le_of_ble_eq_true rfl) rfl ?_
  unfold fX1_isHeldUp
  refine xg_aload_n dX1_isHeldUp_0 (Eq.refl 1) rfl ?_
  refine xg_aload_n dX1_isHeldUp_1 (Eq.refl 2) rfl ?_
  refine xg_getI (k := 1) xcl10 h1 rfl xq_320 rfl dX1_isHeldUp_2 (Eq.refl 5) ?_
  refine xg_callV_R (cr := 5) (kc := 0) (ks := 0) (st := []) (mX1_instruction hl x0 h0 (M x1 1) (hM.I h1 rfl) M hM) bX1_instruction xcl1 h0 rfl xq_323 rfl (by decide) rfl (by decide) dX1_isHeldUp_5 (Eq.refl 8) rfl (by decide) (by decide) ?_
  intro z1 M2 hz1 hM2
  refine xg_getZ (k := 11) xcl5 hz1 rfl xq_321 rfl dX1_isHeldUp_8 (Eq.refl 11) hM2 ?_
  refine xg_if_ne (tgt := 28) dX1_isHeldUp_11 (Eq.refl 14) (by decide) (B01.r (hM2.Z hz1 rfl)) ?_ ?_
  · refine xg_aload_n dX1_isHeldUp_14 (Eq.refl 15) rfl ?_
    refine xg_aload_n dX1_isHeldUp_15 (Eq.refl 16) rfl ?_
    refine xg_getI (k := 2) xcl10 h1 rfl xq_322 rfl dX1_isHeldUp_16 (Eq.refl 19) ?_
    refine xg_callV_R (cr := 5) (kc := 0) (ks := 0) (st := []) (mX1_instruction hl x0 h0 (M2 x1 2) (hM2.I h1 rfl) M2 hM2) bX1_instruction xcl1 h0 rfl xq_323 rfl (by decide) rfl (by decide) dX1_isHeldUp_19 (Eq.refl 22) rfl (by decide) (by decide) ?_
    intro z3 M4 hz3 hM4
    refine xg_getZ (k := 11) xcl5 hz3 rfl xq_321 rfl dX1_isHeldUp_22 (Eq.refl 25) hM4 ?_
    refine xg_if_eq (tgt := 32) dX1_isHeldUp_25 (Eq.refl 28) (by decide) (B01.r (hM4.Z hz3 rfl)) ?_ ?_
    · refine xg_iconst dX1_isHeldUp_32 (Eq.refl 33) ?_
      exact xg_zret rfl dX1_isHeldUp_33 rfl hM4 (by decide)
    · exact xg_jump (gX1_isHeldUp_28 hl M4 hM4) (xsb_n (xsb_n xsb_0)) (by decide) (by decide)
  · exact xg_jump (gX1_isHeldUp_28 hl M2 hM2) (xsb_n (xsb_n xsb_0)) (by decide) (by decide)
abbrev uX1_isLacking : xU := (RX1, cX1_isLacking, 2, (some .boolean), [], "isLacking")
theorem bX1_isLacking : xYV yX1_isLacking cX1_isLacking 2 (some .boolean) 1 := ⟨xq_672, xq_673, xq_17, xq_674, ⟨by decide +kernel, by decide +kernel, by decide +kernel⟩, by decide⟩
theorem mX1_isLacking {l : Launch} {G : xG} (hl : l.stackTraces = false) (x0 : Nat) (h0 : xOb 1 x0) (x1 : Nat) (h1 : xOb 10 x1) (M : xM) (hM : xcan M) : Cm l G yX1_isLacking cX1_isLacking 2 (some .boolean) 2 1 0 0 [.ref x0, .ref x1] M (fX1_isLacking x0 x1 M) := by
  refine xcm_of (u := uX1_isLacking) (ls := [some (.ref x0), some (.ref x1)]) 0 hl rfl (by decide +kernel) (Nat.le_of_ble_eq_true rfl) rfl ?_
  unfold fX1_isLacking
  refine xg_aload_n dX1_isLacking_0 (Eq.refl 1) rfl ?_
  refine xg_aload_n dX1_isLacking_1 (Eq.refl 2) rfl ?_
  refine xg_getI (k := 3) xcl10 h1 rfl xq_411 rfl dX1_isLacking_2 (Eq.refl 5) ?_
  refine xg_callV_R (cr := 0) (kc := 0) (ks := 0) (st := []) (mX1_account hl x0 h0 (M x1 3) (hM.I h1 rfl) M hM) bX1_account xcl1 h0 rfl xq_389 rfl (by decide) rfl (by decide) dX1_isLacking_5 (Eq.refl 8) rfl (by decide) (by decide) ?_
  intro z1 M2 hz1 hM2
  refine xg_aload_n dX1_isLacking_8 (Eq.refl 9) rfl ?_
  refine xg_getI (k := 5) xcl10 h1 rfl xq_412 rfl dX1_isLacking_9 (Eq.refl 12) ?_
  refine xg_callV_J (kc := 0) (ks := 0) (st := []) (mX0_freeOf hl z1.toNat hz1 (M2 x1 5) (hM2.I h1 rfl) M2 hM2) bX0_freeOf xcl0 hz1 rfl xq_390 rfl (by decide) rfl (by decide) dX1_isLacking_12 (Eq.refl 15) rfl (by decide) (by decide) ?_
  intro z3 M4 hz3 hM4
  refine xg_aload_n dX1_isLacking_15 (Eq.refl 16) rfl ?_
  refine xg_getJ (k := 6) xcl10 h1 rfl xq_477 rfl dX1_isLacking_16 (Eq.refl 19) ?_
  refine xg_lif_ge (tgt := 27) dX1_isLacking_19 (Eq.refl 20) dX1_isLacking_20 (Eq.refl 23) (by decide) hz3 (hM4.J h1 rfl) ?_ ?_
  · refine xg_iconst dX1_isLacking_27 (Eq.refl 28) ?_
    exact xg_zret rfl dX1_isLacking_28 rfl hM4 (by decide)
  · refine xg_iconst dX1_isLacking_23 (Eq.refl 24) ?_
    refine xg_goto (tgt := 28) dX1_isLacking_24 (by decide) ?_
    exact xg_zret rfl dX1_isLacking_28 rfl hM4 (by decide)
abbrev uX1_isLinked : xU := (RX1, cX1_isLinked, 3, (some .boolean), [], "isLinked")
theorem bX1_isLinked : xYV yX1_isLinked cX1_isLinked 3 (some .boolean) 1 := ⟨xq_676, xq_677, xq_17, xq_678, ⟨by decide +kernel, by decide +kernel, by decide +kernel⟩, by decide⟩
theorem gX1_isLinked_2 {l : Launch} {G : xG} (hl : l.stackTraces = false) (x0 : Nat) (h0 : xOb 1 x0) (x1 : Nat) (h1 : xOb 10 x1) : ∀ (n : Nat) (x2 : Int) (_ : R32 x2) (M : xM) (_ : xcan M), Gv l G uX1_isLinked 2 1 0 0 2 [some (.ref x0), some (.ref x1), some (iv x2)] [] M (fX1_isLinked_2 x0 x1 n x2 M) := by
  intro n; induction n with
  | zero => intro x2 h2 M hM; exact xg_none
  | succ n ih =>
    intro x2 h2 M hM
    rw [fX1_isLinked_2]
    refine xg_iload_n dX1_isLinked_2 (Eq.refl 3) rfl ?_
    refine xg_aload_n dX1_isLinked_3 (Eq.refl 4) rfl ?_
    refine xg_getI (k := 13) xcl1 h0 rfl xq_547 rfl dX1_isLinked_4 (Eq.refl 7) ?_
    refine xg_icmp_ge (tgt := 33) dX1_isLinked_7 (Eq.refl 10) (by decide) h2 (hM.I h0 rfl) ?_ ?_
    · refine xg_iconst dX1_isLinked_33 (Eq.refl 34) ?_
      exact xg_zret rfl dX1_isLinked_34 rfl hM (by decide)
    · refine xg_aload_n dX1_isLinked_10 (Eq.refl 11) rfl ?_
      refine xg_iload_n dX1_isLinked_11 (Eq.refl 12) rfl ?_
      refine xg_callV_R (cr := 6) (kc := 0) (ks := 0) (st := []) (mX1_linkAt hl x0 h0 x2 h2 M hM) bX1_linkAt xcl1 h0 rfl xq_549 rfl (by decide) rfl (by decide) dX1_isLinked_12 (Eq.refl 15) rfl (by decide) (by decide) ?_
      intro z1 M2 hz1 hM2
      refine xg_aload_n dX1_isLinked_15 (Eq.refl 16) rfl ?_
      refine xg_getI (k := 0) xcl10 h1 rfl xq_548 rfl dX1_isLinked_16 (Eq.refl 19) ?_
      refine xg_callV_Z (kc := 0) (ks := 0) (st := []) (mX6_names hl z1.toNat hz1 (M2 x1 0) (hM2.I h1 rfl) M2 hM2) bX6_names xcl6 hz1 rfl xq_550 rfl (by decide) rfl (by decide) dX1_isLinked_19 (Eq.refl 22) rfl (by decide) (by decide) ?_
      intro z3 M4 hz3 hM4
      refine xg_if_eq (tgt := 27) dX1_isLinked_22 (Eq.refl 25) (by decide) (B01.r hz3) ?_ ?_
      · refine xg_iinc (ls2 := [some (.ref x0), some (.ref x1), some (iv (w32 (x2 + 1)))]) dX1_isLinked_27 (Eq.refl 30) rfl (by decide) rfl ?_
        refine xg_goto (tgt := 2) dX1_isLinked_30 (by decide) ?_
        exact xg_jump (ih (w32 (x2 + 1)) (w32_r _) M4 hM4) (xsb_s (xsb_s (xsb_s xsb_0))) (by decide) (by decide)
      · refine xg_iconst dX1_isLinked_25 (Eq.refl 26) ?_
        exact xg_zret rfl dX1_isLinked_26 rfl hM4 (by decide)
theorem mX1_isLinked {l : Launch} {G : xG} (hl : l.stackTraces = false) (x0 : Nat) (h0 : xOb 1 x0) (x1 : Nat) (h1 : xOb 10 x1) (M : xM) (hM : xcan M) : Cm l G yX1_isLinked cX1_isLinked 3 (some .boolean) 2 1 0 0 [.ref x0, .ref x1] M (fX1_isLinked x0 x1 M) := by
  refine xcm_of (u := uX1_isLinked) (ls := [some (.ref x0), some (.ref x1), none]) 1 hl rfl (by decide +kernel) (Nat.le_of_ble_eq_true rfl) rfl ?_
  unfold fX1_isLinked
  refine xg_iconst dX1_isLinked_0 (Eq.refl 1) ?_
  refine xg_istore_n (ls2 := [some (.ref x0), some (.ref x1), some (iv 0)]) dX1_isLinked_1 (Eq.refl 2) (by decide) rfl ?_
  exact xg_jump (gX1_isLinked_2 hl x0 h0 x1 h1 xN 0 (by decide) M hM) (xsb_s (xsb_s (xsb_s xsb_0))) (by decide) (by decide)
abbrev uX1_isLinkOf : xU := (RX1, cX1_isLinkOf, 4, (some .boolean), [], "isLinkOf")
theorem bX1_isLinkOf : xYV yX1_isLinkOf cX1_isLinkOf 4 (some .boolean) 2 := ⟨xq_582, xq_583, xq_17, xq_584, ⟨by decide +kernel, by decide +kernel, by decide +kernel⟩, by decide⟩
theorem gX1_isLinkOf_36 {l : Launch} {G : xG} (hl : l.stackTraces = false) (rc2 : Int → xM → xO) (x0 : Nat) (h0 : xOb 1 x0) (x1 : Int) (h1 : R32 x1) (x2 : Int) (h2 : R32 x2) (x3 : Int) (h3 : R32 x3) (hr2 : ∀ w3 : Int, R32 w3 → ∀ M : xM, xcan M → Gv l G uX1_isLinkOf 2 1 0 0 2 [some (.ref x0), some (iv x1), some (iv x2), some (iv w3)] [] M (rc2 w3 M)) (M : xM) (hM : xcan M) : Gv l G uX1_isLinkOf 2 1 0 0 36 [some (.ref x0), some (iv x1), some (iv x2), some (iv x3)] [] M (fX1_isLinkOf_36 rc2 x0 x1 x2 x3 M) := by
  unfold fX1_isLinkOf_36
  refine xg_iinc (ls2 := [some (.ref x0), some (iv x1), some (iv x2), some (iv (w32 (x3 + 1)))]) dX1_isLinkOf_36 (Eq.refl 39) rfl (by decide) rfl ?_
  refine xg_goto (tgt := 2) dX1_isLinkOf_39 (by decide) ?_
  exact xg_jump (hr2 (w32 (x3 + 1)) (w32_r _) M hM) (xsb_s (xsb_s (xsb_s (xsb_s xsb_0)))) (by decide) (by decide)
theorem gX1_isLinkOf_2 {l : Launch} {G : xG} (hl : l.stackTraces = false) (x0 : Nat) (h0 : xOb 1 x0) (x1 : Int) (h1 : R32 x1) (x2 : Int) (h2 : R32 x2) : ∀ (n : Nat) (x3 : Int) (_ : R32 x3) (M : xM) (_ : xcan M), Gv l G uX1_isLinkOf 2 1 0 0 2 [some (.ref x0), some (iv x1), some (iv x2), some (iv x3)] [] M (fX1_isLinkOf_2 x0 x1 x2 n x3 M) := by
  intro n; induction n with
  | zero => intro x3 h3 M hM; exact xg_none
  | succ n ih =>
    intro x3 h3 M hM
    rw [fX1_isLinkOf_2]
    refine xg_iload_n dX1_isLinkOf_2 (Eq.refl 3) rfl ?_
    refine xg_aload_n dX1_isLinkOf_3 (Eq.refl 4) rfl ?_
    refine xg_getI (k := 13) xcl1 h0 rfl xq_547 rfl dX1_isLinkOf_4 (Eq.refl 7) ?_
    refine xg_icmp_ge (tgt := 42) dX1_isLinkOf_7 (Eq.refl 10) (by decide) h3 (hM.I h0 rfl) ?_ ?_
    · refine xg_iconst dX1_isLinkOf_42 (Eq.refl 43) ?_
      exact xg_zret rfl dX1_isLinkOf_43 rfl hM (by decide)
    · refine xg_aload_n dX1_isLinkOf_10 (Eq.refl 11) rfl ?_
      refine xg_iload_n dX1_isLinkOf_11 (Eq.refl 12) rfl ?_
      refine xg_callV_R (cr := 6) (kc := 0) (ks := 0) (st := []) (mX1_linkAt hl x0 h0 x3 h3 M hM) bX1_linkAt xcl1 h0 rfl xq_549 rfl (by decide) rfl (by decide) dX1_isLinkOf_12 (Eq.refl 15) rfl (by decide) (by decide) ?_
      intro z1 M2 hz1 hM2
      refine xg_iload_n dX1_isLinkOf_15 (Eq.refl 16) rfl ?_
      refine xg_callV_Z (kc := 0) (ks := 0) (st := []) (mX6_names hl z1.toNat hz1 x1 h1 M2 hM2) bX6_names xcl6 hz1 rfl xq_550 rfl (by decide) rfl (by decide) dX1_isLinkOf_16 (Eq.refl 19) rfl (by decide) (by decide) ?_
      intro z3 M4 hz3 hM4
      refine xg_if_eq (tgt := 36) dX1_isLinkOf_19 (Eq.refl 22) (by decide) (B01.r hz3) ?_ ?_
      · exact xg_jump (gX1_isLinkOf_36 hl (fX1_isLinkOf_2 x0 x1 x2 n) x0 h0 x1 h1 x2 h2 x3 h3 ih M4 hM4) (xsb_s (xsb_s (xsb_s (xsb_s xsb_0)))) (by decide) (by decide)
      · refine xg_aload_n dX1_isLinkOf_22 (Eq.refl 23) rfl ?_
        refine xg_iload_n dX1_isLinkOf_23 (Eq.refl 24) rfl ?_
        refine xg_callV_R (cr := 6) (kc := 0) (ks := 0) (st := []) (mX1_linkAt hl x0 h0 x3 h3 M4 hM4) bX1_linkAt xcl1 h0 rfl xq_549 rfl (by decide) rfl (by decide) dX1_isLinkOf_24 (Eq.refl 27) rfl (by decide) (by decide) ?_
        intro z5 M6 hz5 hM6
        refine xg_iload_n dX1_isLinkOf_27 (Eq.refl 28) rfl ?_
        refine xg_callV_Z (kc := 0) (ks := 0) (st := []) (mX6_names hl z5.toNat hz5 x2 h2 M6 hM6) bX6_names xcl6 hz5 rfl xq_550 rfl (by decide) rfl (by decide) dX1_isLinkOf_28 (Eq.refl 31) rfl (by decide) (by decide) ?_
        intro z7 M8 hz7 hM8
        refine xg_if_eq (tgt := 36) dX1_isLinkOf_31 (Eq.refl 34) (by decide) (B01.r hz7) ?_ ?_
        · exact xg_jump (gX1_isLinkOf_36 hl (fX1_isLinkOf_2 x0 x1 x2 n) x0 h0 x1 h1 x2 h2 x3 h3 ih M8 hM8) (xsb_s (xsb_s (xsb_s (xsb_s xsb_0)))) (by decide) (by decide)
        · refine xg_iconst dX1_isLinkOf_34 (Eq.refl 35) ?_
          exact xg_zret rfl dX1_isLinkOf_35 rfl hM8 (by decide)
theorem mX1_isLinkOf {l : Launch} {G : xG} (hl : l.stackTraces = false) (x0 : Nat) (h0 : xOb 1 x0) (x1 : Int) (h1 : R32 x1) (x2 : Int) (h2 : R32 x2) (M : xM) (hM : xcan M) : Cm l G yX1_isLinkOf cX1_isLinkOf 4 (some .boolean) 2 1 0 0 [.ref x0, iv x1, iv x2] M (fX1_isLinkOf x0 x1 x2 M) := by
  refine xcm_of (u := uX1_isLinkOf) (ls := [some (.ref x0), some (iv x1), some (iv x2), none]) 1 hl rfl (by decide +kernel) (Nat.le_of_ble_eq_true rfl) rfl ?_
  unfold fX1_isLinkOf
  refine xg_iconst dX1_isLinkOf_0 (Eq.refl 1) ?_
  refine xg_istore_n (ls2 := [some (.ref x0), some (iv x1), some (iv x2), some (iv 0)]) dX1_isLinkOf_1 (Eq.refl 2) (by decide) rfl ?_
  exact xg_jump (gX1_isLinkOf_2 hl x0 h0 x1 h1 x2 h2 xN 0 (by decide) M hM) (xsb_s (xsb_s (xsb_s (xsb_s xsb_0)))) (by decide) (by decide)
abbrev uX1_payFor : xU := (RX1, cX1_payFor, 4, none, [], "payFor")
theorem bX1_payFor : xYV yX1_payFor cX1_payFor 4 none 2 := ⟨xq_416, xq_417, xq_17, xq_418, ⟨by decide +kernel, by decide +kernel, by decide +kernel⟩, by decide⟩
theorem mX1_payFor {l : Launch} {G : xG} (hl : l.stackTraces = false) (x0 : Nat) (h0 : xOb 1 x0) (x1 : Nat) (h1 : xOb 10 x1) (x2 : Int) (h2 : R64 x2) (M : xM) (hM : xcan M) : Cm l G yX1_payFor cX1_payFor 4 none 2 3 0 0 [.ref x0, .ref x1, jv x2] M (fX1_payFor x0 x1 x2 M) := by
  refine xcm_of (u := uX1_payFor) (ls := [some (.ref x0), some (.ref x1), some (jv x2), none]) 0 hl rfl (by decide +kernel) (Nat.le_of_ble_eq_true rfl) rfl ?_
  unfold fX1_payFor
  refine xg_aload_n dX1_payFor_0 (Eq.refl 1) rfl ?_
  refine xg_aload_n dX1_payFor_1 (Eq.refl 2) rfl ?_
  refine xg_getI (k := 4) xcl10 h1 rfl xq_413 rfl dX1_payFor_2 (Eq.refl 5) ?_
  refine xg_callV_R (cr := 0) (kc := 0) (ks := 0) (st := []) (mX1_account hl x0 h0 (M x1 4) (hM.I h1 rfl) M hM) bX1_account xcl1 h0 rfl xq_389 rfl (by decide) rfl (by decide) dX1_payFor_5 (Eq.refl 8) rfl (by decide) (by decide) ?_
  intro z1 M2 hz1 hM2
  refine xg_dup dX1_payFor_8 (Eq.refl 9) rfl ?_
  refine xg_getJ (k := 5) xcl0 hz1 rfl xq_419 rfl dX1_payFor_9 (Eq.refl 12) ?_
  refine xg_lload_n dX1_payFor_12 (Eq.refl 13) rfl ?_
  refine xg_lsub dX1_payFor_13 (Eq.refl 14) ?_
  refine xg_putJ (k := 5) xcl0 hz1 rfl xq_419 rfl (by decide +kernel) dX1_payFor_14 (Eq.refl 17) rfl hM2 (w64_r _) ?_
  intro M3 hM3
  refine xg_aload_n dX1_payFor_17 (Eq.refl 18) rfl ?_
  refine xg_aload_n dX1_payFor_18 (Eq.refl 19) rfl ?_
  refine xg_getI (k := 3) xcl10 h1 rfl xq_411 rfl dX1_payFor_19 (Eq.refl 22) ?_
  refine xg_callV_R (cr := 0) (kc := 0) (ks := 0) (st := []) (mX1_account hl x0 h0 (M3 x1 3) (hM3.I h1 rfl) M3 hM3) bX1_account xcl1 h0 rfl xq_389 rfl (by decide) rfl (by decide) dX1_payFor_22 (Eq.refl 25) rfl (by decide) (by decide) ?_
  intro z4 M5 hz4 hM5
  refine xg_dup dX1_payFor_25 (Eq.refl 26) rfl ?_
  refine xg_getJ (k := 5) xcl0 hz4 rfl xq_419 rfl dX1_payFor_26 (Eq.refl 29) ?_
  refine xg_lload_n dX1_payFor_29 (Eq.refl 30) rfl ?_
  refine xg_ladd dX1_payFor_30 (Eq.refl 31) ?_
  refine xg_putJ (k := 5) xcl0 hz4 rfl xq_419 rfl (by decide +kernel) dX1_payFor_31 (Eq.refl 34) rfl hM5 (w64_r _) ?_
  intro M6 hM6
  exact xg_vret rfl dX1_payFor_34 rfl hM6
abbrev uX1_shift : xU := (RX1, cX1_shift, 6, none, [], "shift")
theorem bX1_shift : xYV yX1_shift cX1_shift 6 none 3 := ⟨xq_408, xq_409, xq_17, xq_410, ⟨by decide +kernel, by decide +kernel, by decide +kernel⟩, by decide⟩
theorem mX1_shift {l : Launch} {G : xG} (hl : l.stackTraces = false) (x0 : Nat) (h0 : xOb 1 x0) (x1 : Nat) (h1 : xOb 10 x1) (x2 : Int) (h2 : R64 x2) (x4 : Int) (h4 : R64 x4) (M : xM) (hM : xcan M) : Cm l G yX1_shift cX1_shift 6 none 3 3 0 0 [.ref x0, .ref x1, jv x2, jv x4] M (fX1_shift x0 x1 x2 x4 M) := by
  refine xcm_of (u := uX1_shift) (ls := [some (.ref x0), some (.ref x1), some (jv x2), none, some (jv x4), none]) 0 hl rfl (by decide +kernel) (Nat.le_of_ble_eq_true rfl) rfl ?_
  unfold fX1_shift
  refine xg_aload_n dX1_shift_0 (Eq.refl 1) rfl ?_
  refine xg_aload_n dX1_shift_1 (Eq.refl 2) rfl ?_
  refine xg_getI (k := 3) xcl10 h1 rfl xq_411 rfl dX1_shift_2 (Eq.refl 5) ?_
  refine xg_callV_R (cr := 0) (kc := 0) (ks := 0) (st := []) (mX1_account hl x0 h0 (M x1 3) (hM.I h1 rfl) M hM) bX1_account xcl1 h0 rfl xq_389 rfl (by decide) rfl (by decide) dX1_shift_5 (Eq.refl 8) rfl (by decide) (by decide) ?_
  intro z1 M2 hz1 hM2
  refine xg_aload_n dX1_shift_8 (Eq.refl 9) rfl ?_
  refine xg_getI (k := 5) xcl10 h1 rfl xq_412 rfl dX1_shift_9 (Eq.refl 12) ?_
  refine xg_lload_n dX1_shift_12 (Eq.refl 13) rfl ?_
  refine xg_lneg dX1_shift_13 (Eq.refl 14) ?_
  refine xg_callV_N (kc := 0) (ks := 0) (st := []) (mX0_shift hl z1.toNat hz1 (M2 x1 5) (hM2.I h1 rfl) (w64 (-x2)) (w64_r _) M2 hM2) bX0_shift xcl0 hz1 rfl xq_414 rfl (by decide) rfl (by decide) dX1_shift_14 (Eq.refl 17) rfl (by decide) (by decide) ?_
  intro z3 M4 hz3 hM4
  refine xg_aload_n dX1_shift_17 (Eq.refl 18) rfl ?_
  refine xg_aload_n dX1_shift_18 (Eq.refl 19) rfl ?_
  refine xg_getI (k := 4) xcl10 h1 rfl xq_413 rfl dX1_shift_19 (Eq.refl 22) ?_
  refine xg_callV_R (cr := 0) (kc := 0) (ks := 0) (st := []) (mX1_account hl x0 h0 (M4 x1 4) (hM4.I h1 rfl) M4 hM4) bX1_account xcl1 h0 rfl xq_389 rfl (by decide) rfl (by decide) dX1_shift_22 (Eq.refl 25) rfl (by decide) (by decide) ?_
  intro z5 M6 hz5 hM6
  refine xg_aload_n dX1_shift_25 (Eq.refl 26) rfl ?_
  refine xg_getI (k := 5) xcl10 h1 rfl xq_412 rfl dX1_shift_26 (Eq.refl 29) ?_
  refine xg_lload_n dX1_shift_29 (Eq.refl 30) rfl ?_
  refine xg_callV_N (kc := 0) (ks := 0) (st := []) (mX0_shift hl z5.toNat hz5 (M6 x1 5) (hM6.I h1 rfl) x2 h2 M6 hM6) bX0_shift xcl0 hz5 rfl xq_414 rfl (by decide) rfl (by decide) dX1_shift_30 (Eq.refl 33) rfl (by decide) (by decide) ?_
  intro z7 M8 hz7 hM8
  refine xg_aload_n dX1_shift_33 (Eq.refl 34) rfl ?_
  refine xg_aload_n dX1_shift_34 (Eq.refl 35) rfl ?_
  refine xg_lload dX1_shift_35 (Eq.refl 37) rfl ?_
  refine xg_callV_N (kc := 0) (ks := 0) (st := []) (mX1_payFor hl x0 h0 x1 h1 x4 h4 M8 hM8) bX1_payFor xcl1 h0 rfl xq_415 rfl (by decide) rfl (by decide) dX1_shift_37 (Eq.refl 40) rfl (by decide) (by decide) ?_
  intro z9 M10 hz9 hM10
  exact xg_vret rfl dX1_shift_40 rfl hM10
abbrev uX1_moveUnits : xU := (RX1, cX1_moveUnits, 6, none, [], "moveUnits")
theorem bX1_moveUnits : xYV yX1_moveUnits cX1_moveUnits 6 none 4 := ⟨xq_653, xq_654, xq_17, xq_655, ⟨by decide +kernel, by decide +kernel, by decide +kernel⟩, by decide⟩
theorem mX1_moveUnits {l : Launch} {G : xG} (hl : l.stackTraces = false) (x0 : Nat) (h0 : xOb 1 x0) (x1 : Int) (h1 : R32 x1) (x2 : Int) (h2 : R32 x2) (x3 : Int) (h3 : R32 x3) (x4 : Int) (h4 : R64 x4) (M : xM) (hM : xcan M) : Cm l G yX1_moveUnits cX1_moveUnits 6 none 3 3 0 0 [.ref x0, iv x1, iv x2, iv x3, jv x4] M (fX1_moveUnits x0 x1 x2 x3 x4 M) := by
  refine xcm_of (u := uX1_moveUnits) (ls := [some (.ref x0), some (iv x1), some (iv x2), some (iv x3), some (jv x4), none]) 0 hl rfl (by decide +kernel) (Nat.le_of_ble_eq_true rfl) rfl ?_
  unfold fX1_moveUnits
  refine xg_aload_n dX1_moveUnits_0 (Eq.refl 1) rfl ?_
  refine xg_iload_n dX1_moveUnits_1 (Eq.refl 2) rfl ?_
  refine xg_callV_R (cr := 0) (kc := 0) (ks := 0) (st := []) (mX1_account hl x0 h0 x1 h1 M hM) bX1_account xcl1 h0 rfl xq_389 rfl (by decide) rfl (by decide) dX1_moveUnits_2 (Eq.refl 5) rfl (by decide) (by decide) ?_
  intro z1 M2 hz1 hM2
  refine xg_iload_n dX1_moveUnits_5 (Eq.refl 6) rfl ?_
  refine xg_lload dX1_moveUnits_6 (Eq.refl 8) rfl ?_
  refine xg_lneg dX1_moveUnits_8 (Eq.refl 9) ?_
  refine xg_aload_n dX1_moveUnits_9 (Eq.refl 10) rfl ?_
  refine xg_getI (k := 17) xcl1 h0 rfl xq_656 rfl dX1_moveUnits_10 (Eq.refl 13) ?_
  refine xg_callV_N (kc := 0) (ks := 0) (st := []) (mX0_move hl z1.toNat hz1 x3 h3 (w64 (-x4)) (w64_r _) (M2 x0 17) (hM2.I h0 rfl) M2 hM2) bX0_move xcl0 hz1 rfl xq_657 rfl (by decide) rfl (by decide) dX1_moveUnits_13 (Eq.refl 16) rfl (by decide) (by decide) ?_
  intro z3 M4 hz3 hM4
  refine xg_aload_n dX1_moveUnits_16 (Eq.refl 17) rfl ?_
  refine xg_iload_n dX1_moveUnits_17 (Eq.refl 18) rfl ?_
  refine xg_callV_R (cr := 0) (kc := 0) (ks := 0) (st := []) (mX1_account hl x0 h0 x2 h2 M4 hM4) bX1_account xcl1 h0 rfl xq_389 rfl (by decide) rfl (by decide) dX1_moveUnits_18 (Eq.refl 21) rfl (by decide) (by decide) ?_
  intro z5 M6 hz5 hM6
  refine xg_iload_n dX1_moveUnits_21 (Eq.refl 22) rfl ?_
  refine xg_lload dX1_moveUnits_22 (Eq.refl 24) rfl ?_
  refine xg_aload_n dX1_moveUnits_24 (Eq.refl 25) rfl ?_
  refine xg_getI (k := 17) xcl1 h0 rfl xq_656 rfl dX1_moveUnits_25 (Eq.refl 28) ?_
  refine xg_callV_N (kc := 0) (ks := 0) (st := []) (mX0_move hl z5.toNat hz5 x3 h3 x4 h4 (M6 x0 17) (hM6.I h0 rfl) M6 hM6) bX0_move xcl0 hz5 rfl xq_657 rfl (by decide) rfl (by decide) dX1_moveUnits_28 (Eq.refl 31) rfl (by decide) (by decide) ?_
  intro z7 M8 hz7 hM8
  exact xg_vret rfl dX1_moveUnits_31 rfl hM8
abbrev uX1_settleWhole : xU := (RX1, cX1_settleWhole, 2, none, [], "settleWhole")
theorem bX1_settleWhole : xYV yX1_settleWhole cX1_settleWhole 2 none 1 := ⟨xq_663, xq_664, xq_17, xq_665, ⟨by decide +kernel, by decide +kernel, by decide +kernel⟩, by decide⟩
theorem mX1_settleWhole {l : Launch} {G : xG} (hl : l.stackTraces = false) (x0 : Nat) (h0 : xOb 1 x0) (x1 : Nat) (h1 : xOb 10 x1) (M : xM) (hM : xcan M) : Cm l G yX1_settleWhole cX1_settleWhole 2 none 4 3 0 0 [.ref x0, .ref x1] M (fX1_settleWhole x0 x1 M) := by
  refine xcm_of (u := uX1_settleWhole) (ls := [some (.ref x0), some (.ref x1)]) 0 hl rfl (by decide +kernel) (Nat.le_of_ble_eq_true rfl) rfl ?_
  unfold fX1_settleWhole
  refine xg_aload_n dX1_settleWhole_0 (Eq.refl 1) rfl ?_
  refine xg_aload_n dX1_settleWhole_1 (Eq.refl 2) rfl ?_
  refine xg_getI (k := 3) xcl10 h1 rfl xq_411 rfl dX1_settleWhole_2 (Eq.refl 5) ?_
  refine xg_aload_n dX1_settleWhole_5 (Eq.refl 6) rfl ?_
  refine xg_getI (k := 4) xcl10 h1 rfl xq_413 rfl dX1_settleWhole_6 (Eq.refl 9) ?_
  refine xg_aload_n dX1_settleWhole_9 (Eq.refl 10) rfl ?_
  refine xg_getI (k := 5) xcl10 h1 rfl xq_412 rfl dX1_settleWhole_10 (Eq.refl 13) ?_
  refine xg_aload_n dX1_settleWhole_13 (Eq.refl 14) rfl ?_
  refine xg_getJ (k := 6) xcl10 h1 rfl xq_477 rfl dX1_settleWhole_14 (Eq.refl 17) ?_
  refine xg_callV_N (kc := 0) (ks := 0) (st := []) (mX1_moveUnits hl x0 h0 (M x1 3) (hM.I h1 rfl) (M x1 4) (hM.I h1 rfl) (M x1 5) (hM.I h1 rfl) (M x1 6) (hM.J h1 rfl) M hM) bX1_moveUnits xcl1 h0 rfl xq_666 rfl (by decide) rfl (by decide) dX1_settleWhole_17 (Eq.refl 20) rfl (by decide) (by decide) ?_
  intro z1 M2 hz1 hM2
  refine xg_aload_n dX1_settleWhole_20 (Eq.refl 21) rfl ?_
  refine xg_aload_n dX1_settleWhole_21 (Eq.refl 22) rfl ?_
  refine xg_aload_n dX1_settleWhole_22 (Eq.refl 23) rfl ?_
  refine xg_getJ (k := 7) xcl10 h1 rfl xq_479 rfl dX1_settleWhole_23 (Eq.refl 26) ?_
  refine xg_callV_N (kc := 0) (ks := 0) (st := []) (mX1_payFor hl x0 h0 x1 h1 (M2 x1 7) (hM2.J h1 rfl) M2 hM2) bX1_payFor xcl1 h0 rfl xq_415 rfl (by decide) rfl (by decide) dX1_settleWhole_26 (Eq.refl 29) rfl (by decide) (by decide) ?_
  intro z3 M4 hz3 hM4
  refine xg_aload_n dX1_settleWhole_29 (Eq.refl 30) rfl ?_
  refine xg_aload_n dX1_settleWhole_30 (Eq.refl 31) rfl ?_
  refine xg_iconst dX1_settleWhole_31 (Eq.refl 32) ?_
  refine xg_callV_N (kc := 0) (ks := 0) (st := []) (mX1_putStatus hl x0 h0 x1 h1 2 (by decide) M4 hM4) bX1_putStatus xcl1 h0 rfl xq_490 rfl (by decide) rfl (by decide) dX1_settleWhole_32 (Eq.refl 35) rfl (by decide) (by decide) ?_
  intro z5 M6 hz5 hM6
  refine xg_aload_n dX1_settleWhole_35 (Eq.refl 36) rfl ?_
  refine xg_aload_n dX1_settleWhole_36 (Eq.refl 37) rfl ?_
  refine xg_callV_N (kc := 0) (ks := 0) (st := []) (mX1_tellBoth hl x0 h0 x1 h1 M6 hM6) bX1_tellBoth xcl1 h0 rfl xq_495 rfl (by decide) rfl (by decide) dX1_settleWhole_37 (Eq.refl 40) rfl (by decide) (by decide) ?_
  intro z7 M8 hz7 hM8
  exact xg_vret rfl dX1_settleWhole_40 rfl hM8
abbrev uX1_settlePart : xU := (RX1, cX1_settlePart, 6, none, [], "settlePart")
theorem bX1_settlePart : xYV yX1_settlePart cX1_settlePart 6 none 3 := ⟨xq_719, xq_720, xq_17, xq_721, ⟨by decide +kernel, by decide +kernel, by decide +kernel⟩, by decide⟩
theorem mX1_settlePart {l : Launch} {G : xG} (hl : l.stackTraces = false) (x0 : Nat) (h0 : xOb 1 x0) (x1 : Nat) (h1 : xOb 10 x1) (x2 : Int) (h2 : R64 x2) (x4 : Int) (h4 : R64 x4) (M : xM) (hM : xcan M) : Cm l G yX1_settlePart cX1_settlePart 6 none 4 3 0 0 [.ref x0, .ref x1, jv x2, jv x4] M (fX1_settlePart x0 x1 x2 x4 M) := by
  refine xcm_of (u := uX1_settlePart) (ls := [some (.ref x0), some (.ref x1), some (jv x2), none, some (jv x4), none]) 0 hl rfl (by decide +kernel) (Nat.le_of_ble_eq_true rfl) rfl ?_
  unfold fX1_settlePart
  refine xg_aload_n dX1_settlePart_0 (Eq.refl 1) rfl ?_
  refine xg_aload_n dX1_settlePart_1 (Eq.refl 2) rfl ?_
  refine xg_getI (k := 3) xcl10 h1 rfl xq_411 rfl dX1_settlePart_2 (Eq.refl 5) ?_
  refine xg_aload_n dX1_settlePart_5 (Eq.refl 6) rfl ?_
  refine xg_getI (k := 4) xcl10 h1 rfl xq_413 rfl dX1_settlePart_6 (Eq.refl 9) ?_
  refine xg_aload_n dX1_settlePart_9 (Eq.refl 10) rfl ?_
  refine xg_getI (k := 5) xcl10 h1 rfl xq_412 rfl dX1_settlePart_10 (Eq.refl 13) ?_
  refine xg_lload_n dX1_settlePart_13 (Eq.refl 14) rfl ?_
  refine xg_callV_N (kc := 0) (ks := 0) (st := []) (mX1_moveUnits hl x0 h0 (M x1 3) (hM.I h1 rfl) (M x1 4) (hM.I h1 rfl) (M x1 5) (hM.I h1 rfl) x2 h2 M hM) bX1_moveUnits xcl1 h0 rfl xq_666 rfl (by decide) rfl (by decide) dX1_settlePart_14 (Eq.refl 17) rfl (by decide) (by decide) ?_
  intro z1 M2 hz1 hM2
  refine xg_aload_n dX1_settlePart_17 (Eq.refl 18) rfl ?_
  refine xg_aload_n dX1_settlePart_18 (Eq.refl 19) rfl ?_
  refine xg_lload dX1_settlePart_19 (Eq.refl 21) rfl ?_
  refine xg_callV_N (kc := 0) (ks := 0) (st := []) (mX1_payFor hl x0 h0 x1 h1 x4 h4 M2 hM2) bX1_payFor xcl1 h0 rfl xq_415 rfl (by decide) rfl (by decide) dX1_settlePart_21 (Eq.refl 24) rfl (by decide) (by decide) ?_
  intro z3 M4 hz3 hM4
  refine xg_aload_n dX1_settlePart_24 (Eq.refl 25) rfl ?_
  refine xg_dup dX1_settlePart_25 (Eq.refl 26) rfl ?_
  refine xg_getJ (k := 6) xcl10 h1 rfl xq_477 rfl dX1_settlePart_26 (Eq.refl 29) ?_
  refine xg_lload_n dX1_settlePart_29 (Eq.refl 30) rfl ?_
  refine xg_lsub dX1_settlePart_30 (Eq.refl 31) ?_
  refine xg_putJ (k := 6) xcl10 h1 rfl xq_477 rfl (by decide +kernel) dX1_settlePart_31 (Eq.refl 34) rfl hM4 (w64_r _) ?_
  intro M5 hM5
  refine xg_aload_n dX1_settlePart_34 (Eq.refl 35) rfl ?_
  refine xg_dup dX1_settlePart_35 (Eq.refl 36) rfl ?_
  refine xg_getJ (k := 7) xcl10 h1 rfl xq_479 rfl dX1_settlePart_36 (Eq.refl 39) ?_
  refine xg_lload dX1_settlePart_39 (Eq.refl 41) rfl ?_
  refine xg_lsub dX1_settlePart_41 (Eq.refl 42) ?_
  refine xg_putJ (k := 7) xcl10 h1 rfl xq_479 rfl (by decide +kernel) dX1_settlePart_42 (Eq.refl 45) rfl hM5 (w64_r _) ?_
  intro M6 hM6
  refine xg_aload_n dX1_settlePart_45 (Eq.refl 46) rfl ?_
  refine xg_aload_n dX1_settlePart_46 (Eq.refl 47) rfl ?_
  refine xg_callV_N (kc := 0) (ks := 0) (st := []) (mX1_tellBoth hl x0 h0 x1 h1 M6 hM6) bX1_tellBoth xcl1 h0 rfl xq_495 rfl (by decide) rfl (by decide) dX1_settlePart_47 (Eq.refl 50) rfl (by decide) (by decide) ?_
  intro z7 M8 hz7 hM8
  exact xg_vret rfl dX1_settlePart_50 rfl hM8
abbrev uX1_sourceOf : xU := (RX1, cX1_sourceOf, 6, (some .int), [], "sourceOf")
theorem bX1_sourceOf : xYV yX1_sourceOf cX1_sourceOf 6 (some .int) 2 := ⟨xq_866, xq_867, xq_17, xq_868, ⟨by decide +kernel, by decide +kernel, by decide +kernel⟩, by decide⟩
theorem gX1_sourceOf_72 {l : Launch} {G : xG} (hl : l.stackTraces = false) (rc2 : Int → xM → xO) (x0 : Nat) (h0 : xOb 1 x0) (x1 : Nat) (h1 : xOb 10 x1) (x2 : Int) (h2 : R32 x2) (x3 : Int) (h3 : R32 x3) (hr2 : ∀ w3 : Int, R32 w3 → ∀ M : xM, xcan M → Gv l G uX1_sourceOf 2 0 0 0 2 [some (.ref x0), some (.ref x1), some (iv x2), some (iv w3), none, none] [] M (rc2 w3 M)) (M : xM) (hM : xcan M) : Gv l G uX1_sourceOf 2 0 0 0 72 [some (.ref x0), some (.ref x1), some (iv x2), some (iv x3), none, none] [] M (fX1_sourceOf_72 rc2 x0 x1 x2 x3 M) := by
  unfold fX1_sourceOf_72
  refine xg_iinc (ls2 := [some (.ref x0), some (.ref x1), some (iv x2), some (iv (w32 (x3 + 1))), none, none]) dX1_sourceOf_72 (Eq.refl 75) rfl (by decide) rfl ?_
  refine xg_goto (tgt := 2) dX1_sourceOf_75 (by decide) ?_
  exact xg_jump (hr2 (w32 (x3 + 1)) (w32_r _) M hM) (xsb_s (xsb_s (xsb_s (xsb_s (xsb_n (xsb_n xsb_0)))))) (by decide) (by decide)
theorem gX1_sourceOf_30 {l : Launch} {G : xG} (hl : l.stackTraces = false) (rc2 : Int → xM → xO) (x0 : Nat) (h0 : xOb 1 x0) (x1 : Nat) (h1 : xOb 10 x1) (x2 : Int) (h2 : R32 x2) (x3 : Int) (h3 : R32 x3) (x4 : Nat) (h4 : xOb 10 x4) (s0 : Int) (hs0 : B01 s0) (hr2 : ∀ w3 : Int, R32 w3 → ∀ M : xM, xcan M → Gv l G uX1_sourceOf 2 0 0 0 2 [some (.ref x0), some (.ref x1), some (iv x2), some (iv w3), none, none] [] M (rc2 w3 M)) (M : xM) (hM : xcan M) : Gv l G uX1_sourceOf 2 0 0 0 30 [some (.ref x0), some (.ref x1), some (iv x2), some (iv x3), some (.ref x4), none] [iv s0] M (fX1_sourceOf_30 rc2 x0 x1 x2 x3 x4 s0 M) := by
  unfold fX1_sourceOf_30
  refine xg_istore (ls2 := [some (.ref x0), some (.ref x1), some (iv x2), some (iv x3), some (.ref x4), some (iv s0)]) dX1_sourceOf_30 (Eq.refl 32) (by decide) rfl ?_
  refine xg_iload dX1_sourceOf_32 (Eq.refl 34) rfl ?_
  refine xg_if_eq (tgt := 72) dX1_sourceOf_34 (Eq.refl 37) (by decide) (B01.r hs0) ?_ ?_
  · exact xg_jump (gX1_sourceOf_72 hl rc2 x0 h0 x1 h1 x2 h2 x3 h3 hr2 M hM) (xsb_s (xsb_s (xsb_s (xsb_s (xsb_n (xsb_n xsb_0)))))) (by decide) (by decide)
  · refine xg_aload_n dX1_sourceOf_37 (Eq.refl 38) rfl ?_
    refine xg_aload dX1_sourceOf_38 (Eq.refl 40) rfl ?_
    refine xg_callV_Z (kc := 0) (ks := 0) (st := []) (mX1_isDue hl x0 h0 x4 h4 M hM) bX1_isDue xcl1 h0 rfl xq_869 rfl (by decide) rfl (by decide) dX1_sourceOf_40 (Eq.refl 43) rfl (by decide) (by decide) ?_
    intro z1 M2 hz1 hM2
    refine xg_if_eq (tgt := 72) dX1_sourceOf_43 (Eq.refl 46) (by decide) (B01.r hz1) ?_ ?_
    · exact xg_jump (gX1_sourceOf_72 hl rc2 x0 h0 x1 h1 x2 h2 x3 h3 hr2 M2 hM2) (xsb_s (xsb_s (xsb_s (xsb_s (xsb_n (xsb_n xsb_0)))))) (by decide) (by decide)
    · refine xg_aload dX1_sourceOf_46 (Eq.refl 48) rfl ?_
      refine xg_getI (k := 4) xcl10 h4 rfl xq_413 rfl dX1_sourceOf_48 (Eq.refl 51) ?_
      refine xg_aload_n dX1_sourceOf_51 (Eq.refl 52) rfl ?_
      refine xg_getI (k := 3) xcl10 h1 rfl xq_411 rfl dX1_sourceOf_52 (Eq.refl 55) ?_
      refine xg_icmp_ne (tgt := 72) dX1_sourceOf_55 (Eq.refl 58) (by decide) (hM2.I h4 rfl) (hM2.I h1 rfl) ?_ ?_
      · refine xg_aload dX1_sourceOf_58 (Eq.refl 60) rfl ?_
        refine xg_getI (k := 5) xcl10 h4 rfl xq_412 rfl dX1_sourceOf_60 (Eq.refl 63) ?_
        refine xg_aload_n dX1_sourceOf_63 (Eq.refl 64) rfl ?_
        refine xg_getI (k := 5) xcl10 h1 rfl xq_412 rfl dX1_sourceOf_64 (Eq.refl 67) ?_
        refine xg_icmp_ne (tgt := 72) dX1_sourceOf_67 (Eq.refl 70) (by decide) (hM2.I h4 rfl) (hM2.I h1 rfl) ?_ ?_
        · refine xg_iload_n dX1_sourceOf_70 (Eq.refl 71) rfl ?_
          exact xg_iret rfl dX1_sourceOf_71 rfl hM2 h3
        · exact xg_jump (gX1_sourceOf_72 hl rc2 x0 h0 x1 h1 x2 h2 x3 h3 hr2 M2 hM2) (xsb_s (xsb_s (xsb_s (xsb_s (xsb_n (xsb_n xsb_0)))))) (by decide) (by decide)
      · exact xg_jump (gX1_sourceOf_72 hl rc2 x0 h0 x1 h1 x2 h2 x3 h3 hr2 M2 hM2) (xsb_s (xsb_s (xsb_s (xsb_s (xsb_n (xsb_n xsb_0)))))) (by decide) (by decide)
theorem gX1_sourceOf_2 {l : Launch} {G : xG} (hl : l.stackTraces = false) (x0 : Nat) (h0 : xOb 1 x0) (x1 : Nat) (h1 : xOb 10 x1) (x2 : Int) (h2 : R32 x2) : ∀ (n : Nat) (x3 : Int) (_ : R32 x3) (M : xM) (_ : xcan M), Gv l G uX1_sourceOf 2 0 0 0 2 [some (.ref x0), some (.ref x1), some (iv x2), some (iv x3), none, none] [] M (fX1_sourceOf_2 x0 x1 x2 n x3 M) := by
  intro n; induction n with
  | zero => intro x3 h3 M hM; exact xg_none
  | succ n ih =>
    intro x3 h3 M hM
    rw [fX1_sourceOf_2]
    refine xg_iload_n dX1_sourceOf_2 (Eq.refl 3) rfl ?_
    refine xg_aload_n dX1_sourceOf_3 (Eq.refl 4) rfl ?_
    refine xg_getI (k := 12) xcl1 h0 rfl xq_472 rfl dX1_sourceOf_4 (Eq.refl 7) ?_
    refine xg_icmp_ge (tgt := 78) dX1_sourceOf_7 (Eq.refl 10) (by decide) h3 (hM.I h0 rfl) ?_ ?_
    · refine xg_iconst dX1_sourceOf_78 (Eq.refl 79) ?_
      exact xg_iret rfl dX1_sourceOf_79 rfl hM (by decide)
    · refine xg_aload_n dX1_sourceOf_10 (Eq.refl 11) rfl ?_
      refine xg_iload_n dX1_sourceOf_11 (Eq.refl 12) rfl ?_
      refine xg_callV_R (cr := 10) (kc := 0) (ks := 0) (st := []) (mX1_trade hl x0 h0 x3 h3 M hM) bX1_trade xcl1 h0 rfl xq_489 rfl (by decide) rfl (by decide) dX1_sourceOf_12 (Eq.refl 15) rfl (by decide) (by decide) ?_
      intro z1 M2 hz1 hM2
      refine xg_astore (ls2 := [some (.ref x0), some (.ref x1), some (iv x2), some (iv x3), some (.ref z1.toNat), none]) dX1_sourceOf_15 (Eq.refl 17) (by decide) rfl ?_
      refine xg_iload_n dX1_sourceOf_17 (Eq.refl 18) rfl ?_
      refine xg_iload_n dX1_sourceOf_18 (Eq.refl 19) rfl ?_
      refine xg_ishr dX1_sourceOf_19 (Eq.refl 20) ?_
      refine xg_iconst dX1_sourceOf_20 (Eq.refl 21) ?_
      refine xg_iand dX1_sourceOf_21 (Eq.refl 22) ?_
      refine xg_if_ne (tgt := 29) dX1_sourceOf_22 (Eq.refl 25) (by decide) (xand_r _ _) ?_ ?_
      · refine xg_iconst dX1_sourceOf_25 (Eq.refl 26) ?_
        refine xg_goto (tgt := 30) dX1_sourceOf_26 (by decide) ?_
        exact xg_jump (gX1_sourceOf_30 hl (fX1_sourceOf_2 x0 x1 x2 n) x0 h0 x1 h1 x2 h2 x3 h3 z1.toNat hz1 1 (by decide) ih M2 hM2) (xsb_s (xsb_s (xsb_s (xsb_s (xsb_s (xsb_n xsb_0)))))) (by decide) (by decide)
      · refine xg_iconst dX1_sourceOf_29 (Eq.refl 30) ?_
        exact xg_jump (gX1_sourceOf_30 hl (fX1_sourceOf_2 x0 x1 x2 n) x0 h0 x1 h1 x2 h2 x3 h3 z1.toNat hz1 0 (by decide) ih M2 hM2) (xsb_s (xsb_s (xsb_s (xsb_s (xsb_s (xsb_n xsb_0)))))) (by decide) (by decide)
theorem mX1_sourceOf {l : Launch} {G : xG} (hl : l.stackTraces = false) (x0 : Nat) (h0 : xOb 1 x0) (x1 : Nat) (h1 : xOb 10 x1) (x2 : Int) (h2 : R32 x2) (M : xM) (hM : xcan M) : Cm l G yX1_sourceOf cX1_sourceOf 6 (some .int) 2 0 0 0 [.ref x0, .ref x1, iv x2] M (fX1_sourceOf x0 x1 x2 M) := by
  refine xcm_of (u := uX1_sourceOf) (ls := [some (.ref x0), some (.ref x1), some (iv x2), none, none, none]) 3 hl rfl (by decide +kernel) (Nat.le_of_ble_eq_true rfl) rfl ?_
  unfold fX1_sourceOf
  refine xg_iconst dX1_sourceOf_0 (Eq.refl 1) ?_
  refine xg_istore_n (ls2 := [some (.ref x0), some (.ref x1), some (iv x2), some (iv 0), none, none]) dX1_sourceOf_1 (Eq.refl 2) (by decide) rfl ?_
  exact xg_jump (gX1_sourceOf_2 hl x0 h0 x1 h1 x2 h2 xN 0 (by decide) M hM) (xsb_s (xsb_s (xsb_s (xsb_s (xsb_n (xsb_n xsb_0)))))) (by decide) (by decide)
abbrev uX1_causerOf : xU := (RX1, cX1_causerOf, 6, (some .int), [], "causerOf")
theorem bX1_causerOf : xYV yX1_causerOf cX1_causerOf 6 (some .int) 1 := ⟨xq_861, xq_862, xq_17, xq_863, ⟨by decide +kernel, by decide +kernel, by decide +kernel⟩, by decide⟩
theorem gX1_causerOf_7 {l : Launch} {G : xG} (hl : l.stackTraces = false) (x0 : Nat) (h0 : xOb 1 x0) : ∀ (n : Nat) (x2 : Nat) (_ : xOb 10 x2) (x3 : Int) (_ : R32 x3) (x4 : Int) (_ : R32 x4) (M : xM) (_ : xcan M), Gv l G uX1_causerOf 3 0 0 0 7 [some (.ref x0), none, some (.ref x2), some (iv x3), some (iv x4), none] [] M (fX1_causerOf_7 x0 n x2 x3 x4 M) := by
  intro n; induction n with
  | zero => intro x2 h2 x3 h3 x4 h4 M hM; exact xg_none
  | succ n ih =>
    intro x2 h2 x3 h3 x4 h4 M hM
    rw [fX1_causerOf_7]
    refine xg_iload dX1_causerOf_7 (Eq.refl 9) rfl ?_
    refine xg_bipush dX1_causerOf_9 (Eq.refl 11) (by decide +kernel) ?_
    refine xg_icmp_ge (tgt := 101) dX1_causerOf_11 (Eq.refl 14) (by decide) h4 (by decide) ?_ ?_
    · refine xg_aload_n dX1_causerOf_101 (Eq.refl 102) rfl ?_
      refine xg_getI (k := 3) xcl10 h2 rfl xq_411 rfl dX1_causerOf_102 (Eq.refl 105) ?_
      exact xg_iret rfl dX1_causerOf_105 rfl hM (hM.I h2 rfl)
    · refine xg_aload_n dX1_causerOf_14 (Eq.refl 15) rfl ?_
      refine xg_aload_n dX1_causerOf_15 (Eq.refl 16) rfl ?_
      refine xg_getI (k := 1) xcl10 h2 rfl xq_320 rfl dX1_causerOf_16 (Eq.refl 19) ?_
      refine xg_callV_R (cr := 5) (kc := 0) (ks := 0) (st := []) (mX1_instruction hl x0 h0 (M x2 1) (hM.I h2 rfl) M hM) bX1_instruction xcl1 h0 rfl xq_323 rfl (by decide) rfl (by decide) dX1_causerOf_19 (Eq.refl 22) rfl (by decide) (by decide) ?_
      intro z1 M2 hz1 hM2
      refine xg_getZ (k := 11) xcl5 hz1 rfl xq_321 rfl dX1_causerOf_22 (Eq.refl 25) hM2 ?_
      refine xg_if_eq (tgt := 33) dX1_causerOf_25 (Eq.refl 28) (by decide) (B01.r (hM2.Z hz1 rfl)) ?_ ?_
      · refine xg_aload_n dX1_causerOf_33 (Eq.refl 34) rfl ?_
        refine xg_aload_n dX1_causerOf_34 (Eq.refl 35) rfl ?_
        refine xg_getI (k := 2) xcl10 h2 rfl xq_322 rfl dX1_causerOf_35 (Eq.refl 38) ?_
        refine xg_callV_R (cr := 5) (kc := 0) (ks := 0) (st := []) (mX1_instruction hl x0 h0 (M2 x2 2) (hM2.I h2 rfl) M2 hM2) bX1_instruction xcl1 h0 rfl xq_323 rfl (by decide) rfl (by decide) dX1_causerOf_38 (Eq.refl 41) rfl (by decide) (by decide) ?_
        intro z3 M4 hz3 hM4
        refine xg_getZ (k := 11) xcl5 hz3 rfl xq_321 rfl dX1_causerOf_41 (Eq.refl 44) hM4 ?_
        refine xg_if_ne (tgt := 55) dX1_causerOf_44 (Eq.refl 47) (by decide) (B01.r (hM4.Z hz3 rfl)) ?_ ?_
        · refine xg_aload_n dX1_causerOf_47 (Eq.refl 48) rfl ?_
          refine xg_aload_n dX1_causerOf_48 (Eq.refl 49) rfl ?_
          refine xg_callV_Z (kc := 0) (ks := 0) (st := []) (mX1_isLacking hl x0 h0 x2 h2 M4 hM4) bX1_isLacking xcl1 h0 rfl xq_864 rfl (by decide) rfl (by decide) dX1_causerOf_49 (Eq.refl 52) rfl (by decide) (by decide) ?_
          intro z5 M6 hz5 hM6
          refine xg_if_ne (tgt := 60) dX1_causerOf_52 (Eq.refl 55) (by decide) (B01.r hz5) ?_ ?_
          · refine xg_aload_n dX1_causerOf_55 (Eq.refl 56) rfl ?_
            refine xg_getI (k := 4) xcl10 h2 rfl xq_413 rfl dX1_causerOf_56 (Eq.refl 59) ?_
            exact xg_iret rfl dX1_causerOf_59 rfl hM6 (hM6.I h2 rfl)
          · refine xg_iload_n dX1_causerOf_60 (Eq.refl 61) rfl ?_
            refine xg_iconst dX1_causerOf_61 (Eq.refl 62) ?_
            refine xg_aload_n dX1_causerOf_62 (Eq.refl 63) rfl ?_
            refine xg_getI (k := 0) xcl10 h2 rfl xq_548 rfl dX1_causerOf_63 (Eq.refl 66) ?_
            refine xg_ishl dX1_causerOf_66 (Eq.refl 67) ?_
            refine xg_ior dX1_causerOf_67 (Eq.refl 68) ?_
            refine xg_istore_n (ls2 := [some (.ref x0), none, some (.ref x2), some (iv (xor32 x3 (xshl 1 (M6 x2 0)))), some (iv x4), none]) dX1_causerOf_68 (Eq.refl 69) (by decide) rfl ?_
            refine xg_aload_n dX1_causerOf_69 (Eq.refl 70) rfl ?_
            refine xg_aload_n dX1_causerOf_70 (Eq.refl 71) rfl ?_
            refine xg_iload_n dX1_causerOf_71 (Eq.refl 72) rfl ?_
            refine xg_callV_I (kc := 0) (ks := 0) (st := []) (mX1_sourceOf hl x0 h0 x2 h2 (xor32 x3 (xshl 1 (M6 x2 0))) (xor32_r _ _) M6 hM6) bX1_sourceOf xcl1 h0 rfl xq_865 rfl (by decide) rfl (by decide) dX1_causerOf_72 (Eq.refl 75) rfl (by decide) (by decide) ?_
            intro z7 M8 hz7 hM8
            refine xg_istore (ls2 := [some (.ref x0), none, some (.ref x2), some (iv (xor32 x3 (xshl 1 (M6 x2 0)))), some (iv x4), some (iv z7)]) dX1_causerOf_75 (Eq.refl 77) (by decide) rfl ?_
            refine xg_iload dX1_causerOf_77 (Eq.refl 79) rfl ?_
            refine xg_iconst dX1_causerOf_79 (Eq.refl 80) ?_
            refine xg_icmp_ne (tgt := 88) dX1_causerOf_80 (Eq.refl 83) (by decide) hz7 (by decide) ?_ ?_
            · refine xg_aload_n dX1_causerOf_83 (Eq.refl 84) rfl ?_
              refine xg_getI (k := 3) xcl10 h2 rfl xq_411 rfl dX1_causerOf_84 (Eq.refl 87) ?_
              exact xg_iret rfl dX1_causerOf_87 rfl hM8 (hM8.I h2 rfl)
            · refine xg_aload_n dX1_causerOf_88 (Eq.refl 89) rfl ?_
              refine xg_iload dX1_causerOf_89 (Eq.refl 91) rfl ?_
              refine xg_callV_R (cr := 10) (kc := 0) (ks := 0) (st := []) (mX1_trade hl x0 h0 z7 hz7 M8 hM8) bX1_trade xcl1 h0 rfl xq_489 rfl (by decide) rfl (by decide) dX1_causerOf_91 (Eq.refl 94) rfl (by decide) (by decide) ?_
              intro z9 M10 hz9 hM10
              refine xg_astore_n (ls2 := [some (.ref x0), none, some (.ref z9.toNat), some (iv (xor32 x3 (xshl 1 (M6 x2 0)))), some (iv x4), some (iv z7)]) dX1_causerOf_94 (Eq.refl 95) (by decide) rfl ?_
              refine xg_iinc (ls2 := [some (.ref x0), none, some (.ref z9.toNat), some (iv (xor32 x3 (xshl 1 (M6 x2 0)))), some (iv (w32 (x4 + 1))), some (iv z7)]) dX1_causerOf_95 (Eq.refl 98) rfl (by decide) rfl ?_
              refine xg_goto (tgt := 7) dX1_causerOf_98 (by decide) ?_
              exact xg_jump (ih z9.toNat hz9 (xor32 x3 (xshl 1 (M6 x2 0))) (xor32_r _ _) (w32 (x4 + 1)) (w32_r _) M10 hM10) (xsb_s (xsb_n (xsb_s (xsb_s (xsb_s (xsb_n xsb_0)))))) (by decide) (by decide)
        · refine xg_aload_n dX1_causerOf_55 (Eq.refl 56) rfl ?_
          refine xg_getI (k := 4) xcl10 h2 rfl xq_413 rfl dX1_causerOf_56 (Eq.refl 59) ?_
          exact xg_iret rfl dX1_causerOf_59 rfl hM4 (hM4.I h2 rfl)
      · refine xg_aload_n dX1_causerOf_28 (Eq.refl 29) rfl ?_
        refine xg_getI (k := 3) xcl10 h2 rfl xq_411 rfl dX1_causerOf_29 (Eq.refl 32) ?_
        exact xg_iret rfl dX1_causerOf_32 rfl hM2 (hM2.I h2 rfl)
theorem mX1_causerOf {l : Launch} {G : xG} (hl : l.stackTraces = false) (x0 : Nat) (h0 : xOb 1 x0) (x1 : Nat) (h1 : xOb 10 x1) (M : xM) (hM : xcan M) : Cm l G yX1_causerOf cX1_causerOf 6 (some .int) 3 0 0 0 [.ref x0, .ref x1] M (fX1_causerOf x0 x1 M) := by
  refine xcm_of (u := uX1_causerOf) (ls := [some (.ref x0), some (.ref x1), none, none, none, none]) 4 hl rfl (by decide +kernel) (Nat.le_of_ble_eq_true rfl) rfl ?_
  unfold fX1_causerOf
  refine xg_aload_n dX1_causerOf_0 (Eq.refl 1) rfl ?_
  refine xg_astore_n (ls2 := [some (.ref x0), some (.ref x1), some (.ref x1), none, none, none]) dX1_causerOf_1 (Eq.refl 2) (by decide) rfl ?_
  refine xg_iconst dX1_causerOf_2 (Eq.refl 3) ?_
  refine xg_istore_n (ls2 := [some (.ref x0), some (.ref x1), some (.ref x1), some (iv 0), none, none]) dX1_causerOf_3 (Eq.refl 4) (by decide) rfl ?_
  refine xg_iconst dX1_causerOf_4 (Eq.refl 5) ?_
  refine xg_istore (ls2 := [some (.ref x0), some (.ref x1), some (.ref x1), some (iv 0), some (iv 0), none]) dX1_causerOf_5 (Eq.refl 7) (by decide) rfl ?_
  exact xg_jump (gX1_causerOf_7 hl x0 h0 xN x1 h1 0 (by decide) 0 (by decide) M hM) (xsb_s (xsb_n (xsb_s (xsb_s (xsb_s (xsb_n xsb_0)))))) (by decide) (by decide)
abbrev uX2_candidate : xU := (RX2, cX2_candidate, 2, (some (.object "SettlementRing$Trade")), [], "candidate")
theorem bX2_candidate : xYV yX2_candidate cX2_candidate 2 (some (.object "SettlementRing$Trade")) 1 := ⟨xq_330, xq_331, xq_22, xq_332, ⟨by decide +kernel, by decide +kernel, by decide +kernel⟩, by decide⟩
theorem gX2_candidate_27 {l : Launch} {G : xG} (hl : l.stackTraces = false) (s0 : Int) (hs0 : R32 s0) (s1 : Nat) (hs1 : xOb 1 s1) (M : xM) (hM : xcan M) : Gv l G uX2_candidate 2 20 0 0 27 [none, none] [iv s0, .ref s1] M (fX2_candidate_27 s0 s1 M) := by
  unfold fX2_candidate_27
  refine xg_callV_R (cr := 10) (kc := 0) (ks := 0) (st := []) (mX1_trade hl s1 hs1 s0 hs0 M hM) bX1_trade xcl1 hs1 rfl xq_308 rfl (by decide) rfl (by decide) dX2_candidate_27 (Eq.refl 30) rfl (by decide) (by decide) ?_
  intro z1 M2 hz1 hM2
  exact xg_aret rfl dX2_candidate_30 rfl hM2 hz1
theorem gX2_candidate_26 {l : Launch} {G : xG} (hl : l.stackTraces = false) (s0 : Nat) (hs0 : xOb 1 s0) (M : xM) (hM : xcan M) : Gv l G uX2_candidate 2 20 0 0 26 [none, none] [.ref s0] M (fX2_candidate_26 s0 M) := by
  unfold fX2_candidate_26
  refine xg_iconst dX2_candidate_26 (Eq.refl 27) ?_
  exact xg_jump (gX2_candidate_27 hl (-1) (by decide) s0 hs0 M hM) (xsb_n (xsb_n xsb_0)) (by decide) (by decide)
theorem mX2_candidate {l : Launch} {G : xG} (hl : l.stackTraces = false) (x0 : Nat) (h0 : xOb 2 x0) (x1 : Int) (h1 : R32 x1) (M : xM) (hM : xcan M) : Cm l G yX2_candidate cX2_candidate 2 (some (.object "SettlementRing$Trade")) 2 20 0 0 [.ref x0, iv x1] M (fX2_candidate x0 x1 M) := by
  refine xcm_of (u := uX2_candidate) (ls := [some (.ref x0), some (iv x1)]) 0 hl rfl (by decide +kernel) (Nat.le_of_ble_eq_true rfl) rfl ?_
  unfold fX2_candidate
  refine xg_aload_n dX2_candidate_0 (Eq.refl 1) rfl ?_
  refine xg_getR (k := 0) xcl2 h0 rfl xq_109 rfl (xt_2_0 h0).1 dX2_candidate_1 (Eq.refl 4) ?_
  refine xg_iload_n dX2_candidate_4 (Eq.refl 5) rfl ?_
  refine xg_if_lt (tgt := 26) dX2_candidate_5 (Eq.refl 8) (by decide) h1 ?_ ?_
  · exact xg_jump (gX2_candidate_26 hl (xr x0 0) (xt_2_0 h0).2 M hM) (xsb_n (xsb_n xsb_0)) (by decide) (by decide)
  · refine xg_iload_n dX2_candidate_8 (Eq.refl 9) rfl ?_
    refine xg_aload_n dX2_candidate_9 (Eq.refl 10) rfl ?_
    refine xg_getR (k := 1) xcl2 h0 rfl xq_106 rfl (xt_2_1 h0).1 dX2_candidate_10 (Eq.refl 13) ?_
    refine xg_alen (z := 20) (xt_2_1 h0).2 (by decide) dX2_candidate_13 (Eq.refl 14) rfl ?_
    refine xg_icmp_ge (tgt := 26) dX2_candidate_14 (Eq.refl 17) (by decide) h1 (by decide) ?_ ?_
    · exact xg_jump (gX2_candidate_26 hl (xr x0 0) (xt_2_0 h0).2 M hM) (xsb_n (xsb_n xsb_0)) (by decide) (by decide)
    · refine xg_aload_n dX2_candidate_17 (Eq.refl 18) rfl ?_
      refine xg_getR (k := 1) xcl2 h0 rfl xq_106 rfl (xt_2_1 h0).1 dX2_candidate_18 (Eq.refl 21) ?_
      refine xg_iload_n dX2_candidate_21 (Eq.refl 22) rfl ?_
      refine xg_iald (xt_2_1 h0).2 dX2_candidate_22 (Eq.refl 23) ?_
      refine xg_goto (tgt := 27) dX2_candidate_23 (by decide) ?_
      exact xg_jump (gX2_candidate_27 hl (M (xr x0 1) x1.toNat) (hM.ai (xt_2_1 h0).2) (xr x0 0) (xt_2_0 h0).2 M hM) (xsb_n (xsb_n xsb_0)) (by decide) (by decide)
abbrev uX2_rankOf : xU := (RX2, cX2_rankOf, 1, (some .int), [], "rankOf")
theorem bX2_rankOf : xYS yX2_rankOf cX2_rankOf 1 (some .int) 1 := ⟨xq_334, xq_22, xq_335, ⟨by decide +kernel, by decide +kernel, by decide +kernel⟩, by decide⟩
theorem mX2_rankOf {l : Launch} {G : xG} (hl : l.stackTraces = false) (x0 : Nat) (h0 : xOb 10 x0) (M : xM) (hM : xcan M) : Cm l G yX2_rankOf cX2_rankOf 1 (some .int) 1 0 0 0 [.ref x0] M (fX2_rankOf x0 M) := by
  refine xcm_of (u := uX2_rankOf) (ls := [some (.ref x0)]) 0 hl rfl (by decide +kernel) (Nat.le_of_ble_eq_true rfl) rfl ?_
  unfold fX2_rankOf
  refine xg_aload_n dX2_rankOf_0 (Eq.refl 1) rfl ?_
  refine xg_getI (k := 10) xcl10 h0 rfl xq_336 rfl dX2_rankOf_1 (Eq.refl 4) ?_
  refine xg_aload_n dX2_rankOf_4 (Eq.refl 5) rfl ?_
  refine xg_getI (k := 11) xcl10 h0 rfl xq_337 rfl dX2_rankOf_5 (Eq.refl 8) ?_
  refine xg_iadd dX2_rankOf_8 (Eq.refl 9) ?_
  exact xg_iret rfl dX2_rankOf_9 rfl hM (w32_r _)
abbrev uX2_insertCandidate : xU := (RX2, cX2_insertCandidate, 4, none, [], "insertCandidate")
theorem bX2_insertCandidate : xYV yX2_insertCandidate cX2_insertCandidate 4 none 1 := ⟨xq_325, xq_326, xq_22, xq_327, ⟨by decide +kernel, by decide +kernel, by decide +kernel⟩, by decide⟩
theorem gX2_insertCandidate_46 {l : Launch} {G : xG} (hl : l.stackTraces = false) (x0 : Nat) (h0 : xOb 2 x0) (x1 : Nat) (h1 : xOb 10 x1) (x2 : Int) (h2 : R32 x2) : ∀ (n : Nat) (x3 : Int) (_ : R32 x3) (M : xM) (_ : xcan M), Gv l G uX2_insertCandidate 3 3 0 0 46 [some (.ref x0), some (.ref x1), some (iv x2), some (iv x3)] [] M (fX2_insertCandidate_46 x0 x1 x2 n x3 M) := by
  intro n; induction n with
  | zero => intro x3 h3 M hM; exact xg_none
  | succ n ih =>
    intro x3 h3 M hM
    rw [fX2_insertCandidate_46]
    refine xg_iload_n dX2_insertCandidate_46 (Eq.refl 47) rfl ?_
    refine xg_iload_n dX2_insertCandidate_47 (Eq.refl 48) rfl ?_
    refine xg_icmp_le (tgt := 71) dX2_insertCandidate_48 (Eq.refl 51) (by decide) h3 h2 ?_ ?_
    · refine xg_iload_n dX2_insertCandidate_71 (Eq.refl 72) rfl ?_
      refine xg_aload_n dX2_insertCandidate_72 (Eq.refl 73) rfl ?_
      refine xg_getR (k := 1) xcl2 h0 rfl xq_106 rfl (xt_2_1 h0).1 dX2_insertCandidate_73 (Eq.refl 76) ?_
      refine xg_alen (z := 20) (xt_2_1 h0).2 (by decide) dX2_insertCandidate_76 (Eq.refl 77) rfl ?_
      refine xg_icmp_ge (tgt := 100) dX2_insertCandidate_77 (Eq.refl 80) (by decide) h2 (by decide) ?_ ?_
      · exact xg_vret rfl dX2_insertCandidate_100 rfl hM
      · refine xg_aload_n dX2_insertCandidate_80 (Eq.refl 81) rfl ?_
        refine xg_getR (k := 1) xcl2 h0 rfl xq_106 rfl (xt_2_1 h0).1 dX2_insertCandidate_81 (Eq.refl 84) ?_
        refine xg_iload_n dX2_insertCandidate_84 (Eq.refl 85) rfl ?_
        refine xg_aload_n dX2_insertCandidate_85 (Eq.refl 86) rfl ?_
        refine xg_getI (k := 0) xcl10 h1 rfl xq_328 rfl dX2_insertCandidate_86 (Eq.refl 89) ?_
        refine xg_iast (xt_2_1 h0).2 dX2_insertCandidate_89 (Eq.refl 90) hM (hM.I h1 rfl) ?_
        intro M1 hM1
        refine xg_aload_n dX2_insertCandidate_90 (Eq.refl 91) rfl ?_
        refine xg_dup dX2_insertCandidate_91 (Eq.refl 92) rfl ?_
        refine xg_getI (k := 4) xcl2 h0 rfl xq_298 rfl dX2_insertCandidate_92 (Eq.refl 95) ?_
        refine xg_iconst dX2_insertCandidate_95 (Eq.refl 96) ?_
        refine xg_iadd dX2_insertCandidate_96 (Eq.refl 97) ?_
        refine xg_putI (k := 4) xcl2 h0 rfl xq_298 rfl (by decide +kernel) dX2_insertCandidate_97 (Eq.refl 100) rfl hM1 (w32_r _) ?_
        intro M2 hM2
        exact xg_vret rfl dX2_insertCandidate_100 rfl hM2
    · refine xg_aload_n dX2_insertCandidate_51 (Eq.refl 52) rfl ?_
      refine xg_getR (k := 1) xcl2 h0 rfl xq_106 rfl (xt_2_1 h0).1 dX2_insertCandidate_52 (Eq.refl 55) ?_
      refine xg_iload_n dX2_insertCandidate_55 (Eq.refl 56) rfl ?_
      refine xg_aload_n dX2_insertCandidate_56 (Eq.refl 57) rfl ?_
      refine xg_getR (k := 1) xcl2 h0 rfl xq_106 rfl (xt_2_1 h0).1 dX2_insertCandidate_57 (Eq.refl 60) ?_
      refine xg_iload_n dX2_insertCandidate_60 (Eq.refl 61) rfl ?_
      refine xg_iconst dX2_insertCandidate_61 (Eq.refl 62) ?_
      refine xg_isub dX2_insertCandidate_62 (Eq.refl 63) ?_
      refine xg_iald (xt_2_1 h0).2 dX2_insertCandidate_63 (Eq.refl 64) ?_
      refine xg_iast (xt_2_1 h0).2 dX2_insertCandidate_64 (Eq.refl 65) hM (hM.ai (xt_2_1 h0).2) ?_
      intro M3 hM3
      refine xg_iinc (ls2 := [some (.ref x0), some (.ref x1), some (iv x2), some (iv (w32 (x3 + (-1))))]) dX2_insertCandidate_65 (Eq.refl 68) rfl (by decide) rfl ?_
      refine xg_goto (tgt := 46) dX2_insertCandidate_68 (by decide) ?_
      exact xg_jump (ih (w32 (x3 + (-1))) (w32_r _) M3 hM3) (xsb_s (xsb_s (xsb_s (xsb_s xsb_0)))) (by decide) (by decide)
theorem gX2_insertCandidate_31 {l : Launch} {G : xG} (hl : l.stackTraces = false) (x0 : Nat) (h0 : xOb 2 x0) (x1 : Nat) (h1 : xOb 10 x1) (x2 : Int) (h2 : R32 x2) (M : xM) (hM : xcan M) : Gv l G uX2_insertCandidate 3 3 0 0 31 [some (.ref x0), some (.ref x1), some (iv x2), none] [] M (fX2_insertCandidate_31 x0 x1 x2 M) := by
  unfold fX2_insertCandidate_31
  refine xg_aload_n dX2_insertCandidate_31 (Eq.refl 32) rfl ?_
  refine xg_getI (k := 4) xcl2 h0 rfl xq_298 rfl dX2_insertCandidate_32 (Eq.refl 35) ?_
  refine xg_aload_n dX2_insertCandidate_35 (Eq.refl 36) rfl ?_
  refine xg_getR (k := 1) xcl2 h0 rfl xq_106 rfl (xt_2_1 h0).1 dX2_insertCandidate_36 (Eq.refl 39) ?_
  refine xg_alen (z := 20) (xt_2_1 h0).2 (by decide) dX2_insertCandidate_39 (Eq.refl 40) rfl ?_
  refine xg_iconst dX2_insertCandidate_40 (Eq.refl 41) ?_
  refine xg_isub dX2_insertCandidate_41 (Eq.refl 42) ?_
  refine xg_mmini xq_304 xq_305 xq_306 xq_307 dX2_insertCandidate_42 (Eq.refl 45) (hM.I h0 rfl) (w32_r _) (by decide) ?_
  refine xg_istore_nL (P := R32) (ls2 := fun y1 => [some (.ref x0), some (.ref x1), some (iv x2), some (iv y1)]) dX2_insertCandidate_45 (Eq.refl 46) (by decide) (xmini_r (hM.I h0 rfl) (w32_r _)) (fun _ => rfl) ?_
  intro y1 hy1
  exact xg_jump (gX2_insertCandidate_46 hl x0 h0 x1 h1 x2 h2 xN y1 hy1 M hM) (xsb_s (xsb_s (xsb_s (xsb_s xsb_0)))) (by decide) (by decide)
theorem gX2_insertCandidate_2 {l : Launch} {G : xG} (hl : l.stackTraces = false) (x0 : Nat) (h0 : xOb 2 x0) (x1 : Nat) (h1 : xOb 10 x1) : ∀ (n : Nat) (x2 : Int) (_ : R32 x2) (M : xM) (_ : xcan M), Gv l G uX2_insertCandidate 3 3 0 0 2 [some (.ref x0), some (.ref x1), some (iv x2), none] [] M (fX2_insertCandidate_2 x0 x1 n x2 M) := by
  intro n; induction n with
  | zero => intro x2 h2 M hM; exact xg_none
  | succ n ih =>
    intro x2 h2 M hM
    rw [fX2_insertCandidate_2]
    refine xg_iload_n dX2_insertCandidate_2 (Eq.refl 3) rfl ?_
    refine xg_aload_n dX2_insertCandidate_3 (Eq.refl 4) rfl ?_
    refine xg_getI (k := 4) xcl2 h0 rfl xq_298 rfl dX2_insertCandidate_4 (Eq.refl 7) ?_
    refine xg_icmp_ge (tgt := 31) dX2_insertCandidate_7 (Eq.refl 10) (by decide) h2 (hM.I h0 rfl) ?_ ?_
    · exact xg_jump (gX2_insertCandidate_31 hl x0 h0 x1 h1 x2 h2 M hM) (xsb_s (xsb_s (xsb_s (xsb_n xsb_0)))) (by decide) (by decide)
    · refine xg_aload_n dX2_insertCandidate_10 (Eq.refl 11) rfl ?_
      refine xg_iload_n dX2_insertCandidate_11 (Eq.refl 12) rfl ?_
      refine xg_callV_R (cr := 10) (kc := 0) (ks := 0) (st := []) (mX2_candidate hl x0 h0 x2 h2 M hM) bX2_candidate xcl2 h0 rfl xq_329 rfl (by decide) rfl (by decide) dX2_insertCandidate_12 (Eq.refl 15) rfl (by decide) (by decide) ?_
      intro z1 M2 hz1 hM2
      refine xg_callS_I (kc := 0) (ks := 0) (st := []) (mX2_rankOf hl z1.toNat hz1 M2 hM2) bX2_rankOf xq_333 rfl (by decide) rfl (by decide) dX2_insertCandidate_15 (Eq.refl 18) rfl (by decide) (by decide) ?_
      intro z3 M4 hz3 hM4
      refine xg_aload_n dX2_insertCandidate_18 (Eq.refl 19) rfl ?_
      refine xg_callS_I (kc := 0) (ks := 0) (st := [iv z3]) (mX2_rankOf hl x1 h1 M4 hM4) bX2_rankOf xq_333 rfl (by decide) rfl (Nat.le_of_ble_eq_true rfl) dX2_insertCandidate_19 (Eq.refl 22) rfl (by decide) (by decide) ?_
      intro z5 M6 hz5 hM6
      refine xg_icmp_lt (tgt := 31) dX2_insertCandidate_22 (Eq.refl 25) (by decide) hz3 hz5 ?_ ?_
      · exact xg_jump (gX2_insertCandidate_31 hl x0 h0 x1 h1 x2 h2 M6 hM6) (xsb_s (xsb_s (xsb_s (xsb_n xsb_0)))) (by decide) (by decide)
      · refine xg_iinc (ls2 := [some (.ref x0), some (.ref x1), some (iv (w32 (x2 + 1))), none]) dX2_insertCandidate_25 (Eq.refl 28) rfl (by decide) rfl ?_
        refine xg_goto (tgt := 2) dX2_insertCandidate_28 (by decide) ?_
        exact xg_jump (ih (w32 (x2 + 1)) (w32_r _) M6 hM6) (xsb_s (xsb_s (xsb_s (xsb_n xsb_0)))) (by decide) (by decide)
theorem mX2_insertCandidate {l : Launch} {G : xG} (hl : l.stackTraces = false) (x0 : Nat) (h0 : xOb 2 x0) (x1 : Nat) (h1 : xOb 10 x1) (M : xM) (hM : xcan M) : Cm l G yX2_insertCandidate cX2_insertCandidate 4 none 3 3 0 0 [.ref x0, .ref x1] M (fX2_insertCandidate x0 x1 M) := by
  refine xcm_of (u := uX2_insertCandidate) (ls := [some (.ref x0), some (.ref x1), none, none]) 2 hl rfl (by decide +kernel) (Nat.le_of_ble_eq_true rfl) rfl ?_
  unfold fX2_insertCandidate
  refine xg_iconst dX2_insertCandidate_0 (Eq.refl 1) ?_
  refine xg_istore_n (ls2 := [some (.ref x0), some (.ref x1), some (iv 0), none]) dX2_insertCandidate_1 (Eq.refl 2) (by decide) rfl ?_
  exact xg_jump (gX2_insertCandidate_2 hl x0 h0 x1 h1 xN 0 (by decide) M hM) (xsb_s (xsb_s (xsb_s (xsb_n xsb_0)))) (by decide) (by decide)
abbrev uX2_findCandidates : xU := (RX2, cX2_findCandidates, 3, none, [], "findCandidates")
theorem bX2_findCandidates : xYV yX2_findCandidates cX2_findCandidates 3 none 0 := ⟨xq_300, xq_301, xq_22, xq_302, ⟨by decide +kernel, by decide +kernel, by decide +kernel⟩, by decide⟩
theorem gX2_findCandidates_54 {l : Launch} {G : xG} (hl : l.stackTraces = false) (rc7 : Int → xM → xO) (x0 : Nat) (h0 : xOb 2 x0) (x1 : Int) (h1 : R32 x1) (hr7 : ∀ w1 : Int, R32 w1 → ∀ M : xM, xcan M → Gv l G uX2_findCandidates 4 3 0 0 7 [some (.ref x0), some (iv w1), none] [] M (rc7 w1 M)) (M : xM) (hM : xcan M) : Gv l G uX2_findCandidates 4 3 0 0 54 [some (.ref x0), some (iv x1), none] [] M (fX2_findCandidates_54 rc7 x0 x1 M) := by
  unfold fX2_findCandidates_54
  refine xg_iinc (ls2 := [some (.ref x0), some (iv (w32 (x1 + 1))), none]) dX2_findCandidates_54 (Eq.refl 57) rfl (by decide) rfl ?_
  refine xg_goto (tgt := 7) dX2_findCandidates_57 (by decide) ?_
  exact xg_jump (hr7 (w32 (x1 + 1)) (w32_r _) M hM) (xsb_s (xsb_s (xsb_n xsb_0))) (by decide) (by decide)
theorem gX2_findCandidates_7 {l : Launch} {G : xG} (hl : l.stackTraces = false) (x0 : Nat) (h0 : xOb 2 x0) : ∀ (n : Nat) (x1 : Int) (_ : R32 x1) (M : xM) (_ : xcan M), Gv l G uX2_findCandidates 4 3 0 0 7 [some (.ref x0), some (iv x1), none] [] M (fX2_findCandidates_7 x0 n x1 M) := by
  intro n; induction n with
  | zero => intro x1 h1 M hM; exact xg_none
  | succ n ih =>
    intro x1 h1 M hM
    rw [fX2_findCandidates_7]
    refine xg_iload_n dX2_findCandidates_7 (Eq.refl 8) rfl ?_
    refine xg_aload_n dX2_findCandidates_8 (Eq.refl 9) rfl ?_
    refine xg_getR (k := 0) xcl2 h0 rfl xq_109 rfl (xt_2_0 h0).1 dX2_findCandidates_9 (Eq.refl 12) ?_
    refine xg_getI (k := 12) xcl1 (xt_2_0 h0).2 rfl xq_303 rfl dX2_findCandidates_12 (Eq.refl 15) ?_
    refine xg_icmp_ge (tgt := 60) dX2_findCandidates_15 (Eq.refl 18) (by decide) h1 (hM.I (xt_2_0 h0).2 rfl) ?_ ?_
    · refine xg_aload_n dX2_findCandidates_60 (Eq.refl 61) rfl ?_
      refine xg_aload_n dX2_findCandidates_61 (Eq.refl 62) rfl ?_
      refine xg_getI (k := 4) xcl2 h0 rfl xq_298 rfl dX2_findCandidates_62 (Eq.refl 65) ?_
      refine xg_bipush dX2_findCandidates_65 (Eq.refl 67) (by decide +kernel) ?_
      refine xg_mmini xq_304 xq_305 xq_306 xq_307 dX2_findCandidates_67 (Eq.refl 70) (hM.I h0 rfl) (by decide) (Nat.le_of_ble_eq_true rfl) ?_
      refine xg_putI (k := 4) xcl2 h0 rfl xq_298 rfl (by decide +kernel) dX2_findCandidates_70 (Eq.refl 73) rfl hM (xmini_r (hM.I h0 rfl) (by decide)) ?_
      intro M1 hM1
      exact xg_vret rfl dX2_findCandidates_73 rfl hM1
    · refine xg_aload_n dX2_findCandidates_18 (Eq.refl 19) rfl ?_
      refine xg_getR (k := 0) xcl2 h0 rfl xq_109 rfl (xt_2_0 h0).1 dX2_findCandidates_19 (Eq.refl 22) ?_
      refine xg_iload_n dX2_findCandidates_22 (Eq.refl 23) rfl ?_
      refine xg_callV_R (cr := 10) (kc := 0) (ks := 0) (st := []) (mX1_trade hl (xr x0 0) (xt_2_0 h0).2 x1 h1 M hM) bX1_trade xcl1 (xt_2_0 h0).2 rfl xq_308 rfl (by decide) rfl (by decide) dX2_findCandidates_23 (Eq.refl 26) rfl (by decide) (by decide) ?_
      intro z2 M3 hz2 hM3
      refine xg_astore_n (ls2 := [some (.ref x0), some (iv x1), some (.ref z2.toNat)]) dX2_findCandidates_26 (Eq.refl 27) (by decide) rfl ?_
      refine xg_aload_n dX2_findCandidates_27 (Eq.refl 28) rfl ?_
      refine xg_getR (k := 0) xcl2 h0 rfl xq_109 rfl (xt_2_0 h0).1 dX2_findCandidates_28 (Eq.refl 31) ?_
      refine xg_aload_n dX2_findCandidates_31 (Eq.refl 32) rfl ?_
      refine xg_callV_Z (kc := 0) (ks := 0) (st := []) (mX1_isDue hl (xr x0 0) (xt_2_0 h0).2 z2.toNat hz2 M3 hM3) bX1_isDue xcl1 (xt_2_0 h0).2 rfl xq_309 rfl (by decide) rfl (by decide) dX2_findCandidates_32 (Eq.refl 35) rfl (by decide) (by decide) ?_
      intro z4 M5 hz4 hM5
      refine xg_if_eq (tgt := 54) dX2_findCandidates_35 (Eq.refl 38) (by decide) (B01.r hz4) ?_ ?_
      · exact xg_jump (gX2_findCandidates_54 hl (fX2_findCandidates_7 x0 n) x0 h0 x1 h1 ih M5 hM5) (xsb_s (xsb_s (xsb_n xsb_0))) (by decide) (by decide)
      · refine xg_aload_n dX2_findCandidates_38 (Eq.refl 39) rfl ?_
        refine xg_getR (k := 0) xcl2 h0 rfl xq_109 rfl (xt_2_0 h0).1 dX2_findCandidates_39 (Eq.refl 42) ?_
        refine xg_aload_n dX2_findCandidates_42 (Eq.refl 43) rfl ?_
        refine xg_callV_Z (kc := 0) (ks := 0) (st := []) (mX1_isHeldUp hl (xr x0 0) (xt_2_0 h0).2 z2.toNat hz2 M5 hM5) bX1_isHeldUp xcl1 (xt_2_0 h0).2 rfl xq_316 rfl (by decide) rfl (by decide) dX2_findCandidates_43 (Eq.refl 46) rfl (by decide) (by decide) ?_
        intro z6 M7 hz6 hM7
        refine xg_if_ne (tgt := 54) dX2_findCandidates_46 (Eq.refl 49) (by decide) (B01.r hz6) ?_ ?_
        · refine xg_aload_n dX2_findCandidates_49 (Eq.refl 50) rfl ?_
          refine xg_aload_n dX2_findCandidates_50 (Eq.refl 51) rfl ?_
          refine xg_callV_N (kc := 0) (ks := 0) (st := []) (mX2_insertCandidate hl x0 h0 z2.toNat hz2 M7 hM7) bX2_insertCandidate xcl2 h0 rfl xq_324 rfl (by decide) rfl (by decide) dX2_findCandidates_51 (Eq.refl 54) rfl (by decide) (by decide) ?_
          intro z8 M9 hz8 hM9
          exact xg_jump (gX2_findCandidates_54 hl (fX2_findCandidates_7 x0 n) x0 h0 x1 h1 ih M9 hM9) (xsb_s (xsb_s (xsb_n xsb_0))) (by decide) (by decide)
        · exact xg_jump (gX2_findCandidates_54 hl (fX2_findCandidates_7 x0 n) x0 h0 x1 h1 ih M7 hM7) (xsb_s (xsb_s (xsb_n xsb_0))) (by decide) (by decide)
theorem mX2_findCandidates {l : Launch} {G : xG} (hl : l.stackTraces = false) (x0 : Nat) (h0 : xOb 2 x0) (M : xM) (hM : xcan M) : Cm l G yX2_findCandidates cX2_findCandidates 3 none 4 3 0 0 [.ref x0] M (fX2_findCandidates x0 M) := by
  refine xcm_of (u := uX2_findCandidates) (ls := [some (.ref x0), none, none]) 2 hl rfl (by decide +kernel) (Nat.le_of_ble_eq_true rfl) rfl ?_
  unfold fX2_findCandidates
  refine xg_aload_n dX2_findCandidates_0 (Eq.refl 1) rfl ?_
  refine xg_iconst dX2_findCandidates_1 (Eq.refl 2) ?_
  refine xg_putI (k := 4) xcl2 h0 rfl xq_298 rfl (by decide +kernel) dX2_findCandidates_2 (Eq.refl 5) rfl hM (by decide) ?_
  intro M1 hM1
  refine xg_iconst dX2_findCandidates_5 (Eq.refl 6) ?_
  refine xg_istore_n (ls2 := [some (.ref x0), some (iv 0), none]) dX2_findCandidates_6 (Eq.refl 7) (by decide) rfl ?_
  exact xg_jump (gX2_findCandidates_7 hl x0 h0 xN 0 (by decide) M1 hM1) (xsb_s (xsb_s (xsb_n xsb_0))) (by decide) (by decide)
abbrev uX2_worthOf : xU := (RX2, cX2_worthOf, 2, (some .long), [], "worthOf")
theorem bX2_worthOf : xYV yX2_worthOf cX2_worthOf 2 (some .long) 1 := ⟨xq_339, xq_340, xq_22, xq_341, ⟨by decide +kernel, by decide +kernel, by decide +kernel⟩, by decide⟩
theorem mX2_worthOf {l : Launch} {G : xG} (hl : l.stackTraces = false) (x0 : Nat) (h0 : xOb 2 x0) (x1 : Nat) (h1 : xOb 10 x1) (M : xM) (hM : xcan M) : Cm l G yX2_worthOf cX2_worthOf 2 (some .long) 3 2 0 0 [.ref x0, .ref x1] M (fX2_worthOf x0 x1 M) := by
  refine xcm_of (u := uX2_worthOf) (ls := [some (.ref x0), some (.ref x1)]) 0 hl rfl (by decide +kernel) (Nat.le_of_ble_eq_true rfl) rfl ?_
  unfold fX2_worthOf
  refine xg_aload_n dX2_worthOf_0 (Eq.refl 1) rfl ?_
  refine xg_getJ (k := 7) xcl10 h1 rfl xq_342 rfl dX2_worthOf_1 (Eq.refl 4) ?_
  refine xg_aload_n dX2_worthOf_4 (Eq.refl 5) rfl ?_
  refine xg_getR (k := 0) xcl2 h0 rfl xq_109 rfl (xt_2_0 h0).1 dX2_worthOf_5 (Eq.refl 8) ?_
  refine xg_aload_n dX2_worthOf_8 (Eq.refl 9) rfl ?_
  refine xg_getI (k := 5) xcl10 h1 rfl xq_343 rfl dX2_worthOf_9 (Eq.refl 12) ?_
  refine xg_aload_n dX2_worthOf_12 (Eq.refl 13) rfl ?_
  refine xg_getJ (k := 6) xcl10 h1 rfl xq_344 rfl dX2_worthOf_13 (Eq.refl 16) ?_
  refine xg_callV_J (kc := 0) (ks := 0) (st := [jv (M x1 7)]) (mX1_worthOf hl (xr x0 0) (xt_2_0 h0).2 (M x1 5) (hM.I h1 rfl) (M x1 6) (hM.J h1 rfl) M hM) bX1_worthOf xcl1 (xt_2_0 h0).2 rfl xq_345 rfl (by decide) rfl (Nat.le_of_ble_eq_true rfl) dX2_worthOf_16 (Eq.refl 19) rfl (by decide) (by decide) ?_
  intro z1 M2 hz1 hM2
  refine xg_ladd dX2_worthOf_19 (Eq.refl 20) ?_
  exact xg_lret rfl dX2_worthOf_20 rfl hM2 (w64_r _)
abbrev uX2_beginSearch : xU := (RX2, cX2_beginSearch, 4, none, [], "beginSearch")
theorem bX2_beginSearch : xYV yX2_beginSearch cX2_beginSearch 4 none 0 := ⟨xq_290, xq_291, xq_22, xq_292, ⟨by decide +kernel, by decide +kernel, by decide +kernel⟩, by decide⟩
theorem gX2_beginSearch_70 {l : Launch} {G : xG} (hl : l.stackTraces = false) (rc44 : Int → Int → xM → xO) (x0 : Nat) (h0 : xOb 2 x0) (x3 : Int) (h3 : R32 x3) (s0 : Int) (hs0 : R64 s0) (s1 : Int) (hs1 : R64 s1) (hr44 : ∀ w1 : Int, R64 w1 → ∀ w3 : Int, R32 w3 → ∀ M : xM, xcan M → Gv l G uX2_beginSearch 5 3 0 0 44 [some (.ref x0), some (jv w1), none, some (iv w3)] [] M (rc44 w1 w3 M)) (M : xM) (hM : xcan M) : Gv l G uX2_beginSearch 5 3 0 0 70 [some (.ref x0), none, none, some (iv x3)] [jv s0, jv s1] M (fX2_beginSearch_70 rc44 x0 x3 s0 s1 M) := by
  unfold fX2_beginSearch_70
  refine xg_ladd dX2_beginSearch_70 (Eq.refl 71) ?_
  refine xg_lstore_nL (P := R64) (ls2 := fun y1 => [some (.ref x0), some (jv y1), none, some (iv x3)]) dX2_beginSearch_71 (Eq.refl 72) (by decide) (w64_r _) (fun _ => rfl) ?_
  intro y1 hy1
  refine xg_aload_n dX2_beginSearch_72 (Eq.refl 73) rfl ?_
  refine xg_getR (k := 2) xcl2 h0 rfl xq_107 rfl (xt_2_2 h0).1 dX2_beginSearch_73 (Eq.refl 76) ?_
  refine xg_iload_n dX2_beginSearch_76 (Eq.refl 77) rfl ?_
  refine xg_lload_n dX2_beginSearch_77 (Eq.refl 78) rfl ?_
  refine xg_last (xt_2_2 h0).2 dX2_beginSearch_78 (Eq.refl 79) hM hy1 ?_
  intro M2 hM2
  refine xg_iinc (ls2 := [some (.ref x0), some (jv y1), none, some (iv (w32 (x3 + (-1))))]) dX2_beginSearch_79 (Eq.refl 82) rfl (by decide) rfl ?_
  refine xg_goto (tgt := 44) dX2_beginSearch_82 (by decide) ?_
  exact xg_jump (hr44 y1 hy1 (w32 (x3 + (-1))) (w32_r _) M2 hM2) (xsb_s (xsb_s (xsb_n (xsb_s xsb_0)))) (by decide) (by decide)
theorem gX2_beginSearch_44 {l : Launch} {G : xG} (hl : l.stackTraces = false) (x0 : Nat) (h0 : xOb 2 x0) : ∀ (n : Nat) (x1 : Int) (_ : R64 x1) (x3 : Int) (_ : R32 x3) (M : xM) (_ : xcan M), Gv l G uX2_beginSearch 5 3 0 0 44 [some (.ref x0), some (jv x1), none, some (iv x3)] [] M (fX2_beginSearch_44 x0 n x1 x3 M) := by
  intro n; induction n with
  | zero => intro x1 h1 x3 h3 M hM; exact xg_none
  | succ n ih =>
    intro x1 h1 x3 h3 M hM
    rw [fX2_beginSearch_44]
    refine xg_iload_n dX2_beginSearch_44 (Eq.refl 45) rfl ?_
    refine xg_if_lt (tgt := 85) dX2_beginSearch_45 (Eq.refl 48) (by decide) h3 ?_ ?_
    · exact xg_vret rfl dX2_beginSearch_85 rfl hM
    · refine xg_lload_n dX2_beginSearch_48 (Eq.refl 49) rfl ?_
      refine xg_iload_n dX2_beginSearch_49 (Eq.refl 50) rfl ?_
      refine xg_aload_n dX2_beginSearch_50 (Eq.refl 51) rfl ?_
      refine xg_getI (k := 4) xcl2 h0 rfl xq_298 rfl dX2_beginSearch_51 (Eq.refl 54) ?_
      refine xg_icmp_ge (tgt := 69) dX2_beginSearch_54 (Eq.refl 57) (by decide) h3 (hM.I h0 rfl) ?_ ?_
      · refine xg_lconst (z := 0) dX2_beginSearch_69 (Eq.refl 70) rfl ?_
        exact xg_jump (gX2_beginSearch_70 hl (fX2_beginSearch_44 x0 n) x0 h0 x3 h3 0 (by decide) x1 h1 ih M hM) (xsb_s (xsb_n (xsb_n (xsb_s xsb_0)))) (by decide) (by decide)
      · refine xg_aload_n dX2_beginSearch_57 (Eq.refl 58) rfl ?_
        refine xg_aload_n dX2_beginSearch_58 (Eq.refl 59) rfl ?_
        refine xg_iload_n dX2_beginSearch_59 (Eq.refl 60) rfl ?_
        refine xg_callV_R (cr := 10) (kc := 0) (ks := 0) (st := [.ref x0, jv x1]) (mX2_candidate hl x0 h0 x3 h3 M hM) bX2_candidate xcl2 h0 rfl xq_329 rfl (by decide) rfl (Nat.le_of_ble_eq_true rfl) dX2_beginSearch_60 (Eq.refl 63) rfl (by decide) (by decide) ?_
        intro z1 M2 hz1 hM2
        refine xg_callV_J (kc := 0) (ks := 0) (st := [jv x1]) (mX2_worthOf hl x0 h0 z1.toNat hz1 M2 hM2) bX2_worthOf xcl2 h0 rfl xq_338 rfl (by decide) rfl (Nat.le_of_ble_eq_true rfl) dX2_beginSearch_63 (Eq.refl 66) rfl (by decide) (by decide) ?_
        intro z3 M4 hz3 hM4
        refine xg_goto (tgt := 70) dX2_beginSearch_66 (by decide) ?_
        exact xg_jump (gX2_beginSearch_70 hl (fX2_beginSearch_44 x0 n) x0 h0 x3 h3 z3 hz3 x1 h1 ih M4 hM4) (xsb_s (xsb_n (xsb_n (xsb_s xsb_0)))) (by decide) (by decide)
theorem mX2_beginSearch {l : Launch} {G : xG} (hl : l.stackTraces = false) (x0 : Nat) (h0 : xOb 2 x0) (M : xM) (hM : xcan M) : Cm l G yX2_beginSearch cX2_beginSearch 4 none 5 3 0 0 [.ref x0] M (fX2_beginSearch x0 M) := by
  refine xcm_of (u := uX2_beginSearch) (ls := [some (.ref x0), none, none, none]) 3 hl rfl (by decide +kernel) (Nat.le_of_ble_eq_true rfl) rfl ?_
  unfold fX2_beginSearch
  refine xg_aload_n dX2_beginSearch_0 (Eq.refl 1) rfl ?_
  refine xg_callV_N (kc := 0) (ks := 0) (st := []) (mX2_findCandidates hl x0 h0 M hM) bX2_findCandidates xcl2 h0 rfl xq_299 rfl (by decide) rfl (by decide) dX2_beginSearch_1 (Eq.refl 4) rfl (by decide) (by decide) ?_
  intro z1 M2 hz1 hM2
  refine xg_aload_n dX2_beginSearch_4 (Eq.refl 5) rfl ?_
  refine xg_iconst dX2_beginSearch_5 (Eq.refl 6) ?_
  refine xg_putI (k := 5) xcl2 h0 rfl xq_293 rfl (by decide +kernel) dX2_beginSearch_6 (Eq.refl 9) rfl hM2 (by decide) ?_
  intro M3 hM3
  refine xg_aload_n dX2_beginSearch_9 (Eq.refl 10) rfl ?_
  refine xg_iconst dX2_beginSearch_10 (Eq.refl 11) ?_
  refine xg_putI (k := 6) xcl2 h0 rfl xq_294 rfl (by decide +kernel) dX2_beginSearch_11 (Eq.refl 14) rfl hM3 (by decide) ?_
  intro M4 hM4
  refine xg_aload_n dX2_beginSearch_14 (Eq.refl 15) rfl ?_
  refine xg_lconst (z := 0) dX2_beginSearch_15 (Eq.refl 16) rfl ?_
  refine xg_putJ (k := 7) xcl2 h0 rfl xq_295 rfl (by decide +kernel) dX2_beginSearch_16 (Eq.refl 19) rfl hM4 (by decide) ?_
  intro M5 hM5
  refine xg_aload_n dX2_beginSearch_19 (Eq.refl 20) rfl ?_
  refine xg_iconst dX2_beginSearch_20 (Eq.refl 21) ?_
  refine xg_putI (k := 8) xcl2 h0 rfl xq_296 rfl (by decide +kernel) dX2_beginSearch_21 (Eq.refl 24) rfl hM5 (by decide) ?_
  intro M6 hM6
  refine xg_aload_n dX2_beginSearch_24 (Eq.refl 25) rfl ?_
  refine xg_iconst dX2_beginSearch_25 (Eq.refl 26) ?_
  refine xg_putI (k := 9) xcl2 h0 rfl xq_297 rfl (by decide +kernel) dX2_beginSearch_26 (Eq.refl 29) rfl hM6 (by decide) ?_
  intro M7 hM7
  refine xg_aload_n dX2_beginSearch_29 (Eq.refl 30) rfl ?_
  refine xg_lconst (z := 0) dX2_beginSearch_30 (Eq.refl 31) rfl ?_
  refine xg_putJ (k := 10) xcl2 h0 rfl xq_288 rfl (by decide +kernel) dX2_beginSearch_31 (Eq.refl 34) rfl hM7 (by decide) ?_
  intro M8 hM8
  refine xg_lconst (z := 0) dX2_beginSearch_34 (Eq.refl 35) rfl ?_
  refine xg_lstore_n (ls2 := [some (.ref x0), some (jv 0), none, none]) dX2_beginSearch_35 (Eq.refl 36) (by decide) rfl ?_
  refine xg_aload_n dX2_beginSearch_36 (Eq.refl 37) rfl ?_
  refine xg_getR (k := 2) xcl2 h0 rfl xq_107 rfl (xt_2_2 h0).1 dX2_beginSearch_37 (Eq.refl 40) ?_
  refine xg_alen (z := 11) (xt_2_2 h0).2 (by decide) dX2_beginSearch_40 (Eq.refl 41) rfl ?_
  refine xg_iconst dX2_beginSearch_41 (Eq.refl 42) ?_
  refine xg_isub dX2_beginSearch_42 (Eq.refl 43) ?_
  refine xg_istore_nL (P := R32) (ls2 := fun y9 => [some (.ref x0), some (jv 0), none, some (iv y9)]) dX2_beginSearch_43 (Eq.refl 44) (by decide) (w32_r _) (fun _ => rfl) ?_
  intro y9 hy9
  exact xg_jump (gX2_beginSearch_44 hl x0 h0 xN 0 (by decide) y9 hy9 M8 hM8) (xsb_s (xsb_s (xsb_n (xsb_s xsb_0)))) (by decide) (by decide)
abbrev uX2_isIn : xU := (RX2, cX2_isIn, 2, (some .boolean), [], "isIn")
theorem bX2_isIn : xYS yX2_isIn cX2_isIn 2 (some .boolean) 2 := ⟨xq_371, xq_22, xq_372, ⟨by decide +kernel, by decide +kernel, by decide +kernel⟩, by decide⟩
theorem mX2_isIn {l : Launch} {G : xG} (hl : l.stackTraces = false) (x0 : Int) (h0 : R32 x0) (x1 : Int) (h1 : R32 x1) (M : xM) (hM : xcan M) : Cm l G yX2_isIn cX2_isIn 2 (some .boolean) 1 1 0 0 [iv x0, iv x1] M (fX2_isIn x0 x1 M) := by
  refine xcm_of (u := uX2_isIn) (ls := [some (iv x0), some (iv x1)]) 0 hl rfl (by decide +kernel) (Nat.le_of_ble_eq_true rfl) rfl ?_
  unfold fX2_isIn
  refine xg_iload_n dX2_isIn_0 (Eq.refl 1) rfl ?_
  refine xg_iload_n dX2_isIn_1 (Eq.refl 2) rfl ?_
  refine xg_ishr dX2_isIn_2 (Eq.refl 3) ?_
  refine xg_iconst dX2_isIn_3 (Eq.refl 4) ?_
  refine xg_iand dX2_isIn_4 (Eq.refl 5) ?_
  refine xg_if_eq (tgt := 12) dX2_isIn_5 (Eq.refl 8) (by decide) (xand_r _ _) ?_ ?_
  · refine xg_iconst dX2_isIn_12 (Eq.refl 13) ?_
    exact xg_zret rfl dX2_isIn_13 rfl hM (by decide)
  · refine xg_iconst dX2_isIn_8 (Eq.refl 9) ?_
    refine xg_goto (tgt := 13) dX2_isIn_9 (by decide) ?_
    exact xg_zret rfl dX2_isIn_13 rfl hM (by decide)
abbrev uX2_isInOrSettled : xU := (RX2, cX2_isInOrSettled, 2, (some .boolean), [], "isInOrSettled")
theorem bX2_isInOrSettled : xYV yX2_isInOrSettled cX2_isInOrSettled 2 (some .boolean) 1 := ⟨xq_374, xq_375, xq_22, xq_376, ⟨by decide +kernel, by decide +kernel, by decide +kernel⟩, by decide⟩
theorem gX2_isInOrSettled_26 {l : Launch} {G : xG} (hl : l.stackTraces = false) (M : xM) (hM : xcan M) : Gv l G uX2_isInOrSettled 2 1 0 0 26 [none, none] [] M (fX2_isInOrSettled_26 M) := by
  unfold fX2_isInOrSettled_26
  refine xg_iconst dX2_isInOrSettled_26 (Eq.refl 27) ?_
  refine xg_goto (tgt := 31) dX2_isInOrSettled_27 (by decide) ?_
  exact xg_zret rfl dX2_isInOrSettled_31 rfl hM (by decide)
theorem mX2_isInOrSettled {l : Launch} {G : xG} (hl : l.stackTraces = false) (x0 : Nat) (h0 : xOb 2 x0) (x1 : Int) (h1 : R32 x1) (M : xM) (hM : xcan M) : Cm l G yX2_isInOrSettled cX2_isInOrSettled 2 (some .boolean) 2 1 0 0 [.ref x0, iv x1] M (fX2_isInOrSettled x0 x1 M) := by
  refine xcm_of (u := uX2_isInOrSettled) (ls := [some (.ref x0), some (iv x1)]) 0 hl rfl (by decide +kernel) (Nat.le_of_ble_eq_true rfl) rfl ?_
  unfold fX2_isInOrSettled
  refine xg_iload_n dX2_isInOrSettled_0 (Eq.refl 1) rfl ?_
  refine xg_aload_n dX2_isInOrSettled_1 (Eq.refl 2) rfl ?_
  refine xg_getI (k := 5) xcl2 h0 rfl xq_293 rfl dX2_isInOrSettled_2 (Eq.refl 5) ?_
  refine xg_callS_Z (kc := 0) (ks := 0) (st := []) (mX2_isIn hl x1 h1 (M x0 5) (hM.I h0 rfl) M hM) bX2_isIn xq_370 rfl (by decide) rfl (by decide) dX2_isInOrSettled_5 (Eq.refl 8) rfl (by decide) (by decide) ?_
  intro z1 M2 hz1 hM2
  refine xg_if_ne (tgt := 26) dX2_isInOrSettled_8 (Eq.refl 11) (by decide) (B01.r hz1) ?_ ?_
  · refine xg_aload_n dX2_isInOrSettled_11 (Eq.refl 12) rfl ?_
    refine xg_getR (k := 0) xcl2 h0 rfl xq_109 rfl (xt_2_0 h0).1 dX2_isInOrSettled_12 (Eq.refl 15) ?_
    refine xg_iload_n dX2_isInOrSettled_15 (Eq.refl 16) rfl ?_
    refine xg_callV_R (cr := 10) (kc := 0) (ks := 0) (st := []) (mX1_trade hl (xr x0 0) (xt_2_0 h0).2 x1 h1 M2 hM2) bX1_trade xcl1 (xt_2_0 h0).2 rfl xq_308 rfl (by decide) rfl (by decide) dX2_isInOrSettled_16 (Eq.refl 19) rfl (by decide) (by decide) ?_
    intro z3 M4 hz3 hM4
    refine xg_getI (k := 12) xcl10 hz3 rfl xq_377 rfl dX2_isInOrSettled_19 (Eq.refl 22) ?_
    refine xg_iconst dX2_isInOrSettled_22 (Eq.refl 23) ?_
    refine xg_icmp_ne (tgt := 30) dX2_isInOrSettled_23 (Eq.refl 26) (by decide) (hM4.I hz3 rfl) (by decide) ?_ ?_
    · exact xg_jump (gX2_isInOrSettled_26 hl M4 hM4) (xsb_n (xsb_n xsb_0)) (by decide) (by decide)
    · refine xg_iconst dX2_isInOrSettled_30 (Eq.refl 31) ?_
      exact xg_zret rfl dX2_isInOrSettled_31 rfl hM4 (by decide)
  · exact xg_jump (gX2_isInOrSettled_26 hl M2 hM2) (xsb_n (xsb_n xsb_0)) (by decide) (by decide)
abbrev uX2_areLinksKept : xU := (RX2, cX2_areLinksKept, 5, (some .boolean), [], "areLinksKept")
theorem bX2_areLinksKept : xYV yX2_areLinksKept cX2_areLinksKept 5 (some .boolean) 0 := ⟨xq_359, xq_360, xq_22, xq_361, ⟨by decide +kernel, by decide +kernel, by decide +kernel⟩, by decide⟩
theorem gX2_areLinksKept_103 {l : Launch} {G : xG} (hl : l.stackTraces = false) (rc2 : Int → xM → xO) (x0 : Nat) (h0 : xOb 2 x0) (x1 : Int) (h1 : R32 x1) (hr2 : ∀ w1 : Int, R32 w1 → ∀ M : xM, xcan M → Gv l G uX2_areLinksKept 3 1 0 0 2 [some (.ref x0), some (iv w1), none, none, none] [] M (rc2 w1 M)) (M : xM) (hM : xcan M) : Gv l G uX2_areLinksKept 3 1 0 0 103 [some (.ref x0), some (iv x1), none, none, none] [] M (fX2_areLinksKept_103 rc2 x0 x1 M) := by
  unfold fX2_areLinksKept_103
  refine xg_iinc (ls2 := [some (.ref x0), some (iv (w32 (x1 + 1))), none, none, none]) dX2_areLinksKept_103 (Eq.refl 106) rfl (by decide) rfl ?_
  refine xg_goto (tgt := 2) dX2_areLinksKept_106 (by decide) ?_
  exact xg_jump (hr2 (w32 (x1 + 1)) (w32_r _) M hM) (xsb_s (xsb_s (xsb_n (xsb_n (xsb_n xsb_0))))) (by decide) (by decide)
theorem gX2_areLinksKept_83 {l : Launch} {G : xG} (hl : l.stackTraces = false) (rc2 : Int → xM → xO) (x0 : Nat) (h0 : xOb 2 x0) (x1 : Int) (h1 : R32 x1) (x2 : Nat) (h2 : xOb 6 x2) (x3 : Int) (h3 : B01 x3) (s0 : Int) (hs0 : B01 s0) (hr2 : ∀ w1 : Int, R32 w1 → ∀ M : xM, xcan M → Gv l G uX2_areLinksKept 3 1 0 0 2 [some (.ref x0), some (iv w1), none, none, none] [] M (rc2 w1 M)) (M : xM) (hM : xcan M) : Gv l G uX2_areLinksKept 3 1 0 0 83 [some (.ref x0), some (iv x1), some (.ref x2), some (iv x3), none] [iv s0] M (fX2_areLinksKept_83 rc2 x0 x1 x2 x3 s0 M) := by
  unfold fX2_areLinksKept_83
  refine xg_istore (ls2 := [some (.ref x0), some (iv x1), some (.ref x2), some (iv x3), some (iv s0)]) dX2_areLinksKept_83 (Eq.refl 85) (by decide) rfl ?_
  refine xg_iload_n dX2_areLinksKept_85 (Eq.refl 86) rfl ?_
  refine xg_if_ne (tgt := 101) dX2_areLinksKept_86 (Eq.refl 89) (by decide) (B01.r h3) ?_ ?_
  · refine xg_aload_n dX2_areLinksKept_89 (Eq.refl 90) rfl ?_
    refine xg_getZ (k := 2) xcl6 h2 rfl xq_365 rfl dX2_areLinksKept_90 (Eq.refl 93) hM ?_
    refine xg_if_eq (tgt := 103) dX2_areLinksKept_93 (Eq.refl 96) (by decide) (B01.r (hM.Z h2 rfl)) ?_ ?_
    · exact xg_jump (gX2_areLinksKept_103 hl rc2 x0 h0 x1 h1 hr2 M hM) (xsb_s (xsb_s (xsb_n (xsb_n (xsb_n xsb_0))))) (by decide) (by decide)
    · refine xg_iload dX2_areLinksKept_96 (Eq.refl 98) rfl ?_
      refine xg_if_eq (tgt := 103) dX2_areLinksKept_98 (Eq.refl 101) (by decide) (B01.r hs0) ?_ ?_
      · exact xg_jump (gX2_areLinksKept_103 hl rc2 x0 h0 x1 h1 hr2 M hM) (xsb_s (xsb_s (xsb_n (xsb_n (xsb_n xsb_0))))) (by decide) (by decide)
      · refine xg_iconst dX2_areLinksKept_101 (Eq.refl 102) ?_
        exact xg_zret rfl dX2_areLinksKept_102 rfl hM (by decide)
  · refine xg_iconst dX2_areLinksKept_101 (Eq.refl 102) ?_
    exact xg_zret rfl dX2_areLinksKept_102 rfl hM (by decide)
theorem gX2_areLinksKept_82 {l : Launch} {G : xG} (hl : l.stackTraces = false) (rc2 : Int → xM → xO) (x0 : Nat) (h0 : xOb 2 x0) (x1 : Int) (h1 : R32 x1) (x2 : Nat) (h2 : xOb 6 x2) (x3 : Int) (h3 : B01 x3) (hr2 : ∀ w1 : Int, R32 w1 → ∀ M : xM, xcan M → Gv l G uX2_areLinksKept 3 1 0 0 2 [some (.ref x0), some (iv w1), none, none, none] [] M (rc2 w1 M)) (M : xM) (hM : xcan M) : Gv l G uX2_areLinksKept 3 1 0 0 82 [some (.ref x0), some (iv x1), some (.ref x2), some (iv x3), none] [] M (fX2_areLinksKept_82 rc2 x0 x1 x2 x3 M) := by
  unfold fX2_areLinksKept_82
  refine xg_iconst dX2_areLinksKept_82 (Eq.refl 83) ?_
  exact xg_jump (gX2_areLinksKept_83 hl rc2 x0 h0 x1 h1 x2 h2 x3 h3 0 (by decide) hr2 M hM) (xsb_s (xsb_s (xsb_s (xsb_s (xsb_n xsb_0))))) (by decide) (by decide)
theorem gX2_areLinksKept_52 {l : Launch} {G : xG} (hl : l.stackTraces = false) (rc2 : Int → xM → xO) (x0 : Nat) (h0 : xOb 2 x0) (x1 : Int) (h1 : R32 x1) (x2 : Nat) (h2 : xOb 6 x2) (s0 : Int) (hs0 : B01 s0) (hr2 : ∀ w1 : Int, R32 w1 → ∀ M : xM, xcan M → Gv l G uX2_areLinksKept 3 1 0 0 2 [some (.ref x0), some (iv w1), none, none, none] [] M (rc2 w1 M)) (M : xM) (hM : xcan M) : Gv l G uX2_areLinksKept 3 1 0 0 52 [some (.ref x0), some (iv x1), some (.ref x2), none, none] [iv s0] M (fX2_areLinksKept_52 rc2 x0 x1 x2 s0 M) := by
  unfold fX2_areLinksKept_52
  refine xg_istore_n (ls2 := [some (.ref x0), some (iv x1), some (.ref x2), some (iv s0), none]) dX2_areLinksKept_52 (Eq.refl 53) (by decide) rfl ?_
  refine xg_aload_n dX2_areLinksKept_53 (Eq.refl 54) rfl ?_
  refine xg_getI (k := 1) xcl6 h2 rfl xq_364 rfl dX2_areLinksKept_54 (Eq.refl 57) ?_
  refine xg_aload_n dX2_areLinksKept_57 (Eq.refl 58) rfl ?_
  refine xg_getI (k := 5) xcl2 h0 rfl xq_293 rfl dX2_areLinksKept_58 (Eq.refl 61) ?_
  refine xg_callS_Z (kc := 0) (ks := 0) (st := []) (mX2_isIn hl (M x2 1) (hM.I h2 rfl) (M x0 5) (hM.I h0 rfl) M hM) bX2_isIn xq_370 rfl (by decide) rfl (by decide) dX2_areLinksKept_61 (Eq.refl 64) rfl (by decide) (by decide) ?_
  intro z1 M2 hz1 hM2
  refine xg_if_eq (tgt := 82) dX2_areLinksKept_64 (Eq.refl 67) (by decide) (B01.r hz1) ?_ ?_
  · exact xg_jump (gX2_areLinksKept_82 hl rc2 x0 h0 x1 h1 x2 h2 s0 hs0 hr2 M2 hM2) (xsb_s (xsb_s (xsb_s (xsb_s (xsb_n xsb_0))))) (by decide) (by decide)
  · refine xg_aload_n dX2_areLinksKept_67 (Eq.refl 68) rfl ?_
    refine xg_aload_n dX2_areLinksKept_68 (Eq.refl 69) rfl ?_
    refine xg_getI (k := 0) xcl6 h2 rfl xq_363 rfl dX2_areLinksKept_69 (Eq.refl 72) ?_
    refine xg_callV_Z (kc := 0) (ks := 0) (st := []) (mX2_isInOrSettled hl x0 h0 (M2 x2 0) (hM2.I h2 rfl) M2 hM2) bX2_isInOrSettled xcl2 h0 rfl xq_373 rfl (by decide) rfl (by decide) dX2_areLinksKept_72 (Eq.refl 75) rfl (by decide) (by decide) ?_
    intro z3 M4 hz3 hM4
    refine xg_if_ne (tgt := 82) dX2_areLinksKept_75 (Eq.refl 78) (by decide) (B01.r hz3) ?_ ?_
    · refine xg_iconst dX2_areLinksKept_78 (Eq.refl 79) ?_
      refine xg_goto (tgt := 83) dX2_areLinksKept_79 (by decide) ?_
      exact xg_jump (gX2_areLinksKept_83 hl rc2 x0 h0 x1 h1 x2 h2 s0 hs0 1 (by decide) hr2 M4 hM4) (xsb_s (xsb_s (xsb_s (xsb_s (xsb_n xsb_0))))) (by decide) (by decide)
    · exact xg_jump (gX2_areLinksKept_82 hl rc2 x0 h0 x1 h1 x2 h2 s0 hs0 hr2 M4 hM4) (xsb_s (xsb_s (xsb_s (xsb_s (xsb_n xsb_0))))) (by decide) (by decide)
theorem gX2_areLinksKept_51 {l : Launch} {G : xG} (hl : l.stackTraces = false) (rc2 : Int → xM → xO) (x0 : Nat) (h0 : xOb 2 x0) (x1 : Int) (h1 : R32 x1) (x2 : Nat) (h2 : xOb 6 x2) (hr2 : ∀ w1 : Int, R32 w1 → ∀ M : xM, xcan M → Gv l G uX2_areLinksKept 3 1 0 0 2 [some (.ref x0), some (iv w1), none, none, none] [] M (rc2 w1 M)) (M : xM) (hM : xcan M) : Gv l G uX2_areLinksKept 3 1 0 0 51 [some (.ref x0), some (iv x1), some (.ref x2), none, none] [] M (fX2_areLinksKept_51 rc2 x0 x1 x2 M) := by
  unfold fX2_areLinksKept_51
  refine xg_iconst dX2_areLinksKept_51 (Eq.refl 52) ?_
  exact xg_jump (gX2_areLinksKept_52 hl rc2 x0 h0 x1 h1 x2 h2 0 (by decide) hr2 M hM) (xsb_s (xsb_s (xsb_s (xsb_n (xsb_n xsb_0))))) (by decide) (by decide)
theorem gX2_areLinksKept_2 {l : Launch} {G : xG} (hl : l.stackTraces = false) (x0 : Nat) (h0 : xOb 2 x0) : ∀ (n : Nat) (x1 : Int) (_ : R32 x1) (M : xM) (_ : xcan M), Gv l G uX2_areLinksKept 3 1 0 0 2 [some (.ref x0), some (iv x1), none, none, none] [] M (fX2_areLinksKept_2 x0 n x1 M) := by
  intro n; induction n with
  | zero => intro x1 h1 M hM; exact xg_none
  | succ n ih =>
    intro x1 h1 M hM
    rw [fX2_areLinksKept_2]
    refine xg_iload_n dX2_areLinksKept_2 (Eq.refl 3) rfl ?_
    refine xg_aload_n dX2_areLinksKept_3 (Eq.refl 4) rfl ?_
    refine xg_getR (k := 0) xcl2 h0 rfl xq_109 rfl (xt_2_0 h0).1 dX2_areLinksKept_4 (Eq.refl 7) ?_
    refine xg_getI (k := 13) xcl1 (xt_2_0 h0).2 rfl xq_362 rfl dX2_areLinksKept_7 (Eq.refl 10) ?_
    refine xg_icmp_ge (tgt := 109) dX2_areLinksKept_10 (Eq.refl 13) (by decide) h1 (hM.I (xt_2_0 h0).2 rfl) ?_ ?_
    · refine xg_iconst dX2_areLinksKept_109 (Eq.refl 110) ?_
      exact xg_zret rfl dX2_areLinksKept_110 rfl hM (by decide)
    · refine xg_aload_n dX2_areLinksKept_13 (Eq.refl 14) rfl ?_
      refine xg_getR (k := 0) xcl2 h0 rfl xq_109 rfl (xt_2_0 h0).1 dX2_areLinksKept_14 (Eq.refl 17) ?_
      refine xg_iload_n dX2_areLinksKept_17 (Eq.refl 18) rfl ?_
      refine xg_callV_R (cr := 6) (kc := 0) (ks := 0) (st := []) (mX1_linkAt hl (xr x0 0) (xt_2_0 h0).2 x1 h1 M hM) bX1_linkAt xcl1 (xt_2_0 h0).2 rfl xq_366 rfl (by decide) rfl (by decide) dX2_areLinksKept_18 (Eq.refl 21) rfl (by decide) (by decide) ?_
      intro z1 M2 hz1 hM2
      refine xg_astore_n (ls2 := [some (.ref x0), some (iv x1), some (.ref z1.toNat), none, none]) dX2_areLinksKept_21 (Eq.refl 22) (by decide) rfl ?_
      refine xg_aload_n dX2_areLinksKept_22 (Eq.refl 23) rfl ?_
      refine xg_getI (k := 0) xcl6 hz1 rfl xq_363 rfl dX2_areLinksKept_23 (Eq.refl 26) ?_
      refine xg_aload_n dX2_areLinksKept_26 (Eq.refl 27) rfl ?_
      refine xg_getI (k := 5) xcl2 h0 rfl xq_293 rfl dX2_areLinksKept_27 (Eq.refl 30) ?_
      refine xg_callS_Z (kc := 0) (ks := 0) (st := []) (mX2_isIn hl (M2 z1.toNat 0) (hM2.I hz1 rfl) (M2 x0 5) (hM2.I h0 rfl) M2 hM2) bX2_isIn xq_370 rfl (by decide) rfl (by decide) dX2_areLinksKept_30 (Eq.refl 33) rfl (by decide) (by decide) ?_
      intro z3 M4 hz3 hM4
      refine xg_if_eq (tgt := 51) dX2_areLinksKept_33 (Eq.refl 36) (by decide) (B01.r hz3) ?_ ?_
      · exact xg_jump (gX2_areLinksKept_51 hl (fX2_areLinksKept_2 x0 n) x0 h0 x1 h1 z1.toNat hz1 ih M4 hM4) (xsb_s (xsb_s (xsb_s (xsb_n (xsb_n xsb_0))))) (by decide) (by decide)
      · refine xg_aload_n dX2_areLinksKept_36 (Eq.refl 37) rfl ?_
        refine xg_aload_n dX2_areLinksKept_37 (Eq.refl 38) rfl ?_
        refine xg_getI (k := 1) xcl6 hz1 rfl xq_364 rfl dX2_areLinksKept_38 (Eq.refl 41) ?_
        refine xg_callV_Z (kc := 0) (ks := 0) (st := []) (mX2_isInOrSettled hl x0 h0 (M4 z1.toNat 1) (hM4.I hz1 rfl) M4 hM4) bX2_isInOrSettled xcl2 h0 rfl xq_373 rfl (by decide) rfl (by decide) dX2_areLinksKept_41 (Eq.refl 44) rfl (by decide) (by decide) ?_
        intro z5 M6 hz5 hM6
        refine xg_if_ne (tgt := 51) dX2_areLinksKept_44 (Eq.refl 47) (by decide) (B01.r hz5) ?_ ?_
        · refine xg_iconst dX2_areLinksKept_47 (Eq.refl 48) ?_
          refine xg_goto (tgt := 52) dX2_areLinksKept_48 (by decide) ?_
          exact xg_jump (gX2_areLinksKept_52 hl (fX2_areLinksKept_2 x0 n) x0 h0 x1 h1 z1.toNat hz1 1 (by decide) ih M6 hM6) (xsb_s (xsb_s (xsb_s (xsb_n (xsb_n xsb_0))))) (by decide) (by decide)
        · exact xg_jump (gX2_areLinksKept_51 hl (fX2_areLinksKept_2 x0 n) x0 h0 x1 h1 z1.toNat hz1 ih M6 hM6) (xsb_s (xsb_s (xsb_s (xsb_n (xsb_n xsb_0))))) (by decide) (by decide)
theorem mX2_areLinksKept {l : Launch} {G : xG} (hl : l.stackTraces = false) (x0 : Nat) (h0 : xOb 2 x0) (M : xM) (hM : xcan M) : Cm l G yX2_areLinksKept cX2_areLinksKept 5 (some .boolean) 3 1 0 0 [.ref x0] M (fX2_areLinksKept x0 M) := by
  refine xcm_of (u := uX2_areLinksKept) (ls := [some (.ref x0), none, none, none, none]) 4 hl rfl (by decide +kernel) (Nat.le_of_ble_eq_true rfl) rfl ?_
  unfold fX2_areLinksKept
  refine xg_iconst dX2_areLinksKept_0 (Eq.refl 1) ?_
  refine xg_istore_n (ls2 := [some (.ref x0), some (iv 0), none, none, none]) dX2_areLinksKept_1 (Eq.refl 2) (by decide) rfl ?_
  exact xg_jump (gX2_areLinksKept_2 hl x0 h0 xN 0 (by decide) M hM) (xsb_s (xsb_s (xsb_n (xsb_n (xsb_n xsb_0))))) (by decide) (by decide)
abbrev uX2_areAllFirm : xU := (RX2, cX2_areAllFirm, 3, (some .boolean), [], "areAllFirm")
theorem bX2_areAllFirm : xYV yX2_areAllFirm cX2_areAllFirm 3 (some .boolean) 0 := ⟨xq_379, xq_380, xq_22, xq_381, ⟨by decide +kernel, by decide +kernel, by decide +kernel⟩, by decide⟩
theorem gX2_areAllFirm_60 {l : Launch} {G : xG} (hl : l.stackTraces = false) (rc2 : Int → xM → xO) (x0 : Nat) (h0 : xOb 2 x0) (x1 : Int) (h1 : R32 x1) (hr2 : ∀ w1 : Int, R32 w1 → ∀ M : xM, xcan M → Gv l G uX2_areAllFirm 4 1 0 0 2 [some (.ref x0), some (iv w1), none] [] M (rc2 w1 M)) (M : xM) (hM : xcan M) : Gv l G uX2_areAllFirm 4 1 0 0 60 [some (.ref x0), some (iv x1), none] [] M (fX2_areAllFirm_60 rc2 x0 x1 M) := by
  unfold fX2_areAllFirm_60
  refine xg_iinc (ls2 := [some (.ref x0), some (iv (w32 (x1 + 1))), none]) dX2_areAllFirm_60 (Eq.refl 63) rfl (by decide) rfl ?_
  refine xg_goto (tgt := 2) dX2_areAllFirm_63 (by decide) ?_
  exact xg_jump (hr2 (w32 (x1 + 1)) (w32_r _) M hM) (xsb_s (xsb_s (xsb_n xsb_0))) (by decide) (by decide)
theorem gX2_areAllFirm_2 {l : Launch} {G : xG} (hl : l.stackTraces = false) (x0 : Nat) (h0 : xOb 2 x0) : ∀ (n : Nat) (x1 : Int) (_ : R32 x1) (M : xM) (_ : xcan M), Gv l G uX2_areAllFirm 4 1 0 0 2 [some (.ref x0), some (iv x1), none] [] M (fX2_areAllFirm_2 x0 n x1 M) := by
  intro n; induction n with
  | zero => intro x1 h1 M hM; exact xg_none
  | succ n ih =>
    intro x1 h1 M hM
    rw [fX2_areAllFirm_2]
    refine xg_iload_n dX2_areAllFirm_2 (Eq.refl 3) rfl ?_
    refine xg_aload_n dX2_areAllFirm_3 (Eq.refl 4) rfl ?_
    refine xg_getI (k := 4) xcl2 h0 rfl xq_298 rfl dX2_areAllFirm_4 (Eq.refl 7) ?_
    refine xg_icmp_ge (tgt := 66) dX2_areAllFirm_7 (Eq.refl 10) (by decide) h1 (hM.I h0 rfl) ?_ ?_
    · refine xg_iconst dX2_areAllFirm_66 (Eq.refl 67) ?_
      exact xg_zret rfl dX2_areAllFirm_67 rfl hM (by decide)
    · refine xg_aload_n dX2_areAllFirm_10 (Eq.refl 11) rfl ?_
      refine xg_iload_n dX2_areAllFirm_11 (Eq.refl 12) rfl ?_
      refine xg_callV_R (cr := 10) (kc := 0) (ks := 0) (st := []) (mX2_candidate hl x0 h0 x1 h1 M hM) bX2_candidate xcl2 h0 rfl xq_329 rfl (by decide) rfl (by decide) dX2_areAllFirm_12 (Eq.refl 15) rfl (by decide) (by decide) ?_
      intro z1 M2 hz1 hM2
      refine xg_astore_n (ls2 := [some (.ref x0), some (iv x1), some (.ref z1.toNat)]) dX2_areAllFirm_15 (Eq.refl 16) (by decide) rfl ?_
      refine xg_aload_n dX2_areAllFirm_16 (Eq.refl 17) rfl ?_
      refine xg_getI (k := 0) xcl10 hz1 rfl xq_328 rfl dX2_areAllFirm_17 (Eq.refl 20) ?_
      refine xg_aload_n dX2_areAllFirm_20 (Eq.refl 21) rfl ?_
      refine xg_getI (k := 5) xcl2 h0 rfl xq_293 rfl dX2_areAllFirm_21 (Eq.refl 24) ?_
      refine xg_callS_Z (kc := 0) (ks := 0) (st := []) (mX2_isIn hl (M2 z1.toNat 0) (hM2.I hz1 rfl) (M2 x0 5) (hM2.I h0 rfl) M2 hM2) bX2_isIn xq_370 rfl (by decide) rfl (by decide) dX2_areAllFirm_24 (Eq.refl 27) rfl (by decide) (by decide) ?_
      intro z3 M4 hz3 hM4
      refine xg_if_eq (tgt := 60) dX2_areAllFirm_27 (Eq.refl 30) (by decide) (B01.r hz3) ?_ ?_
      · exact xg_jump (gX2_areAllFirm_60 hl (fX2_areAllFirm_2 x0 n) x0 h0 x1 h1 ih M4 hM4) (xsb_s (xsb_s (xsb_n xsb_0))) (by decide) (by decide)
      · refine xg_aload_n dX2_areAllFirm_30 (Eq.refl 31) rfl ?_
        refine xg_getR (k := 0) xcl2 h0 rfl xq_109 rfl (xt_2_0 h0).1 dX2_areAllFirm_31 (Eq.refl 34) ?_
        refine xg_aload_n dX2_areAllFirm_34 (Eq.refl 35) rfl ?_
        refine xg_getI (k := 3) xcl10 hz1 rfl xq_382 rfl dX2_areAllFirm_35 (Eq.refl 38) ?_
        refine xg_callV_Z (kc := 0) (ks := 0) (st := []) (mX1_isFirm hl (xr x0 0) (xt_2_0 h0).2 (M4 z1.toNat 3) (hM4.I hz1 rfl) M4 hM4) bX1_isFirm xcl1 (xt_2_0 h0).2 rfl xq_384 rfl (by decide) rfl (by decide) dX2_areAllFirm_38 (Eq.refl 41) rfl (by decide) (by decide) ?_
        intro z5 M6 hz5 hM6
        refine xg_if_eq (tgt := 58) dX2_areAllFirm_41 (Eq.refl 44) (by decide) (B01.r hz5) ?_ ?_
        · refine xg_iconst dX2_areAllFirm_58 (Eq.refl 59) ?_
          exact xg_zret rfl dX2_areAllFirm_59 rfl hM6 (by decide)
        · refine xg_aload_n dX2_areAllFirm_44 (Eq.refl 45) rfl ?_
          refine xg_getR (k := 0) xcl2 h0 rfl xq_109 rfl (xt_2_0 h0).1 dX2_areAllFirm_45 (Eq.refl 48) ?_
          refine xg_aload_n dX2_areAllFirm_48 (Eq.refl 49) rfl ?_
          refine xg_getI (k := 4) xcl10 hz1 rfl xq_383 rfl dX2_areAllFirm_49 (Eq.refl 52) ?_
          refine xg_callV_Z (kc := 0) (ks := 0) (st := []) (mX1_isFirm hl (xr x0 0) (xt_2_0 h0).2 (M6 z1.toNat 4) (hM6.I hz1 rfl) M6 hM6) bX1_isFirm xcl1 (xt_2_0 h0).2 rfl xq_384 rfl (by decide) rfl (by decide) dX2_areAllFirm_52 (Eq.refl 55) rfl (by decide) (by decide) ?_
          intro z7 M8 hz7 hM8
          refine xg_if_ne (tgt := 60) dX2_areAllFirm_55 (Eq.refl 58) (by decide) (B01.r hz7) ?_ ?_
          · refine xg_iconst dX2_areAllFirm_58 (Eq.refl 59) ?_
            exact xg_zret rfl dX2_areAllFirm_59 rfl hM8 (by decide)
          · exact xg_jump (gX2_areAllFirm_60 hl (fX2_areAllFirm_2 x0 n) x0 h0 x1 h1 ih M8 hM8) (xsb_s (xsb_s (xsb_n xsb_0))) (by decide) (by decide)
theorem mX2_areAllFirm {l : Launch} {G : xG} (hl : l.stackTraces = false) (x0 : Nat) (h0 : xOb 2 x0) (M : xM) (hM : xcan M) : Cm l G yX2_areAllFirm cX2_areAllFirm 3 (some .boolean) 4 1 0 0 [.ref x0] M (fX2_areAllFirm x0 M) := by
  refine xcm_of (u := uX2_areAllFirm) (ls := [some (.ref x0), none, none]) 2 hl rfl (by decide +kernel) (Nat.le_of_ble_eq_true rfl) rfl ?_
  unfold fX2_areAllFirm
  refine xg_iconst dX2_areAllFirm_0 (Eq.refl 1) ?_
  refine xg_istore_n (ls2 := [some (.ref x0), some (iv 0), none]) dX2_areAllFirm_1 (Eq.refl 2) (by decide) rfl ?_
  exact xg_jump (gX2_areAllFirm_2 hl x0 h0 xN 0 (by decide) M hM) (xsb_s (xsb_s (xsb_n xsb_0))) (by decide) (by decide)
abbrev uX2_weigh : xU := (RX2, cX2_weigh, 2, none, [], "weigh")
theorem bX2_weigh : xYV yX2_weigh cX2_weigh 2 none 0 := ⟨xq_355, xq_356, xq_22, xq_357, ⟨by decide +kernel, by decide +kernel, by decide +kernel⟩, by decide⟩
theorem gX2_weigh_40 {l : Launch} {G : xG} (hl : l.stackTraces = false) (x0 : Nat) (h0 : xOb 2 x0) (s0 : Int) (hs0 : B01 s0) (M : xM) (hM : xcan M) : Gv l G uX2_weigh 5 3 0 0 40 [some (.ref x0), none] [iv s0] M (fX2_weigh_40 x0 s0 M) := by
  unfold fX2_weigh_40
  refine xg_istore_n (ls2 := [some (.ref x0), some (iv s0)]) dX2_weigh_40 (Eq.refl 41) (by decide) rfl ?_
  refine xg_iload_n dX2_weigh_41 (Eq.refl 42) rfl ?_
  refine xg_if_eq (tgt := 83) dX2_weigh_42 (Eq.refl 45) (by decide) (B01.r hs0) ?_ ?_
  · exact xg_vret rfl dX2_weigh_83 rfl hM
  · refine xg_aload_n dX2_weigh_45 (Eq.refl 46) rfl ?_
    refine xg_callV_Z (kc := 0) (ks := 0) (st := []) (mX2_areLinksKept hl x0 h0 M hM) bX2_areLinksKept xcl2 h0 rfl xq_358 rfl (by decide) rfl (by decide) dX2_weigh_46 (Eq.refl 49) rfl (by decide) (by decide) ?_
    intro z1 M2 hz1 hM2
    refine xg_if_eq (tgt := 83) dX2_weigh_49 (Eq.refl 52) (by decide) (B01.r hz1) ?_ ?_
    · exact xg_vret rfl dX2_weigh_83 rfl hM2
    · refine xg_aload_n dX2_weigh_52 (Eq.refl 53) rfl ?_
      refine xg_callV_Z (kc := 0) (ks := 0) (st := []) (mX2_areAllFirm hl x0 h0 M2 hM2) bX2_areAllFirm xcl2 h0 rfl xq_378 rfl (by decide) rfl (by decide) dX2_weigh_53 (Eq.refl 56) rfl (by decide) (by decide) ?_
      intro z3 M4 hz3 hM4
      refine xg_if_eq (tgt := 83) dX2_weigh_56 (Eq.refl 59) (by decide) (B01.r hz3) ?_ ?_
      · exact xg_vret rfl dX2_weigh_83 rfl hM4
      · refine xg_aload_n dX2_weigh_59 (Eq.refl 60) rfl ?_
        refine xg_aload_n dX2_weigh_60 (Eq.refl 61) rfl ?_
        refine xg_getI (k := 5) xcl2 h0 rfl xq_293 rfl dX2_weigh_61 (Eq.refl 64) ?_
        refine xg_putI (k := 8) xcl2 h0 rfl xq_296 rfl (by decide +kernel) dX2_weigh_64 (Eq.refl 67) rfl hM4 (hM4.I h0 rfl) ?_
        intro M5 hM5
        refine xg_aload_n dX2_weigh_67 (Eq.refl 68) rfl ?_
        refine xg_aload_n dX2_weigh_68 (Eq.refl 69) rfl ?_
        refine xg_getI (k := 6) xcl2 h0 rfl xq_294 rfl dX2_weigh_69 (Eq.refl 72) ?_
        refine xg_putI (k := 9) xcl2 h0 rfl xq_297 rfl (by decide +kernel) dX2_weigh_72 (Eq.refl 75) rfl hM5 (hM5.I h0 rfl) ?_
        intro M6 hM6
        refine xg_aload_n dX2_weigh_75 (Eq.refl 76) rfl ?_
        refine xg_aload_n dX2_weigh_76 (Eq.refl 77) rfl ?_
        refine xg_getJ (k := 7) xcl2 h0 rfl xq_295 rfl dX2_weigh_77 (Eq.refl 80) ?_
        refine xg_putJ (k := 10) xcl2 h0 rfl xq_288 rfl (by decide +kernel) dX2_weigh_80 (Eq.refl 83) rfl hM6 (hM6.J h0 rfl) ?_
        intro M7 hM7
        exact xg_vret rfl dX2_weigh_83 rfl hM7
theorem gX2_weigh_39 {l : Launch} {G : xG} (hl : l.stackTraces = false) (x0 : Nat) (h0 : xOb 2 x0) (M : xM) (hM : xcan M) : Gv l G uX2_weigh 5 3 0 0 39 [some (.ref x0), none] [] M (fX2_weigh_39 x0 M) := by
  unfold fX2_weigh_39
  refine xg_iconst dX2_weigh_39 (Eq.refl 40) ?_
  exact xg_jump (gX2_weigh_40 hl x0 h0 0 (by decide) M hM) (xsb_s (xsb_n xsb_0)) (by decide) (by decide)
theorem gX2_weigh_35 {l : Launch} {G : xG} (hl : l.stackTraces = false) (x0 : Nat) (h0 : xOb 2 x0) (M : xM) (hM : xcan M) : Gv l G uX2_weigh 5 3 0 0 35 [some (.ref x0), none] [] M (fX2_weigh_35 x0 M) := by
  unfold fX2_weigh_35
  refine xg_iconst dX2_weigh_35 (Eq.refl 36) ?_
  refine xg_goto (tgt := 40) dX2_weigh_36 (by decide) ?_
  exact xg_jump (gX2_weigh_40 hl x0 h0 1 (by decide) M hM) (xsb_s (xsb_n xsb_0)) (by decide) (by decide)
theorem mX2_weigh {l : Launch} {G : xG} (hl : l.stackTraces = false) (x0 : Nat) (h0 : xOb 2 x0) (M : xM) (hM : xcan M) : Cm l G yX2_weigh cX2_weigh 2 none 5 3 0 0 [.ref x0] M (fX2_weigh x0 M) := by
  refine xcm_of (u := uX2_weigh) (ls := [some (.ref x0), none]) 1 hl rfl (by decide +kernel) (Nat.le_of_ble_eq_true rfl) rfl ?_
  unfold fX2_weigh
  refine xg_aload_n dX2_weigh_0 (Eq.refl 1) rfl ?_
  refine xg_getJ (k := 7) xcl2 h0 rfl xq_295 rfl dX2_weigh_1 (Eq.refl 4) ?_
  refine xg_aload_n dX2_weigh_4 (Eq.refl 5) rfl ?_
  refine xg_getJ (k := 10) xcl2 h0 rfl xq_288 rfl dX2_weigh_5 (Eq.refl 8) ?_
  refine xg_lif_gt (tgt := 35) dX2_weigh_8 (Eq.refl 9) dX2_weigh_9 (Eq.refl 12) (by decide) (hM.J h0 rfl) (hM.J h0 rfl) ?_ ?_
  · exact xg_jump (gX2_weigh_35 hl x0 h0 M hM) (xsb_s (xsb_n xsb_0)) (by decide) (by decide)
  · refine xg_aload_n dX2_weigh_12 (Eq.refl 13) rfl ?_
    refine xg_getJ (k := 7) xcl2 h0 rfl xq_295 rfl dX2_weigh_13 (Eq.refl 16) ?_
    refine xg_aload_n dX2_weigh_16 (Eq.refl 17) rfl ?_
    refine xg_getJ (k := 10) xcl2 h0 rfl xq_288 rfl dX2_weigh_17 (Eq.refl 20) ?_
    refine xg_lif_ne (tgt := 39) dX2_weigh_20 (Eq.refl 21) dX2_weigh_21 (Eq.refl 24) (by decide) (hM.J h0 rfl) (hM.J h0 rfl) ?_ ?_
    · refine xg_aload_n dX2_weigh_24 (Eq.refl 25) rfl ?_
      refine xg_getI (k := 6) xcl2 h0 rfl xq_294 rfl dX2_weigh_25 (Eq.refl 28) ?_
      refine xg_aload_n dX2_weigh_28 (Eq.refl 29) rfl ?_
      refine xg_getI (k := 9) xcl2 h0 rfl xq_297 rfl dX2_weigh_29 (Eq.refl 32) ?_
      refine xg_icmp_le (tgt := 39) dX2_weigh_32 (Eq.refl 35) (by decide) (hM.I h0 rfl) (hM.I h0 rfl) ?_ ?_
      · exact xg_jump (gX2_weigh_39 hl x0 h0 M hM) (xsb_s (xsb_n xsb_0)) (by decide) (by decide)
      · exact xg_jump (gX2_weigh_35 hl x0 h0 M hM) (xsb_s (xsb_n xsb_0)) (by decide) (by decide)
    · exact xg_jump (gX2_weigh_39 hl x0 h0 M hM) (xsb_s (xsb_n xsb_0)) (by decide) (by decide)
abbrev uX2_putIn : xU := (RX2, cX2_putIn, 2, none, [], "putIn")
theorem bX2_putIn : xYV yX2_putIn cX2_putIn 2 none 1 := ⟨xq_404, xq_405, xq_22, xq_406, ⟨by decide +kernel, by decide +kernel, by decide +kernel⟩, by decide⟩
theorem mX2_putIn {l : Launch} {G : xG} (hl : l.stackTraces = false) (x0 : Nat) (h0 : xOb 2 x0) (x1 : Nat) (h1 : xOb 10 x1) (M : xM) (hM : xcan M) : Cm l G yX2_putIn cX2_putIn 2 none 4 3 0 0 [.ref x0, .ref x1] M (fX2_putIn x0 x1 M) := by
  refine xcm_of (u := uX2_putIn) (ls := [some (.ref x0), some (.ref x1)]) 0 hl rfl (by decide +kernel) (Nat.le_of_ble_eq_true rfl) rfl ?_
  unfold fX2_putIn
  refine xg_aload_n dX2_putIn_0 (Eq.refl 1) rfl ?_
  refine xg_getR (k := 0) xcl2 h0 rfl xq_109 rfl (xt_2_0 h0).1 dX2_putIn_1 (Eq.refl 4) ?_
  refine xg_aload_n dX2_putIn_4 (Eq.refl 5) rfl ?_
  refine xg_aload_n dX2_putIn_5 (Eq.refl 6) rfl ?_
  refine xg_getJ (k := 6) xcl10 h1 rfl xq_344 rfl dX2_putIn_6 (Eq.refl 9) ?_
  refine xg_aload_n dX2_putIn_9 (Eq.refl 10) rfl ?_
  refine xg_getJ (k := 7) xcl10 h1 rfl xq_342 rfl dX2_putIn_10 (Eq.refl 13) ?_
  refine xg_callV_N (kc := 0) (ks := 0) (st := []) (mX1_shift hl (xr x0 0) (xt_2_0 h0).2 x1 h1 (M x1 6) (hM.J h1 rfl) (M x1 7) (hM.J h1 rfl) M hM) bX1_shift xcl1 (xt_2_0 h0).2 rfl xq_407 rfl (by decide) rfl (by decide) dX2_putIn_13 (Eq.refl 16) rfl (by decide) (by decide) ?_
  intro z1 M2 hz1 hM2
  refine xg_aload_n dX2_putIn_16 (Eq.refl 17) rfl ?_
  refine xg_dup dX2_putIn_17 (Eq.refl 18) rfl ?_
  refine xg_getI (k := 5) xcl2 h0 rfl xq_293 rfl dX2_putIn_18 (Eq.refl 21) ?_
  refine xg_iconst dX2_putIn_21 (Eq.refl 22) ?_
  refine xg_aload_n dX2_putIn_22 (Eq.refl 23) rfl ?_
  refine xg_getI (k := 0) xcl10 h1 rfl xq_328 rfl dX2_putIn_23 (Eq.refl 26) ?_
  refine xg_ishl dX2_putIn_26 (Eq.refl 27) ?_
  refine xg_ior dX2_putIn_27 (Eq.refl 28) ?_
  refine xg_putI (k := 5) xcl2 h0 rfl xq_293 rfl (by decide +kernel) dX2_putIn_28 (Eq.refl 31) rfl hM2 (xor32_r _ _) ?_
  intro M3 hM3
  refine xg_aload_n dX2_putIn_31 (Eq.refl 32) rfl ?_
  refine xg_dup dX2_putIn_32 (Eq.refl 33) rfl ?_
  refine xg_getI (k := 6) xcl2 h0 rfl xq_294 rfl dX2_putIn_33 (Eq.refl 36) ?_
  refine xg_iconst dX2_putIn_36 (Eq.refl 37) ?_
  refine xg_iadd dX2_putIn_37 (Eq.refl 38) ?_
  refine xg_putI (k := 6) xcl2 h0 rfl xq_294 rfl (by decide +kernel) dX2_putIn_38 (Eq.refl 41) rfl hM3 (w32_r _) ?_
  intro M4 hM4
  refine xg_aload_n dX2_putIn_41 (Eq.refl 42) rfl ?_
  refine xg_dup dX2_putIn_42 (Eq.refl 43) rfl ?_
  refine xg_getJ (k := 7) xcl2 h0 rfl xq_295 rfl dX2_putIn_43 (Eq.refl 46) ?_
  refine xg_aload_n dX2_putIn_46 (Eq.refl 47) rfl ?_
  refine xg_aload_n dX2_putIn_47 (Eq.refl 48) rfl ?_
  refine xg_callV_J (kc := 0) (ks := 0) (st := [jv (M4 x0 7), .ref x0]) (mX2_worthOf hl x0 h0 x1 h1 M4 hM4) bX2_worthOf xcl2 h0 rfl xq_338 rfl (by decide) rfl (Nat.le_of_ble_eq_true rfl) dX2_putIn_48 (Eq.refl 51) rfl (by decide) (by decide) ?_
  intro z5 M6 hz5 hM6
  refine xg_ladd dX2_putIn_51 (Eq.refl 52) ?_
  refine xg_putJ (k := 7) xcl2 h0 rfl xq_295 rfl (by decide +kernel) dX2_putIn_52 (Eq.refl 55) rfl hM6 (w64_r _) ?_
  intro M7 hM7
  exact xg_vret rfl dX2_putIn_55 rfl hM7
abbrev uX2_takeOut : xU := (RX2, cX2_takeOut, 2, none, [], "takeOut")
theorem bX2_takeOut : xYV yX2_takeOut cX2_takeOut 2 none 1 := ⟨xq_421, xq_422, xq_22, xq_423, ⟨by decide +kernel, by decide +kernel, by decide +kernel⟩, by decide⟩
theorem mX2_takeOut {l : Launch} {G : xG} (hl : l.stackTraces = false) (x0 : Nat) (h0 : xOb 2 x0) (x1 : Nat) (h1 : xOb 10 x1) (M : xM) (hM : xcan M) : Cm l G yX2_takeOut cX2_takeOut 2 none 4 3 0 0 [.ref x0, .ref x1] M (fX2_takeOut x0 x1 M) := by
  refine xcm_of (u := uX2_takeOut) (ls := [some (.ref x0), some (.ref x1)]) 0 hl rfl (by decide +kernel) (Nat.le_of_ble_eq_true rfl) rfl ?_
  unfold fX2_takeOut
  refine xg_aload_n dX2_takeOut_0 (Eq.refl 1) rfl ?_
  refine xg_getR (k := 0) xcl2 h0 rfl xq_109 rfl (xt_2_0 h0).1 dX2_takeOut_1 (Eq.refl 4) ?_
  refine xg_aload_n dX2_takeOut_4 (Eq.refl 5) rfl ?_
  refine xg_aload_n dX2_takeOut_5 (Eq.refl 6) rfl ?_
  refine xg_getJ (k := 6) xcl10 h1 rfl xq_344 rfl dX2_takeOut_6 (Eq.refl 9) ?_
  refine xg_lneg dX2_takeOut_9 (Eq.refl 10) ?_
  refine xg_aload_n dX2_takeOut_10 (Eq.refl 11) rfl ?_
  refine xg_getJ (k := 7) xcl10 h1 rfl xq_342 rfl dX2_takeOut_11 (Eq.refl 14) ?_
  refine xg_lneg dX2_takeOut_14 (Eq.refl 15) ?_
  refine xg_callV_N (kc := 0) (ks := 0) (st := []) (mX1_shift hl (xr x0 0) (xt_2_0 h0).2 x1 h1 (w64 (-(M x1 6))) (w64_r _) (w64 (-(M x1 7))) (w64_r _) M hM) bX1_shift xcl1 (xt_2_0 h0).2 rfl xq_407 rfl (by decide) rfl (by decide) dX2_takeOut_15 (Eq.refl 18) rfl (by decide) (by decide) ?_
  intro z1 M2 hz1 hM2
  refine xg_aload_n dX2_takeOut_18 (Eq.refl 19) rfl ?_
  refine xg_dup dX2_takeOut_19 (Eq.refl 20) rfl ?_
  refine xg_getI (k := 5) xcl2 h0 rfl xq_293 rfl dX2_takeOut_20 (Eq.refl 23) ?_
  refine xg_iconst dX2_takeOut_23 (Eq.refl 24) ?_
  refine xg_aload_n dX2_takeOut_24 (Eq.refl 25) rfl ?_
  refine xg_getI (k := 0) xcl10 h1 rfl xq_328 rfl dX2_takeOut_25 (Eq.refl 28) ?_
  refine xg_ishl dX2_takeOut_28 (Eq.refl 29) ?_
  refine xg_iconst dX2_takeOut_29 (Eq.refl 30) ?_
  refine xg_ixor dX2_takeOut_30 (Eq.refl 31) ?_
  refine xg_iand dX2_takeOut_31 (Eq.refl 32) ?_
  refine xg_putI (k := 5) xcl2 h0 rfl xq_293 rfl (by decide +kernel) dX2_takeOut_32 (Eq.refl 35) rfl hM2 (xand_r _ _) ?_
  intro M3 hM3
  refine xg_aload_n dX2_takeOut_35 (Eq.refl 36) rfl ?_
  refine xg_dup dX2_takeOut_36 (Eq.refl 37) rfl ?_
  refine xg_getI (k := 6) xcl2 h0 rfl xq_294 rfl dX2_takeOut_37 (Eq.refl 40) ?_
  refine xg_iconst dX2_takeOut_40 (Eq.refl 41) ?_
  refine xg_isub dX2_takeOut_41 (Eq.refl 42) ?_
  refine xg_putI (k := 6) xcl2 h0 rfl xq_294 rfl (by decide +kernel) dX2_takeOut_42 (Eq.refl 45) rfl hM3 (w32_r _) ?_
  intro M4 hM4
  refine xg_aload_n dX2_takeOut_45 (Eq.refl 46) rfl ?_
  refine xg_dup dX2_takeOut_46 (Eq.refl 47) rfl ?_
  refine xg_getJ (k := 7) xcl2 h0 rfl xq_295 rfl dX2_takeOut_47 (Eq.refl 50) ?_
  refine xg_aload_n dX2_takeOut_50 (Eq.refl 51) rfl ?_
  refine xg_aload_n dX2_takeOut_51 (Eq.refl 52) rfl ?_
  refine xg_callV_J (kc := 0) (ks := 0) (st := [jv (M4 x0 7), .ref x0]) (mX2_worthOf hl x0 h0 x1 h1 M4 hM4) bX2_worthOf xcl2 h0 rfl xq_338 rfl (by decide) rfl (Nat.le_of_ble_eq_true rfl) dX2_takeOut_52 (Eq.refl 55) rfl (by decide) (by decide) ?_
  intro z5 M6 hz5 hM6
  refine xg_lsub dX2_takeOut_55 (Eq.refl 56) ?_
  refine xg_putJ (k := 7) xcl2 h0 rfl xq_295 rfl (by decide +kernel) dX2_takeOut_56 (Eq.refl 59) rfl hM6 (w64_r _) ?_
  intro M7 hM7
  exact xg_vret rfl dX2_takeOut_59 rfl hM7
abbrev uX2_choose : xU := (RX2, cX2_choose, 3, none, [], "choose")
theorem bX2_choose : xYS yX2_choose cX2_choose 3 none 2 := ⟨xq_352, xq_22, xq_353, ⟨by decide +kernel, by decide +kernel, by decide +kernel⟩, by decide⟩
theorem mX2_choose {l : Launch} {G : xG} (hl : l.stackTraces = false) : ∀ (n : Nat) (x0 : Nat) (_ : xOb 2 x0) (x1 : Int) (_ : R32 x1) (M : xM) (_ : xcan M), Cm l G yX2_choose cX2_choose 3 none (6 + n) 3 0 0 [.ref x0, iv x1] M (fX2_choose n x0 x1 M) := by
  intro n; induction n with
  | zero => intro x0 h0 x1 h1 M hM r hr; cases hr
  | succ n ih =>
    intro x0 h0 x1 h1 M hM
    refine xcm_of (u := uX2_choose) (ls := [some (.ref x0), some (iv x1), none]) 1 hl rfl (by decide +kernel) (Nat.le_of_ble_eq_true rfl) rfl ?_
    rw [fX2_choose]
    refine xg_iload_n dX2_choose_0 (Eq.refl 1) rfl ?_
    refine xg_aload_n dX2_choose_1 (Eq.refl 2) rfl ?_
    refine xg_getR (k := 2) xcl2 h0 rfl xq_107 rfl (xt_2_2 h0).1 dX2_choose_2 (Eq.refl 5) ?_
    refine xg_alen (z := 11) (xt_2_2 h0).2 (by decide) dX2_choose_5 (Eq.refl 6) rfl ?_
    refine xg_icmp_ge (tgt := 13) dX2_choose_6 (Eq.refl 9) (by decide) h1 (by decide) ?_ ?_
    · exact xg_vret rfl dX2_choose_13 rfl hM
    · refine xg_iload_n dX2_choose_9 (Eq.refl 10) rfl ?_
      refine xg_if_ge (tgt := 14) dX2_choose_10 (Eq.refl 13) (by decide) h1 ?_ ?_
      · refine xg_aload_n dX2_choose_14 (Eq.refl 15) rfl ?_
        refine xg_getJ (k := 7) xcl2 h0 rfl xq_295 rfl dX2_choose_15 (Eq.refl 18) ?_
        refine xg_aload_n dX2_choose_18 (Eq.refl 19) rfl ?_
        refine xg_getR (k := 2) xcl2 h0 rfl xq_107 rfl (xt_2_2 h0).1 dX2_choose_19 (Eq.refl 22) ?_
        refine xg_iload_n dX2_choose_22 (Eq.refl 23) rfl ?_
        refine xg_lald (xt_2_2 h0).2 dX2_choose_23 (Eq.refl 24) ?_
        refine xg_ladd dX2_choose_24 (Eq.refl 25) ?_
        refine xg_aload_n dX2_choose_25 (Eq.refl 26) rfl ?_
        refine xg_getJ (k := 10) xcl2 h0 rfl xq_288 rfl dX2_choose_26 (Eq.refl 29) ?_
        refine xg_lif_ge (tgt := 34) dX2_choose_29 (Eq.refl 30) dX2_choose_30 (Eq.refl 33) (by decide) (w64_r _) (hM.J h0 rfl) ?_ ?_
        · refine xg_iload_n dX2_choose_34 (Eq.refl 35) rfl ?_
          refine xg_aload_n dX2_choose_35 (Eq.refl 36) rfl ?_
          refine xg_getI (k := 4) xcl2 h0 rfl xq_298 rfl dX2_choose_36 (Eq.refl 39) ?_
          refine xg_icmp_lt (tgt := 47) dX2_choose_39 (Eq.refl 42) (by decide) h1 (hM.I h0 rfl) ?_ ?_
          · refine xg_aload_n dX2_choose_47 (Eq.refl 48) rfl ?_
            refine xg_iload_n dX2_choose_48 (Eq.refl 49) rfl ?_
            refine xg_callV_R (cr := 10) (kc := 0) (ks := 0) (st := []) (mX2_candidate hl x0 h0 x1 h1 M hM) bX2_candidate xcl2 h0 rfl xq_329 rfl (by omega) rfl (by decide) dX2_choose_49 (Eq.refl 52) rfl (by decide) (by decide) ?_
            intro z1 M2 hz1 hM2
            refine xg_astore_n (ls2 := [some (.ref x0), some (iv x1), some (.ref z1.toNat)]) dX2_choose_52 (Eq.refl 53) (by decide) rfl ?_
            refine xg_aload_n dX2_choose_53 (Eq.refl 54) rfl ?_
            refine xg_aload_n dX2_choose_54 (Eq.refl 55) rfl ?_
            refine xg_callV_N (kc := 0) (ks := 0) (st := []) (mX2_putIn hl x0 h0 z1.toNat hz1 M2 hM2) bX2_putIn xcl2 h0 rfl xq_403 rfl (by omega) rfl (by decide) dX2_choose_55 (Eq.refl 58) rfl (by decide) (by decide) ?_
            intro z3 M4 hz3 hM4
            refine xg_aload_n dX2_choose_58 (Eq.refl 59) rfl ?_
            refine xg_iload_n dX2_choose_59 (Eq.refl 60) rfl ?_
            refine xg_iconst dX2_choose_60 (Eq.refl 61) ?_
            refine xg_iadd dX2_choose_61 (Eq.refl 62) ?_
            refine xg_callS_N (kc := 0) (ks := 0) (st := []) (ih x0 h0 (w32 (x1 + 1)) (w32_r _) M4 hM4) bX2_choose xq_351 rfl (by omega) rfl (by decide) dX2_choose_62 (Eq.refl 65) rfl (by decide) (by decide) ?_
            intro z5 M6 hz5 hM6
            refine xg_aload_n dX2_choose_65 (Eq.refl 66) rfl ?_
            refine xg_aload_n dX2_choose_66 (Eq.refl 67) rfl ?_
            refine xg_callV_N (kc := 0) (ks := 0) (st := []) (mX2_takeOut hl x0 h0 z1.toNat hz1 M6 hM6) bX2_takeOut xcl2 h0 rfl xq_420 rfl (by omega) rfl (by decide) dX2_choose_67 (Eq.refl 70) rfl (by decide) (by decide) ?_
            intro z7 M8 hz7 hM8
            refine xg_aload_n dX2_choose_70 (Eq.refl 71) rfl ?_
            refine xg_iload_n dX2_choose_71 (Eq.refl 72) rfl ?_
            refine xg_iconst dX2_choose_72 (Eq.refl 73) ?_
            refine xg_iadd dX2_choose_73 (Eq.refl 74) ?_
            refine xg_callS_N (kc := 0) (ks := 0) (st := []) (ih x0 h0 (w32 (x1 + 1)) (w32_r _) M8 hM8) bX2_choose xq_351 rfl (by omega) rfl (by decide) dX2_choose_74 (Eq.refl 77) rfl (by decide) (by decide) ?_
            intro z9 M10 hz9 hM10
            exact xg_vret rfl dX2_choose_77 rfl hM10
          · refine xg_aload_n dX2_choose_42 (Eq.refl 43) rfl ?_
            refine xg_callV_N (kc := 0) (ks := 0) (st := []) (mX2_weigh hl x0 h0 M hM) bX2_weigh xcl2 h0 rfl xq_354 rfl (by omega) rfl (by decide) dX2_choose_43 (Eq.refl 46) rfl (by decide) (by decide) ?_
            intro z11 M12 hz11 hM12
            exact xg_vret rfl dX2_choose_46 rfl hM12
        · exact xg_vret rfl dX2_choose_33 rfl hM
      · exact xg_vret rfl dX2_choose_13 rfl hM
abbrev uX2_bestByBranches : xU := (RX2, cX2_bestByBranches, 1, (some .long), [], "bestByBranches")
theorem bX2_bestByBranches : xYV yX2_bestByBranches cX2_bestByBranches 1 (some .long) 0 := ⟨xq_285, xq_286, xq_22, xq_287, ⟨by decide +kernel, by decide +kernel, by decide +kernel⟩, by decide⟩
theorem mX2_bestByBranches {l : Launch} {G : xG} (hl : l.stackTraces = false) (x0 : Nat) (h0 : xOb 2 x0) (M : xM) (hM : xcan M) : Cm l G yX2_bestByBranches cX2_bestByBranches 1 (some .long) 19 2 0 0 [.ref x0] M (fX2_bestByBranches x0 M) := by
  refine xcm_of (u := uX2_bestByBranches) (ls := [some (.ref x0)]) 0 hl rfl (by decide +kernel) (Nat.le_of_ble_eq_true rfl) rfl ?_
  unfold fX2_bestByBranches
  refine xg_aload_n dX2_bestByBranches_0 (Eq.refl 1) rfl ?_
  refine xg_callV_N (kc := 0) (ks := 0) (st := []) (mX2_beginSearch hl x0 h0 M hM) bX2_beginSearch xcl2 h0 rfl xq_289 rfl (by decide) rfl (by decide) dX2_bestByBranches_1 (Eq.refl 4) rfl (by decide) (by decide) ?_
  intro z1 M2 hz1 hM2
  refine xg_aload_n dX2_bestByBranches_4 (Eq.refl 5) rfl ?_
  refine xg_iconst dX2_bestByBranches_5 (Eq.refl 6) ?_
  refine xg_callS_N (kc := 0) (ks := 0) (st := []) (mX2_choose hl 12 x0 h0 0 (by decide) M2 hM2) bX2_choose xq_351 rfl (by omega) rfl (by decide) dX2_bestByBranches_6 (Eq.refl 9) rfl (by decide) (by decide) ?_
  intro z3 M4 hz3 hM4
  refine xg_aload_n dX2_bestByBranches_9 (Eq.refl 10) rfl ?_
  refine xg_getJ (k := 10) xcl2 h0 rfl xq_288 rfl dX2_bestByBranches_10 (Eq.refl 13) ?_
  exact xg_lret rfl dX2_bestByBranches_13 rfl hM4 (hM4.J h0 rfl)
abbrev uX2_bestOfAllSets : xU := (RX2, cX2_bestOfAllSets, 3, (some .long), [], "bestOfAllSets")
theorem bX2_bestOfAllSets : xYV yX2_bestOfAllSets cX2_bestOfAllSets 3 (some .long) 0 := ⟨xq_1027, xq_1028, xq_22, xq_1029, ⟨by decide +kernel, by decide +kernel, by decide +kernel⟩, by decide⟩
theorem gX2_bestOfAllSets_80 {l : Launch} {G : xG} (hl : l.stackTraces = false) (rc55 : Int → xM → xO) (x0 : Nat) (h0 : xOb 2 x0) (x1 : Int) (h1 : R32 x1) (x2 : Int) (h2 : R32 x2) (hr55 : ∀ w2 : Int, R32 w2 → ∀ M : xM, xcan M → Gv l G uX2_bestOfAllSets 6 2 0 0 55 [some (.ref x0), some (iv x1), some (iv w2)] [] M (rc55 w2 M)) (M : xM) (hM : xcan M) : Gv l G uX2_bestOfAllSets 6 2 0 0 80 [some (.ref x0), some (iv x1), some (iv x2)] [] M (fX2_bestOfAllSets_80 rc55 x0 x1 x2 M) := by
  unfold fX2_bestOfAllSets_80
  refine xg_iinc (ls2 := [some (.ref x0), some (iv x1), some (iv (w32 (x2 + 1)))]) dX2_bestOfAllSets_80 (Eq.refl 83) rfl (by decide) rfl ?_
  refine xg_goto (tgt := 55) dX2_bestOfAllSets_83 (by decide) ?_
  exact xg_jump (hr55 (w32 (x2 + 1)) (w32_r _) M hM) (xsb_s (xsb_s (xsb_s xsb_0))) (by decide) (by decide)
theorem gX2_bestOfAllSets_55 {l : Launch} {G : xG} (hl : l.stackTraces = false) (rc6 : Int → xM → xO) (x0 : Nat) (h0 : xOb 2 x0) (x1 : Int) (h1 : R32 x1) (hr6 : ∀ w1 : Int, R32 w1 → ∀ M : xM, xcan M → Gv l G uX2_bestOfAllSets 6 2 0 0 6 [some (.ref x0), some (iv w1), none] [] M (rc6 w1 M)) : ∀ (n : Nat) (x2 : Int) (_ : R32 x2) (M : xM) (_ : xcan M), Gv l G uX2_bestOfAllSets 6 2 0 0 55 [some (.ref x0), some (iv x1), some (iv x2)] [] M (fX2_bestOfAllSets_55 rc6 x0 x1 n x2 M) := by
  intro n; induction n with
  | zero => intro x2 h2 M hM; exact xg_none
  | succ n ih =>
    intro x2 h2 M hM
    rw [fX2_bestOfAllSets_55]
    refine xg_iload_n dX2_bestOfAllSets_55 (Eq.refl 56) rfl ?_
    refine xg_aload_n dX2_bestOfAllSets_56 (Eq.refl 57) rfl ?_
    refine xg_getI (k := 4) xcl2 h0 rfl xq_298 rfl dX2_bestOfAllSets_57 (Eq.refl 60) ?_
    refine xg_icmp_ge (tgt := 86) dX2_bestOfAllSets_60 (Eq.refl 63) (by decide) h2 (hM.I h0 rfl) ?_ ?_
    · refine xg_iinc (ls2 := [some (.ref x0), some (iv (w32 (x1 + 1))), some (iv x2)]) dX2_bestOfAllSets_86 (Eq.refl 89) rfl (by decide) rfl ?_
      refine xg_goto (tgt := 6) dX2_bestOfAllSets_89 (by decide) ?_
      exact xg_jump (hr6 (w32 (x1 + 1)) (w32_r _) M hM) (xsb_s (xsb_s (xsb_n xsb_0))) (by decide) (by decide)
    · refine xg_iload_n dX2_bestOfAllSets_63 (Eq.refl 64) rfl ?_
      refine xg_iload_n dX2_bestOfAllSets_64 (Eq.refl 65) rfl ?_
      refine xg_ishr dX2_bestOfAllSets_65 (Eq.refl 66) ?_
      refine xg_iconst dX2_bestOfAllSets_66 (Eq.refl 67) ?_
      refine xg_iand dX2_bestOfAllSets_67 (Eq.refl 68) ?_
      refine xg_if_eq (tgt := 80) dX2_bestOfAllSets_68 (Eq.refl 71) (by decide) (xand_r _ _) ?_ ?_
      · exact xg_jump (gX2_bestOfAllSets_80 hl (fX2_bestOfAllSets_55 rc6 x0 x1 n) x0 h0 x1 h1 x2 h2 ih M hM) (xsb_s (xsb_s (xsb_s xsb_0))) (by decide) (by decide)
      · refine xg_aload_n dX2_bestOfAllSets_71 (Eq.refl 72) rfl ?_
        refine xg_aload_n dX2_bestOfAllSets_72 (Eq.refl 73) rfl ?_
        refine xg_iload_n dX2_bestOfAllSets_73 (Eq.refl 74) rfl ?_
        refine xg_callV_R (cr := 10) (kc := 0) (ks := 0) (st := [.ref x0]) (mX2_candidate hl x0 h0 x2 h2 M hM) bX2_candidate xcl2 h0 rfl xq_329 rfl (by decide) rfl (Nat.le_of_ble_eq_true rfl) dX2_bestOfAllSets_74 (Eq.refl 77) rfl (by decide) (by decide) ?_
        intro z2 M3 hz2 hM3
        refine xg_callV_N (kc := 0) (ks := 0) (st := []) (mX2_takeOut hl x0 h0 z2.toNat hz2 M3 hM3) bX2_takeOut xcl2 h0 rfl xq_420 rfl (by decide) rfl (by decide) dX2_bestOfAllSets_77 (Eq.refl 80) rfl (by decide) (by decide) ?_
        intro z4 M5 hz4 hM5
        exact xg_jump (gX2_bestOfAllSets_80 hl (fX2_bestOfAllSets_55 rc6 x0 x1 n) x0 h0 x1 h1 x2 h2 ih M5 hM5) (xsb_s (xsb_s (xsb_s xsb_0))) (by decide) (by decide)
theorem gX2_bestOfAllSets_43 {l : Launch} {G : xG} (hl : l.stackTraces = false) (rc18 : Int → xM → xO) (x0 : Nat) (h0 : xOb 2 x0) (x1 : Int) (h1 : R32 x1) (x2 : Int) (h2 : R32 x2) (hr18 : ∀ w2 : Int, R32 w2 → ∀ M : xM, xcan M → Gv l G uX2_bestOfAllSets 6 2 0 0 18 [some (.ref x0), some (iv x1), some (iv w2)] [] M (rc18 w2 M)) (M : xM) (hM : xcan M) : Gv l G uX2_bestOfAllSets 6 2 0 0 43 [some (.ref x0), some (iv x1), some (iv x2)] [] M (fX2_bestOfAllSets_43 rc18 x0 x1 x2 M) := by
  unfold fX2_bestOfAllSets_43
  refine xg_iinc (ls2 := [some (.ref x0), some (iv x1), some (iv (w32 (x2 + 1)))]) dX2_bestOfAllSets_43 (Eq.refl 46) rfl (by decide) rfl ?_
  refine xg_goto (tgt := 18) dX2_bestOfAllSets_46 (by decide) ?_
  exact xg_jump (hr18 (w32 (x2 + 1)) (w32_r _) M hM) (xsb_s (xsb_s (xsb_s xsb_0))) (by decide) (by decide)
theorem gX2_bestOfAllSets_18 {l : Launch} {G : xG} (hl : l.stackTraces = false) (rc6 : Int → xM → xO) (x0 : Nat) (h0 : xOb 2 x0) (x1 : Int) (h1 : R32 x1) (hr6 : ∀ w1 : Int, R32 w1 → ∀ M : xM, xcan M → Gv l G uX2_bestOfAllSets 6 2 0 0 6 [some (.ref x0), some (iv w1), none] [] M (rc6 w1 M)) : ∀ (n : Nat) (x2 : Int) (_ : R32 x2) (M : xM) (_ : xcan M), Gv l G uX2_bestOfAllSets 6 2 0 0 18 [some (.ref x0), some (iv x1), some (iv x2)] [] M (fX2_bestOfAllSets_18 rc6 x0 x1 n x2 M) := by
  intro n; induction n with
  | zero => intro x2 h2 M hM; exact xg_none
  | succ n ih =>
    intro x2 h2 M hM
    rw [fX2_bestOfAllSets_18]
    refine xg_iload_n dX2_bestOfAllSets_18 (Eq.refl 19) rfl ?_
    refine xg_aload_n dX2_bestOfAllSets_19 (Eq.refl 20) rfl ?_
    refine xg_getI (k := 4) xcl2 h0 rfl xq_298 rfl dX2_bestOfAllSets_20 (Eq.refl 23) ?_
    refine xg_icmp_ge (tgt := 49) dX2_bestOfAllSets_23 (Eq.refl 26) (by decide) h2 (hM.I h0 rfl) ?_ ?_
    · refine xg_aload_n dX2_bestOfAllSets_49 (Eq.refl 50) rfl ?_
      refine xg_callV_N (kc := 0) (ks := 0) (st := []) (mX2_weigh hl x0 h0 M hM) bX2_weigh xcl2 h0 rfl xq_354 rfl (by decide) rfl (by decide) dX2_bestOfAllSets_50 (Eq.refl 53) rfl (by decide) (by decide) ?_
      intro z1 M2 hz1 hM2
      refine xg_iconst dX2_bestOfAllSets_53 (Eq.refl 54) ?_
      refine xg_istore_n (ls2 := [some (.ref x0), some (iv x1), some (iv 0)]) dX2_bestOfAllSets_54 (Eq.refl 55) (by decide) rfl ?_
      exact xg_jump (gX2_bestOfAllSets_55 hl rc6 x0 h0 x1 h1 hr6 xN 0 (by decide) M2 hM2) (xsb_s (xsb_s (xsb_s xsb_0))) (by decide) (by decide)
    · refine xg_iload_n dX2_bestOfAllSets_26 (Eq.refl 27) rfl ?_
      refine xg_iload_n dX2_bestOfAllSets_27 (Eq.refl 28) rfl ?_
      refine xg_ishr dX2_bestOfAllSets_28 (Eq.refl 29) ?_
      refine xg_iconst dX2_bestOfAllSets_29 (Eq.refl 30) ?_
      refine xg_iand dX2_bestOfAllSets_30 (Eq.refl 31) ?_
      refine xg_if_eq (tgt := 43) dX2_bestOfAllSets_31 (Eq.refl 34) (by decide) (xand_r _ _) ?_ ?_
      · exact xg_jump (gX2_bestOfAllSets_43 hl (fX2_bestOfAllSets_18 rc6 x0 x1 n) x0 h0 x1 h1 x2 h2 ih M hM) (xsb_s (xsb_s (xsb_s xsb_0))) (by decide) (by decide)
      · refine xg_aload_n dX2_bestOfAllSets_34 (Eq.refl 35) rfl ?_
        refine xg_aload_n dX2_bestOfAllSets_35 (Eq.refl 36) rfl ?_
        refine xg_iload_n dX2_bestOfAllSets_36 (Eq.refl 37) rfl ?_
        refine xg_callV_R (cr := 10) (kc := 0) (ks := 0) (st := [.ref x0]) (mX2_candidate hl x0 h0 x2 h2 M hM) bX2_candidate xcl2 h0 rfl xq_329 rfl (by decide) rfl (Nat.le_of_ble_eq_true rfl) dX2_bestOfAllSets_37 (Eq.refl 40) rfl (by decide) (by decide) ?_
        intro z3 M4 hz3 hM4
        refine xg_callV_N (kc := 0) (ks := 0) (st := []) (mX2_putIn hl x0 h0 z3.toNat hz3 M4 hM4) bX2_putIn xcl2 h0 rfl xq_403 rfl (by decide) rfl (by decide) dX2_bestOfAllSets_40 (Eq.refl 43) rfl (by decide) (by decide) ?_
        intro z5 M6 hz5 hM6
        exact xg_jump (gX2_bestOfAllSets_43 hl (fX2_bestOfAllSets_18 rc6 x0 x1 n) x0 h0 x1 h1 x2 h2 ih M6 hM6) (xsb_s (xsb_s (xsb_s xsb_0))) (by decide) (by decide)
theorem gX2_bestOfAllSets_6 {l : Launch} {G : xG} (hl : l.stackTraces = false) (x0 : Nat) (h0 : xOb 2 x0) : ∀ (n : Nat) (x1 : Int) (_ : R32 x1) (M : xM) (_ : xcan M), Gv l G uX2_bestOfAllSets 6 2 0 0 6 [some (.ref x0), some (iv x1), none] [] M (fX2_bestOfAllSets_6 x0 n x1 M) := by
  intro n; induction n with
  | zero => intro x1 h1 M hM; exact xg_none
  | succ n ih =>
    intro x1 h1 M hM
    rw [fX2_bestOfAllSets_6]
    refine xg_iload_n dX2_bestOfAllSets_6 (Eq.refl 7) rfl ?_
    refine xg_iconst dX2_bestOfAllSets_7 (Eq.refl 8) ?_
    refine xg_aload_n dX2_bestOfAllSets_8 (Eq.refl 9) rfl ?_
    refine xg_getI (k := 4) xcl2 h0 rfl xq_298 rfl dX2_bestOfAllSets_9 (Eq.refl 12) ?_
    refine xg_ishl dX2_bestOfAllSets_12 (Eq.refl 13) ?_
    refine xg_icmp_ge (tgt := 92) dX2_bestOfAllSets_13 (Eq.refl 16) (by decide) h1 (xshl_r _ _) ?_ ?_
    · refine xg_aload_n dX2_bestOfAllSets_92 (Eq.refl 93) rfl ?_
      refine xg_getJ (k := 10) xcl2 h0 rfl xq_288 rfl dX2_bestOfAllSets_93 (Eq.refl 96) ?_
      exact xg_lret rfl dX2_bestOfAllSets_96 rfl hM (hM.J h0 rfl)
    · refine xg_iconst dX2_bestOfAllSets_16 (Eq.refl 17) ?_
      refine xg_istore_n (ls2 := [some (.ref x0), some (iv x1), some (iv 0)]) dX2_bestOfAllSets_17 (Eq.refl 18) (by decide) rfl ?_
      exact xg_jump (gX2_bestOfAllSets_18 hl (fX2_bestOfAllSets_6 x0 n) x0 h0 x1 h1 ih xN 0 (by decide) M hM) (xsb_s (xsb_s (xsb_s xsb_0))) (by decide) (by decide)
theorem mX2_bestOfAllSets {l : Launch} {G : xG} (hl : l.stackTraces = false) (x0 : Nat) (h0 : xOb 2 x0) (M : xM) (hM : xcan M) : Cm l G yX2_bestOfAllSets cX2_bestOfAllSets 3 (some .long) 6 2 0 0 [.ref x0] M (fX2_bestOfAllSets x0 M) := by
  refine xcm_of (u := uX2_bestOfAllSets) (ls := [some (.ref x0), none, none]) 2 hl rfl (by decide +kernel) (Nat.le_of_ble_eq_true rfl) rfl ?_
  unfold fX2_bestOfAllSets
  refine xg_aload_n dX2_bestOfAllSets_0 (Eq.refl 1) rfl ?_
  refine xg_callV_N (kc := 0) (ks := 0) (st := []) (mX2_beginSearch hl x0 h0 M hM) bX2_beginSearch xcl2 h0 rfl xq_289 rfl (by decide) rfl (by decide) dX2_bestOfAllSets_1 (Eq.refl 4) rfl (by decide) (by decide) ?_
  intro z1 M2 hz1 hM2
  refine xg_iconst dX2_bestOfAllSets_4 (Eq.refl 5) ?_
  refine xg_istore_n (ls2 := [some (.ref x0), some (iv 0), none]) dX2_bestOfAllSets_5 (Eq.refl 6) (by decide) rfl ?_
  exact xg_jump (gX2_bestOfAllSets_6 hl x0 h0 xN 0 (by decide) M2 hM2) (xsb_s (xsb_s (xsb_n xsb_0))) (by decide) (by decide)
abbrev uX2_giveLoansBack : xU := (RX2, cX2_giveLoansBack, 4, none, [], "giveLoansBack")
theorem bX2_giveLoansBack : xYV yX2_giveLoansBack cX2_giveLoansBack 4 none 0 := ⟨xq_638, xq_639, xq_22, xq_640, ⟨by decide +kernel, by decide +kernel, by decide +kernel⟩, by decide⟩
theorem gX2_giveLoansBack_98 {l : Launch} {G : xG} (hl : l.stackTraces = false) (rc2 : Int → xM → xO) (x0 : Nat) (h0 : xOb 2 x0) (x1 : Int) (h1 : R32 x1) (hr2 : ∀ w1 : Int, R32 w1 → ∀ M : xM, xcan M → Gv l G uX2_giveLoansBack 4 3 0 0 2 [some (.ref x0), some (iv w1), none, none] [] M (rc2 w1 M)) (M : xM) (hM : xcan M) : Gv l G uX2_giveLoansBack 4 3 0 0 98 [some (.ref x0), some (iv x1), none, none] [] M (fX2_giveLoansBack_98 rc2 x0 x1 M) := by
  unfold fX2_giveLoansBack_98
  refine xg_iinc (ls2 := [some (.ref x0), some (iv (w32 (x1 + 1))), none, none]) dX2_giveLoansBack_98 (Eq.refl 101) rfl (by decide) rfl ?_
  refine xg_goto (tgt := 2) dX2_giveLoansBack_101 (by decide) ?_
  exact xg_jump (hr2 (w32 (x1 + 1)) (w32_r _) M hM) (xsb_s (xsb_s (xsb_n (xsb_n xsb_0)))) (by decide) (by decide)
theorem gX2_giveLoansBack_2 {l : Launch} {G : xG} (hl : l.stackTraces = false) (x0 : Nat) (h0 : xOb 2 x0) : ∀ (n : Nat) (x1 : Int) (_ : R32 x1) (M : xM) (_ : xcan M), Gv l G uX2_giveLoansBack 4 3 0 0 2 [some (.ref x0), some (iv x1), none, none] [] M (fX2_giveLoansBack_2 x0 n x1 M) := by
  intro n; induction n with
  | zero => intro x1 h1 M hM; exact xg_none
  | succ n ih =>
    intro x1 h1 M hM
    rw [fX2_giveLoansBack_2]
    refine xg_iload_n dX2_giveLoansBack_2 (Eq.refl 3) rfl ?_
    refine xg_aload_n dX2_giveLoansBack_3 (Eq.refl 4) rfl ?_
    refine xg_getR (k := 0) xcl2 h0 rfl xq_109 rfl (xt_2_0 h0).1 dX2_giveLoansBack_4 (Eq.refl 7) ?_
    refine xg_getI (k := 14) xcl1 (xt_2_0 h0).2 rfl xq_641 rfl dX2_giveLoansBack_7 (Eq.refl 10) ?_
    refine xg_icmp_ge (tgt := 104) dX2_giveLoansBack_10 (Eq.refl 13) (by decide) h1 (hM.I (xt_2_0 h0).2 rfl) ?_ ?_
    · exact xg_vret rfl dX2_giveLoansBack_104 rfl hM
    · refine xg_aload_n dX2_giveLoansBack_13 (Eq.refl 14) rfl ?_
      refine xg_getR (k := 0) xcl2 h0 rfl xq_109 rfl (xt_2_0 h0).1 dX2_giveLoansBack_14 (Eq.refl 17) ?_
      refine xg_iload_n dX2_giveLoansBack_17 (Eq.refl 18) rfl ?_
      refine xg_callV_R (cr := 7) (kc := 0) (ks := 0) (st := []) (mX1_loanAt hl (xr x0 0) (xt_2_0 h0).2 x1 h1 M hM) bX1_loanAt xcl1 (xt_2_0 h0).2 rfl xq_649 rfl (by decide) rfl (by decide) dX2_giveLoansBack_18 (Eq.refl 21) rfl (by decide) (by decide) ?_
      intro z1 M2 hz1 hM2
      refine xg_astore_n (ls2 := [some (.ref x0), some (iv x1), some (.ref z1.toNat), none]) dX2_giveLoansBack_21 (Eq.refl 22) (by decide) rfl ?_
      refine xg_aload_n dX2_giveLoansBack_22 (Eq.refl 23) rfl ?_
      refine xg_getR (k := 0) xcl2 h0 rfl xq_109 rfl (xt_2_0 h0).1 dX2_giveLoansBack_23 (Eq.refl 26) ?_
      refine xg_aload_n dX2_giveLoansBack_26 (Eq.refl 27) rfl ?_
      refine xg_getI (k := 1) xcl7 hz1 rfl xq_642 rfl dX2_giveLoansBack_27 (Eq.refl 30) ?_
      refine xg_callV_R (cr := 0) (kc := 0) (ks := 0) (st := []) (mX1_account hl (xr x0 0) (xt_2_0 h0).2 (M2 z1.toNat 1) (hM2.I hz1 rfl) M2 hM2) bX1_account xcl1 (xt_2_0 h0).2 rfl xq_650 rfl (by decide) rfl (by decide) dX2_giveLoansBack_30 (Eq.refl 33) rfl (by decide) (by decide) ?_
      intro z3 M4 hz3 hM4
      refine xg_astore_n (ls2 := [some (.ref x0), some (iv x1), some (.ref z1.toNat), some (.ref z3.toNat)]) dX2_giveLoansBack_33 (Eq.refl 34) (by decide) rfl ?_
      refine xg_aload_n dX2_giveLoansBack_34 (Eq.refl 35) rfl ?_
      refine xg_getZ (k := 6) xcl7 hz1 rfl xq_643 rfl dX2_giveLoansBack_35 (Eq.refl 38) hM4 ?_
      refine xg_if_ne (tgt := 98) dX2_giveLoansBack_38 (Eq.refl 41) (by decide) (B01.r (hM4.Z hz1 rfl)) ?_ ?_
      · refine xg_aload_n dX2_giveLoansBack_41 (Eq.refl 42) rfl ?_
        refine xg_aload_n dX2_giveLoansBack_42 (Eq.refl 43) rfl ?_
        refine xg_getI (k := 2) xcl7 hz1 rfl xq_644 rfl dX2_giveLoansBack_43 (Eq.refl 46) ?_
        refine xg_callV_J (kc := 0) (ks := 0) (st := []) (mX0_freeOf hl z3.toNat hz3 (M4 z1.toNat 2) (hM4.I hz1 rfl) M4 hM4) bX0_freeOf xcl0 hz3 rfl xq_651 rfl (by decide) rfl (by decide) dX2_giveLoansBack_46 (Eq.refl 49) rfl (by decide) (by decide) ?_
        intro z5 M6 hz5 hM6
        refine xg_aload_n dX2_giveLoansBack_49 (Eq.refl 50) rfl ?_
        refine xg_getJ (k := 3) xcl7 hz1 rfl xq_645 rfl dX2_giveLoansBack_50 (Eq.refl 53) ?_
        refine xg_lif_lt (tgt := 98) dX2_giveLoansBack_53 (Eq.refl 54) dX2_giveLoansBack_54 (Eq.refl 57) (by decide) hz5 (hM6.J hz1 rfl) ?_ ?_
        · exact xg_jump (gX2_giveLoansBack_98 hl (fX2_giveLoansBack_2 x0 n) x0 h0 x1 h1 ih M6 hM6) (xsb_s (xsb_s (xsb_n (xsb_n xsb_0)))) (by decide) (by decide)
        · refine xg_aload_n dX2_giveLoansBack_57 (Eq.refl 58) rfl ?_
          refine xg_getR (k := 0) xcl2 h0 rfl xq_109 rfl (xt_2_0 h0).1 dX2_giveLoansBack_58 (Eq.refl 61) ?_
          refine xg_aload_n dX2_giveLoansBack_61 (Eq.refl 62) rfl ?_
          refine xg_getI (k := 1) xcl7 hz1 rfl xq_642 rfl dX2_giveLoansBack_62 (Eq.refl 65) ?_
          refine xg_aload_n dX2_giveLoansBack_65 (Eq.refl 66) rfl ?_
          refine xg_getI (k := 0) xcl7 hz1 rfl xq_646 rfl dX2_giveLoansBack_66 (Eq.refl 69) ?_
          refine xg_aload_n dX2_giveLoansBack_69 (Eq.refl 70) rfl ?_
          refine xg_getI (k := 2) xcl7 hz1 rfl xq_644 rfl dX2_giveLoansBack_70 (Eq.refl 73) ?_
          refine xg_aload_n dX2_giveLoansBack_73 (Eq.refl 74) rfl ?_
          refine xg_getJ (k := 3) xcl7 hz1 rfl xq_645 rfl dX2_giveLoansBack_74 (Eq.refl 77) ?_
          refine xg_callV_N (kc := 0) (ks := 0) (st := []) (mX1_moveUnits hl (xr x0 0) (xt_2_0 h0).2 (M6 z1.toNat 1) (hM6.I hz1 rfl) (M6 z1.toNat 0) (hM6.I hz1 rfl) (M6 z1.toNat 2) (hM6.I hz1 rfl) (M6 z1.toNat 3) (hM6.J hz1 rfl) M6 hM6) bX1_moveUnits xcl1 (xt_2_0 h0).2 rfl xq_652 rfl (by decide) rfl (by decide) dX2_giveLoansBack_77 (Eq.refl 80) rfl (by decide) (by decide) ?_
          intro z7 M8 hz7 hM8
          refine xg_aload_n dX2_giveLoansBack_80 (Eq.refl 81) rfl ?_
          refine xg_dup dX2_giveLoansBack_81 (Eq.refl 82) rfl ?_
          refine xg_getJ (k := 6) xcl0 hz3 rfl xq_647 rfl dX2_giveLoansBack_82 (Eq.refl 85) ?_
          refine xg_aload_n dX2_giveLoansBack_85 (Eq.refl 86) rfl ?_
          refine xg_getJ (k := 4) xcl7 hz1 rfl xq_648 rfl dX2_giveLoansBack_86 (Eq.refl 89) ?_
          refine xg_lsub dX2_giveLoansBack_89 (Eq.refl 90) ?_
          refine xg_putJ (k := 6) xcl0 hz3 rfl xq_647 rfl (by decide +kernel) dX2_giveLoansBack_90 (Eq.refl 93) rfl hM8 (w64_r _) ?_
          intro M9 hM9
          refine xg_aload_n dX2_giveLoansBack_93 (Eq.refl 94) rfl ?_
          refine xg_iconst dX2_giveLoansBack_94 (Eq.refl 95) ?_
          refine xg_putZ (k := 6) xcl7 hz1 rfl xq_643 rfl (by decide +kernel) dX2_giveLoansBack_95 (Eq.refl 98) rfl hM9 (by decide) ?_
          intro M10 hM10
          exact xg_jump (gX2_giveLoansBack_98 hl (fX2_giveLoansBack_2 x0 n) x0 h0 x1 h1 ih M10 hM10) (xsb_s (xsb_s (xsb_n (xsb_n xsb_0)))) (by decide) (by decide)
      · exact xg_jump (gX2_giveLoansBack_98 hl (fX2_giveLoansBack_2 x0 n) x0 h0 x1 h1 ih M4 hM4) (xsb_s (xsb_s (xsb_n (xsb_n xsb_0)))) (by decide) (by decide)
theorem mX2_giveLoansBack {l : Launch} {G : xG} (hl : l.stackTraces = false) (x0 : Nat) (h0 : xOb 2 x0) (M : xM) (hM : xcan M) : Cm l G yX2_giveLoansBack cX2_giveLoansBack 4 none 4 3 0 0 [.ref x0] M (fX2_giveLoansBack x0 M) := by
  refine xcm_of (u := uX2_giveLoansBack) (ls := [some (.ref x0), none, none, none]) 3 hl rfl (by decide +kernel) (Nat.le_of_ble_eq_true rfl) rfl ?_
  unfold fX2_giveLoansBack
  refine xg_iconst dX2_giveLoansBack_0 (Eq.refl 1) ?_
  refine xg_istore_n (ls2 := [some (.ref x0), some (iv 0), none, none]) dX2_giveLoansBack_1 (Eq.refl 2) (by decide) rfl ?_
  exact xg_jump (gX2_giveLoansBack_2 hl x0 h0 xN 0 (by decide) M hM) (xsb_s (xsb_s (xsb_n (xsb_n xsb_0)))) (by decide) (by decide)
abbrev uX2_settleBestSet : xU := (RX2, cX2_settleBestSet, 3, (some .int), [], "settleBestSet")
theorem bX2_settleBestSet : xYV yX2_settleBestSet cX2_settleBestSet 3 (some .int) 0 := ⟨xq_659, xq_660, xq_22, xq_661, ⟨by decide +kernel, by decide +kernel, by decide +kernel⟩, by decide⟩
theorem gX2_settleBestSet_38 {l : Launch} {G : xG} (hl : l.stackTraces = false) (rc2 : Int → xM → xO) (x0 : Nat) (h0 : xOb 2 x0) (x1 : Int) (h1 : R32 x1) (hr2 : ∀ w1 : Int, R32 w1 → ∀ M : xM, xcan M → Gv l G uX2_settleBestSet 5 0 0 0 2 [some (.ref x0), some (iv w1), none] [] M (rc2 w1 M)) (M : xM) (hM : xcan M) : Gv l G uX2_settleBestSet 5 0 0 0 38 [some (.ref x0), some (iv x1), none] [] M (fX2_settleBestSet_38 rc2 x0 x1 M) := by
  unfold fX2_settleBestSet_38
  refine xg_iinc (ls2 := [some (.ref x0), some (iv (w32 (x1 + 1))), none]) dX2_settleBestSet_38 (Eq.refl 41) rfl (by decide) rfl ?_
  refine xg_goto (tgt := 2) dX2_settleBestSet_41 (by decide) ?_
  exact xg_jump (hr2 (w32 (x1 + 1)) (w32_r _) M hM) (xsb_s (xsb_s (xsb_n xsb_0))) (by decide) (by decide)
theorem gX2_settleBestSet_2 {l : Launch} {G : xG} (hl : l.stackTraces = false) (x0 : Nat) (h0 : xOb 2 x0) : ∀ (n : Nat) (x1 : Int) (_ : R32 x1) (M : xM) (_ : xcan M), Gv l G uX2_settleBestSet 5 0 0 0 2 [some (.ref x0), some (iv x1), none] [] M (fX2_settleBestSet_2 x0 n x1 M) := by
  intro n; induction n with
  | zero => intro x1 h1 M hM; exact xg_none
  | succ n ih =>
    intro x1 h1 M hM
    rw [fX2_settleBestSet_2]
    refine xg_iload_n dX2_settleBestSet_2 (Eq.refl 3) rfl ?_
    refine xg_aload_n dX2_settleBestSet_3 (Eq.refl 4) rfl ?_
    refine xg_getI (k := 4) xcl2 h0 rfl xq_298 rfl dX2_settleBestSet_4 (Eq.refl 7) ?_
    refine xg_icmp_ge (tgt := 44) dX2_settleBestSet_7 (Eq.refl 10) (by decide) h1 (hM.I h0 rfl) ?_ ?_
    · refine xg_aload_n dX2_settleBestSet_44 (Eq.refl 45) rfl ?_
      refine xg_getI (k := 9) xcl2 h0 rfl xq_297 rfl dX2_settleBestSet_45 (Eq.refl 48) ?_
      exact xg_iret rfl dX2_settleBestSet_48 rfl hM (hM.I h0 rfl)
    · refine xg_aload_n dX2_settleBestSet_10 (Eq.refl 11) rfl ?_
      refine xg_iload_n dX2_settleBestSet_11 (Eq.refl 12) rfl ?_
      refine xg_callV_R (cr := 10) (kc := 0) (ks := 0) (st := []) (mX2_candidate hl x0 h0 x1 h1 M hM) bX2_candidate xcl2 h0 rfl xq_329 rfl (by decide) rfl (by decide) dX2_settleBestSet_12 (Eq.refl 15) rfl (by decide) (by decide) ?_
      intro z1 M2 hz1 hM2
      refine xg_astore_n (ls2 := [some (.ref x0), some (iv x1), some (.ref z1.toNat)]) dX2_settleBestSet_15 (Eq.refl 16) (by decide) rfl ?_
      refine xg_aload_n dX2_settleBestSet_16 (Eq.refl 17) rfl ?_
      refine xg_getI (k := 0) xcl10 hz1 rfl xq_328 rfl dX2_settleBestSet_17 (Eq.refl 20) ?_
      refine xg_aload_n dX2_settleBestSet_20 (Eq.refl 21) rfl ?_
      refine xg_getI (k := 8) xcl2 h0 rfl xq_296 rfl dX2_settleBestSet_21 (Eq.refl 24) ?_
      refine xg_callS_Z (kc := 0) (ks := 0) (st := []) (mX2_isIn hl (M2 z1.toNat 0) (hM2.I hz1 rfl) (M2 x0 8) (hM2.I h0 rfl) M2 hM2) bX2_isIn xq_370 rfl (by decide) rfl (by decide) dX2_settleBestSet_24 (Eq.refl 27) rfl (by decide) (by decide) ?_
      intro z3 M4 hz3 hM4
      refine xg_if_eq (tgt := 38) dX2_settleBestSet_27 (Eq.refl 30) (by decide) (B01.r hz3) ?_ ?_
      · exact xg_jump (gX2_settleBestSet_38 hl (fX2_settleBestSet_2 x0 n) x0 h0 x1 h1 ih M4 hM4) (xsb_s (xsb_s (xsb_n xsb_0))) (by decide) (by decide)
      · refine xg_aload_n dX2_settleBestSet_30 (Eq.refl 31) rfl ?_
        refine xg_getR (k := 0) xcl2 h0 rfl xq_109 rfl (xt_2_0 h0).1 dX2_settleBestSet_31 (Eq.refl 34) ?_
        refine xg_aload_n dX2_settleBestSet_34 (Eq.refl 35) rfl ?_
        refine xg_callV_N (kc := 0) (ks := 0) (st := []) (mX1_settleWhole hl (xr x0 0) (xt_2_0 h0).2 z1.toNat hz1 M4 hM4) bX1_settleWhole xcl1 (xt_2_0 h0).2 rfl xq_662 rfl (by decide) rfl (by decide) dX2_settleBestSet_35 (Eq.refl 38) rfl (by decide) (by decide) ?_
        intro z5 M6 hz5 hM6
        exact xg_jump (gX2_settleBestSet_38 hl (fX2_settleBestSet_2 x0 n) x0 h0 x1 h1 ih M6 hM6) (xsb_s (xsb_s (xsb_n xsb_0))) (by decide) (by decide)
theorem mX2_settleBestSet {l : Launch} {G : xG} (hl : l.stackTraces = false) (x0 : Nat) (h0 : xOb 2 x0) (M : xM) (hM : xcan M) : Cm l G yX2_settleBestSet cX2_settleBestSet 3 (some .int) 5 0 0 0 [.ref x0] M (fX2_settleBestSet x0 M) := by
  refine xcm_of (u := uX2_settleBestSet) (ls := [some (.ref x0), none, none]) 2 hl rfl (by decide +kernel) (Nat.le_of_ble_eq_true rfl) rfl ?_
  unfold fX2_settleBestSet
  refine xg_iconst dX2_settleBestSet_0 (Eq.refl 1) ?_
  refine xg_istore_n (ls2 := [some (.ref x0), some (iv 0), none]) dX2_settleBestSet_1 (Eq.refl 2) (by decide) rfl ?_
  exact xg_jump (gX2_settleBestSet_2 hl x0 h0 xN 0 (by decide) M hM) (xsb_s (xsb_s (xsb_n xsb_0))) (by decide) (by decide)
abbrev uX2_findLenders : xU := (RX2, cX2_findLenders, 9, none, [], "findLenders")
theorem bX2_findLenders : xYV yX2_findLenders cX2_findLenders 9 none 1 := ⟨xq_684, xq_685, xq_22, xq_686, ⟨by decide +kernel, by decide +kernel, by decide +kernel⟩, by decide⟩
theorem gX2_findLenders_99 {l : Launch} {G : xG} (hl : l.stackTraces = false) (rc27 : Int → Int → xM → xO) (x0 : Nat) (h0 : xOb 2 x0) (x1 : Nat) (h1 : xOb 10 x1) (x2 : Int) (h2 : R64 x2) (x4 : Int) (h4 : R32 x4) (s0 : Int) (hs0 : R64 s0) (hr27 : ∀ w2 : Int, R64 w2 → ∀ w4 : Int, R32 w4 → ∀ M : xM, xcan M → Gv l G uX2_findLenders 2 3 0 0 27 [some (.ref x0), some (.ref x1), some (jv w2), none, some (iv w4), none, none, none, none] [] M (rc27 w2 w4 M)) (M : xM) (hM : xcan M) : Gv l G uX2_findLenders 2 3 0 0 99 [some (.ref x0), some (.ref x1), some (jv x2), none, some (iv x4), none, none, none, none] [jv s0] M (fX2_findLenders_99 rc27 x0 x1 x2 x4 s0 M) := by
  unfold fX2_findLenders_99
  refine xg_lstore (ls2 := [some (.ref x0), some (.ref x1), some (jv x2), none, some (iv x4), none, none, some (jv s0), none]) dX2_findLenders_99 (Eq.refl 101) (by decide) rfl ?_
  refine xg_aload_n dX2_findLenders_101 (Eq.refl 102) rfl ?_
  refine xg_getR (k := 3) xcl2 h0 rfl xq_108 rfl (xt_2_3 h0).1 dX2_findLenders_102 (Eq.refl 105) ?_
  refine xg_iload dX2_findLenders_105 (Eq.refl 107) rfl ?_
  refine xg_lconst (z := 0) dX2_findLenders_107 (Eq.refl 108) rfl ?_
  refine xg_lload_n dX2_findLenders_108 (Eq.refl 109) rfl ?_
  refine xg_lload dX2_findLenders_109 (Eq.refl 111) rfl ?_
  refine xg_mminl xq_688 xq_689 xq_306 xq_690 dX2_findLenders_111 (Eq.refl 114) h2 hs0 (Nat.le_of_ble_eq_true rfl) ?_
  refine xg_mmaxl xq_691 xq_692 xq_306 xq_693 dX2_findLenders_114 (Eq.refl 117) (by decide) (xmin_r h2 hs0) (Nat.le_of_ble_eq_true rfl) ?_
  refine xg_last (xt_2_3 h0).2 dX2_findLenders_117 (Eq.refl 118) hM (xmax_r (by decide) (xmin_r h2 hs0)) ?_
  intro M1 hM1
  refine xg_lload_n dX2_findLenders_118 (Eq.refl 119) rfl ?_
  refine xg_aload_n dX2_findLenders_119 (Eq.refl 120) rfl ?_
  refine xg_getR (k := 3) xcl2 h0 rfl xq_108 rfl (xt_2_3 h0).1 dX2_findLenders_120 (Eq.refl 123) ?_
  refine xg_iload dX2_findLenders_123 (Eq.refl 125) rfl ?_
  refine xg_lald (xt_2_3 h0).2 dX2_findLenders_125 (Eq.refl 126) ?_
  refine xg_lsub dX2_findLenders_126 (Eq.refl 127) ?_
  refine xg_lstore_nL (P := R64) (ls2 := fun y2 => [some (.ref x0), some (.ref x1), some (jv y2), none, some (iv x4), none, none, some (jv s0), none]) dX2_findLenders_127 (Eq.refl 128) (by decide) (w64_r _) (fun _ => rfl) ?_
  intro y2 hy2
  refine xg_iinc (ls2 := [some (.ref x0), some (.ref x1), some (jv y2), none, some (iv (w32 (x4 + 1))), none, none, some (jv s0), none]) dX2_findLenders_128 (Eq.refl 131) rfl (by decide) rfl ?_
  refine xg_goto (tgt := 27) dX2_findLenders_131 (by decide) ?_
  exact xg_jump (hr27 y2 hy2 (w32 (x4 + 1)) (w32_r _) M1 hM1) (xsb_s (xsb_s (xsb_s (xsb_n (xsb_s (xsb_n (xsb_n (xsb_n (xsb_n xsb_0))))))))) (by decide) (by decide)
theorem gX2_findLenders_79 {l : Launch} {G : xG} (hl : l.stackTraces = false) (rc27 : Int → Int → xM → xO) (x0 : Nat) (h0 : xOb 2 x0) (x1 : Nat) (h1 : xOb 10 x1) (x2 : Int) (h2 : R64 x2) (x4 : Int) (h4 : R32 x4) (x5 : Nat) (h5 : xOb 0 x5) (s0 : Int) (hs0 : B01 s0) (hr27 : ∀ w2 : Int, R64 w2 → ∀ w4 : Int, R32 w4 → ∀ M : xM, xcan M → Gv l G uX2_findLenders 2 3 0 0 27 [some (.ref x0), some (.ref x1), some (jv w2), none, some (iv w4), none, none, none, none] [] M (rc27 w2 w4 M)) (M : xM) (hM : xcan M) : Gv l G uX2_findLenders 2 3 0 0 79 [some (.ref x0), some (.ref x1), some (jv x2), none, some (iv x4), some (.ref x5), none, none, none] [iv s0] M (fX2_findLenders_79 rc27 x0 x1 x2 x4 x5 s0 M) := by
  unfold fX2_findLenders_79
  refine xg_istore (ls2 := [some (.ref x0), some (.ref x1), some (jv x2), none, some (iv x4), some (.ref x5), some (iv s0), none, none]) dX2_findLenders_79 (Eq.refl 81) (by decide) rfl ?_
  refine xg_iload dX2_findLenders_81 (Eq.refl 83) rfl ?_
  refine xg_if_eq (tgt := 98) dX2_findLenders_83 (Eq.refl 86) (by decide) (B01.r hs0) ?_ ?_
  · refine xg_lconst (z := 0) dX2_findLenders_98 (Eq.refl 99) rfl ?_
    exact xg_jump (gX2_findLenders_99 hl rc27 x0 h0 x1 h1 x2 h2 x4 h4 0 (by decide) hr27 M hM) (xsb_s (xsb_s (xsb_s (xsb_n (xsb_s (xsb_n (xsb_n (xsb_n (xsb_n xsb_0))))))))) (by decide) (by decide)
  · refine xg_aload dX2_findLenders_86 (Eq.refl 88) rfl ?_
    refine xg_aload_n dX2_findLenders_88 (Eq.refl 89) rfl ?_
    refine xg_getI (k := 5) xcl10 h1 rfl xq_343 rfl dX2_findLenders_89 (Eq.refl 92) ?_
    refine xg_callV_J (kc := 0) (ks := 0) (st := []) (mX0_freeOf hl x5 h5 (M x1 5) (hM.I h1 rfl) M hM) bX0_freeOf xcl0 h5 rfl xq_651 rfl (by decide) rfl (by decide) dX2_findLenders_92 (Eq.refl 95) rfl (by decide) (by decide) ?_
    intro z1 M2 hz1 hM2
    refine xg_goto (tgt := 99) dX2_findLenders_95 (by decide) ?_
    exact xg_jump (gX2_findLenders_99 hl rc27 x0 h0 x1 h1 x2 h2 x4 h4 z1 hz1 hr27 M2 hM2) (xsb_s (xsb_s (xsb_s (xsb_n (xsb_s (xsb_n (xsb_n (xsb_n (xsb_n xsb_0))))))))) (by decide) (by decide)
theorem gX2_findLenders_78 {l : Launch} {G : xG} (hl : l.stackTraces = false) (rc27 : Int → Int → xM → xO) (x0 : Nat) (h0 : xOb 2 x0) (x1 : Nat) (h1 : xOb 10 x1) (x2 : Int) (h2 : R64 x2) (x4 : Int) (h4 : R32 x4) (x5 : Nat) (h5 : xOb 0 x5) (hr27 : ∀ w2 : Int, R64 w2 → ∀ w4 : Int, R32 w4 → ∀ M : xM, xcan M → Gv l G uX2_findLenders 2 3 0 0 27 [some (.ref x0), some (.ref x1), some (jv w2), none, some (iv w4), none, none, none, none] [] M (rc27 w2 w4 M)) (M : xM) (hM : xcan M) : Gv l G uX2_findLenders 2 3 0 0 78 [some (.ref x0), some (.ref x1), some (jv x2), none, some (iv x4), some (.ref x5), none, none, none] [] M (fX2_findLenders_78 rc27 x0 x1 x2 x4 x5 M) := by
  unfold fX2_findLenders_78
  refine xg_iconst dX2_findLenders_78 (Eq.refl 79) ?_
  exact xg_jump (gX2_findLenders_79 hl rc27 x0 h0 x1 h1 x2 h2 x4 h4 x5 h5 0 (by decide) hr27 M hM) (xsb_s (xsb_s (xsb_s (xsb_n (xsb_s (xsb_s (xsb_n (xsb_n (xsb_n xsb_0))))))))) (by decide) (by decide)
theorem gX2_findLenders_27 {l : Launch} {G : xG} (hl : l.stackTraces = false) (x0 : Nat) (h0 : xOb 2 x0) (x1 : Nat) (h1 : xOb 10 x1) : ∀ (n : Nat) (x2 : Int) (_ : R64 x2) (x4 : Int) (_ : R32 x4) (M : xM) (_ : xcan M), Gv l G uX2_findLenders 2 3 0 0 27 [some (.ref x0), some (.ref x1), some (jv x2), none, some (iv x4), none, none, none, none] [] M (fX2_findLenders_27 x0 x1 n x2 x4 M) := by
  intro n; induction n with
  | zero => intro x2 h2 x4 h4 M hM; exact xg_none
  | succ n ih =>
    intro x2 h2 x4 h4 M hM
    rw [fX2_findLenders_27]
    refine xg_iload dX2_findLenders_27 (Eq.refl 29) rfl ?_
    refine xg_aload_n dX2_findLenders_29 (Eq.refl 30) rfl ?_
    refine xg_getR (k := 3) xcl2 h0 rfl xq_108 rfl (xt_2_3 h0).1 dX2_findLenders_30 (Eq.refl 33) ?_
    refine xg_alen (z := 10) (xt_2_3 h0).2 (by decide) dX2_findLenders_33 (Eq.refl 34) rfl ?_
    refine xg_icmp_ge (tgt := 134) dX2_findLenders_34 (Eq.refl 37) (by decide) h4 (by decide) ?_ ?_
    · exact xg_vret rfl dX2_findLenders_134 rfl hM
    · refine xg_aload_n dX2_findLenders_37 (Eq.refl 38) rfl ?_
      refine xg_getR (k := 0) xcl2 h0 rfl xq_109 rfl (xt_2_0 h0).1 dX2_findLenders_38 (Eq.refl 41) ?_
      refine xg_iload dX2_findLenders_41 (Eq.refl 43) rfl ?_
      refine xg_callV_R (cr := 0) (kc := 0) (ks := 0) (st := []) (mX1_account hl (xr x0 0) (xt_2_0 h0).2 x4 h4 M hM) bX1_account xcl1 (xt_2_0 h0).2 rfl xq_650 rfl (by decide) rfl (by decide) dX2_findLenders_43 (Eq.refl 46) rfl (by decide) (by decide) ?_
      intro z1 M2 hz1 hM2
      refine xg_astore (ls2 := [some (.ref x0), some (.ref x1), some (jv x2), none, some (iv x4), some (.ref z1.toNat), none, none, none]) dX2_findLenders_46 (Eq.refl 48) (by decide) rfl ?_
      refine xg_aload dX2_findLenders_48 (Eq.refl 50) rfl ?_
      refine xg_getZ (k := 3) xcl0 hz1 rfl xq_687 rfl dX2_findLenders_50 (Eq.refl 53) hM2 ?_
      refine xg_if_eq (tgt := 78) dX2_findLenders_53 (Eq.refl 56) (by decide) (B01.r (hM2.Z hz1 rfl)) ?_ ?_
      · exact xg_jump (gX2_findLenders_78 hl (fX2_findLenders_27 x0 x1 n) x0 h0 x1 h1 x2 h2 x4 h4 z1.toNat hz1 ih M2 hM2) (xsb_s (xsb_s (xsb_s (xsb_n (xsb_s (xsb_s (xsb_n (xsb_n (xsb_n xsb_0))))))))) (by decide) (by decide)
      · refine xg_iload dX2_findLenders_56 (Eq.refl 58) rfl ?_
        refine xg_aload_n dX2_findLenders_58 (Eq.refl 59) rfl ?_
        refine xg_getI (k := 3) xcl10 h1 rfl xq_382 rfl dX2_findLenders_59 (Eq.refl 62) ?_
        refine xg_icmp_eq (tgt := 78) dX2_findLenders_62 (Eq.refl 65) (by decide) h4 (hM2.I h1 rfl) ?_ ?_
        · exact xg_jump (gX2_findLenders_78 hl (fX2_findLenders_27 x0 x1 n) x0 h0 x1 h1 x2 h2 x4 h4 z1.toNat hz1 ih M2 hM2) (xsb_s (xsb_s (xsb_s (xsb_n (xsb_s (xsb_s (xsb_n (xsb_n (xsb_n xsb_0))))))))) (by decide) (by decide)
        · refine xg_iload dX2_findLenders_65 (Eq.refl 67) rfl ?_
          refine xg_aload_n dX2_findLenders_67 (Eq.refl 68) rfl ?_
          refine xg_getI (k := 4) xcl10 h1 rfl xq_383 rfl dX2_findLenders_68 (Eq.refl 71) ?_
          refine xg_icmp_eq (tgt := 78) dX2_findLenders_71 (Eq.refl 74) (by decide) h4 (hM2.I h1 rfl) ?_ ?_
          · exact xg_jump (gX2_findLenders_78 hl (fX2_findLenders_27 x0 x1 n) x0 h0 x1 h1 x2 h2 x4 h4 z1.toNat hz1 ih M2 hM2) (xsb_s (xsb_s (xsb_s (xsb_n (xsb_s (xsb_s (xsb_n (xsb_n (xsb_n xsb_0))))))))) (by decide) (by decide)
          · refine xg_iconst dX2_findLenders_74 (Eq.refl 75) ?_
            refine xg_goto (tgt := 79) dX2_findLenders_75 (by decide) ?_
            exact xg_jump (gX2_findLenders_79 hl (fX2_findLenders_27 x0 x1 n) x0 h0 x1 h1 x2 h2 x4 h4 z1.toNat hz1 1 (by decide) ih M2 hM2) (xsb_s (xsb_s (xsb_s (xsb_n (xsb_s (xsb_s (xsb_n (xsb_n (xsb_n xsb_0))))))))) (by decide) (by decide)
theorem mX2_findLenders {l : Launch} {G : xG} (hl : l.stackTraces = false) (x0 : Nat) (h0 : xOb 2 x0) (x1 : Nat) (h1 : xOb 10 x1) (M : xM) (hM : xcan M) : Cm l G yX2_findLenders cX2_findLenders 9 none 2 3 0 0 [.ref x0, .ref x1] M (fX2_findLenders x0 x1 M) := by
  refine xcm_of (u := uX2_findLenders) (ls := [some (.ref x0), some (.ref x1), none, none, none, none, none, none, none]) 7 hl rfl (by decide +kernel) (Nat.le_of_ble_eq_true rfl) rfl ?_
  unfold fX2_findLenders
  refine xg_aload_n dX2_findLenders_0 (Eq.refl 1) rfl ?_
  refine xg_getJ (k := 6) xcl10 h1 rfl xq_344 rfl dX2_findLenders_1 (Eq.refl 4) ?_
  refine xg_aload_n dX2_findLenders_4 (Eq.refl 5) rfl ?_
  refine xg_getR (k := 0) xcl2 h0 rfl xq_109 rfl (xt_2_0 h0).1 dX2_findLenders_5 (Eq.refl 8) ?_
  refine xg_aload_n dX2_findLenders_8 (Eq.refl 9) rfl ?_
  refine xg_getI (k := 3) xcl10 h1 rfl xq_382 rfl dX2_findLenders_9 (Eq.refl 12) ?_
  refine xg_callV_R (cr := 0) (kc := 0) (ks := 0) (st := [jv (M x1 6)]) (mX1_account hl (xr x0 0) (xt_2_0 h0).2 (M x1 3) (hM.I h1 rfl) M hM) bX1_account xcl1 (xt_2_0 h0).2 rfl xq_650 rfl (by decide) rfl (Nat.le_of_ble_eq_true rfl) dX2_findLenders_12 (Eq.refl 15) rfl (by decide) (by decide) ?_
  intro z1 M2 hz1 hM2
  refine xg_aload_n dX2_findLenders_15 (Eq.refl 16) rfl ?_
  refine xg_getI (k := 5) xcl10 h1 rfl xq_343 rfl dX2_findLenders_16 (Eq.refl 19) ?_
  refine xg_callV_J (kc := 0) (ks := 0) (st := [jv (M x1 6)]) (mX0_freeOf hl z1.toNat hz1 (M2 x1 5) (hM2.I h1 rfl) M2 hM2) bX0_freeOf xcl0 hz1 rfl xq_651 rfl (by decide) rfl (Nat.le_of_ble_eq_true rfl) dX2_findLenders_19 (Eq.refl 22) rfl (by decide) (by decide) ?_
  intro z3 M4 hz3 hM4
  refine xg_lsub dX2_findLenders_22 (Eq.refl 23) ?_
  refine xg_lstore_nL (P := R64) (ls2 := fun y5 => [some (.ref x0), some (.ref x1), some (jv y5), none, none, none, none, none, none]) dX2_findLenders_23 (Eq.refl 24) (by decide) (w64_r _) (fun _ => rfl) ?_
  intro y5 hy5
  refine xg_iconst dX2_findLenders_24 (Eq.refl 25) ?_
  refine xg_istore (ls2 := [some (.ref x0), some (.ref x1), some (jv y5), none, some (iv 0), none, none, none, none]) dX2_findLenders_25 (Eq.refl 27) (by decide) rfl ?_
  exact xg_jump (gX2_findLenders_27 hl x0 h0 x1 h1 xN y5 hy5 0 (by decide) M4 hM4) (xsb_s (xsb_s (xsb_s (xsb_n (xsb_s (xsb_n (xsb_n (xsb_n (xsb_n xsb_0))))))))) (by decide) (by decide)
