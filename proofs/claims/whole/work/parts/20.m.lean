abbrev uX11_used : xU := (RX11, cX11_used, 9, (some .double), [], "used")
theorem bX11_used : xYV yX11_used cX11_used 9 (some .double) 1 := ⟨xq_1473, xq_1474, xq_2, xq_1475, ⟨by decide +kernel, by decide +kernel, by decide +kernel⟩, by decide⟩
theorem mX11_used {l : Launch} {G : xG} (hl : l.stackTraces = false) (x0 : Nat) (h0 : xOb 11 x0) (x1 : Int) (h1 : R32 x1) (M : xM) (hM : xcan M) : Cm l G yX11_used cX11_used 9 (some .double) 3 4 1 6 [.ref x0, iv x1] M (fX11_used x0 x1 M) := by
  refine xcm_of (u := uX11_used) (ls := [some (.ref x0), some (iv x1), none, none, none, none, none, none, none]) 7 hl rfl (by decide +kernel) (Nat.le_of_ble_eq_true rfl) rfl ?_
  unfold fX11_used
  refine xg_aload_n dX11_used_0 (Eq.refl 1) rfl ?_
  refine xg_iload_n dX11_used_1 (Eq.refl 2) rfl ?_
  refine xg_callV_N (kc := 0) (ks := 0) (st := []) (mX11_needAccount hl x0 h0 x1 h1 M hM) bX11_needAccount xcl11 h0 rfl xq_146 rfl (by decide) rfl (by decide) dX11_used_2 (Eq.refl 5) rfl (by decide) (by decide) ?_
  intro z1 M2 hz1 hM2
  refine xg_aload_n dX11_used_5 (Eq.refl 6) rfl ?_
  refine xg_getR (k := 1) xcl11 h0 rfl xq_21 rfl (xt_11_1 h0).1 dX11_used_6 (Eq.refl 9) ?_
  refine xg_iload_n dX11_used_9 (Eq.refl 10) rfl ?_
  refine xg_callV_R (cr := 0) (kc := 0) (ks := 0) (st := []) (mX1_account hl (xr x0 1) (xt_11_1 h0).2 x1 h1 M2 hM2) bX1_account xcl1 (xt_11_1 h0).2 rfl xq_163 rfl (by decide) rfl (by decide) dX11_used_10 (Eq.refl 13) rfl (by decide) (by decide) ?_
  intro z3 M4 hz3 hM4
  refine xg_astore_n (ls2 := [some (.ref x0), some (iv x1), some (.ref z3.toNat), none, none, none, none, none, none]) dX11_used_13 (Eq.refl 14) (by decide) rfl ?_
  refine xg_aload_n dX11_used_14 (Eq.refl 15) rfl ?_
  refine xg_callV_J (kc := 0) (ks := 0) (st := []) (mX0_freeCash hl z3.toNat hz3 M4 hM4) bX0_freeCash xcl0 hz3 rfl xq_1477 rfl (by decide) rfl (by decide) dX11_used_15 (Eq.refl 18) rfl (by decide) (by decide) ?_
  intro z5 M6 hz5 hM6
  refine xg_lstore_n (ls2 := [some (.ref x0), some (iv x1), some (.ref z3.toNat), some (jv z5), none, none, none, none, none]) dX11_used_18 (Eq.refl 19) (by decide) rfl ?_
  refine xg_lload_n dX11_used_19 (Eq.refl 20) rfl ?_
  refine xg_lconst (z := 0) dX11_used_20 (Eq.refl 21) rfl ?_
  refine xg_lif_lt (tgt := 27) dX11_used_21 (Eq.refl 22) dX11_used_22 (Eq.refl 25) (by decide) hz5 (by decide) ?_ ?_
  · refine xg_aload_n dX11_used_27 (Eq.refl 28) rfl ?_
    refine xg_getR (k := 1) xcl11 h0 rfl xq_21 rfl (xt_11_1 h0).1 dX11_used_28 (Eq.refl 31) ?_
    refine xg_aload_n dX11_used_31 (Eq.refl 32) rfl ?_
    refine xg_callV_J (kc := 0) (ks := 0) (st := []) (mX1_limitOf hl (xr x0 1) (xt_11_1 h0).2 z3.toNat hz3 M6 hM6) bX1_limitOf xcl1 (xt_11_1 h0).2 rfl xq_1453 rfl (by decide) rfl (by decide) dX11_used_32 (Eq.refl 35) rfl (by decide) (by decide) ?_
    intro z7 M8 hz7 hM8
    refine xg_lstore (ls2 := [some (.ref x0), some (iv x1), some (.ref z3.toNat), some (jv z5), none, some (jv z7), none, none, none]) dX11_used_35 (Eq.refl 37) (by decide) rfl ?_
    refine xg_lload dX11_used_37 (Eq.refl 39) rfl ?_
    refine xg_lconst (z := 0) dX11_used_39 (Eq.refl 40) rfl ?_
    refine xg_lif_ne (tgt := 55) dX11_used_40 (Eq.refl 41) dX11_used_41 (Eq.refl 44) (by decide) hz7 (by decide) ?_ ?_
    · refine xg_ldc2d xq_1476 dX11_used_44 (Eq.refl 47) ?_
      refine xg_dstore (ls2 := [some (.ref x0), some (iv x1), some (.ref z3.toNat), some (jv z5), none, some (jv z7), none, some (.double (9094988921128908188 : UInt64)), none]) dX11_used_47 (Eq.refl 49) (by decide) rfl ?_
      refine xg_dload dX11_used_49 (Eq.refl 51) rfl ?_
      refine xg_dload dX11_used_51 (Eq.refl 53) rfl ?_
      refine xg_dmul dX11_used_53 (Eq.refl 54) ?_
      exact xg_dret rfl dX11_used_54 rfl hM8
    · refine xg_lload_n dX11_used_55 (Eq.refl 56) rfl ?_
      refine xg_lneg dX11_used_56 (Eq.refl 57) ?_
      refine xg_l2d dX11_used_57 (Eq.refl 58) ?_
      refine xg_lload dX11_used_58 (Eq.refl 60) rfl ?_
      refine xg_l2d dX11_used_60 (Eq.refl 61) ?_
      refine xg_ddiv dX11_used_61 (Eq.refl 62) ?_
      exact xg_dret rfl dX11_used_62 rfl hM8
  · refine xg_dconst0 dX11_used_25 (Eq.refl 26) ?_
    exact xg_dret rfl dX11_used_26 rfl hM6
abbrev uX12_used : xU := (RX12, cX12_used, 2, (some .double), [], "used")
theorem bX12_used : xYV yX12_used cX12_used 2 (some .double) 1 := ⟨xq_1479, xq_1480, xq_5, xq_1481, ⟨by decide +kernel, by decide +kernel, by decide +kernel⟩, by decide⟩
theorem gX12_used_14 {l : Launch} {G : xG} (hl : l.stackTraces = false) (x0 : Nat) (h0 : xOb 12 x0) (x1 : Int) (h1 : R32 x1) (s0 : Int) (hs0 : B01 s0) (s1 : Nat) (hs1 : xOb 12 s1) (M : xM) (hM : xcan M) : Gv l G uX12_used 3 4 0 0 14 [some (.ref x0), some (iv x1)] [iv s0, .ref s1] M (fX12_used_14 x0 x1 s0 s1 M) := by
  unfold fX12_used_14
  refine xg_callV_Z (kc := 0) (ks := 0) (st := []) (mX12_holds hl s1 hs1 s0 (B01.r hs0) M hM) bX12_holds xcl12 hs1 rfl xq_187 rfl (by decide) rfl (by decide) dX12_used_14 (Eq.refl 17) rfl (by decide) (by decide) ?_
  intro z1 M2 hz1 hM2
  refine xg_if_eq (tgt := 22) dX12_used_17 (Eq.refl 20) (by decide) (B01.r hz1) ?_ ?_
  · refine xg_aload_n dX12_used_22 (Eq.refl 23) rfl ?_
    refine xg_iload_n dX12_used_23 (Eq.refl 24) rfl ?_
    refine xg_callV_J (kc := 0) (ks := 0) (st := []) (mX12_freeCash hl x0 h0 x1 h1 M2 hM2) bX12_freeCash xcl12 h0 rfl xq_362 rfl (by decide) rfl (by decide) dX12_used_24 (Eq.refl 27) rfl (by decide) (by decide) ?_
    intro z3 M4 hz3 hM4
    refine xg_lconst (z := 0) dX12_used_27 (Eq.refl 28) rfl ?_
    refine xg_lif_lt (tgt := 36) dX12_used_28 (Eq.refl 29) dX12_used_29 (Eq.refl 32) (by decide) hz3 (by decide) ?_ ?_
    · refine xg_aload_n dX12_used_36 (Eq.refl 37) rfl ?_
      refine xg_iload_n dX12_used_37 (Eq.refl 38) rfl ?_
      refine xg_callV_J (kc := 0) (ks := 0) (st := []) (mX12_freeCash hl x0 h0 x1 h1 M4 hM4) bX12_freeCash xcl12 h0 rfl xq_362 rfl (by decide) rfl (by decide) dX12_used_38 (Eq.refl 41) rfl (by decide) (by decide) ?_
      intro z5 M6 hz5 hM6
      refine xg_lneg dX12_used_41 (Eq.refl 42) ?_
      refine xg_l2d dX12_used_42 (Eq.refl 43) ?_
      refine xg_aload_n dX12_used_43 (Eq.refl 44) rfl ?_
      refine xg_iload_n dX12_used_44 (Eq.refl 45) rfl ?_
      refine xg_callV_J (kc := 0) (ks := 0) (st := [.double (xl2d (w64 (-z5)))]) (mX12_limitOf hl x0 h0 x1 h1 M6 hM6) bX12_limitOf xcl12 h0 rfl xq_366 rfl (by decide) rfl (Nat.le_of_ble_eq_true rfl) dX12_used_45 (Eq.refl 48) rfl (by decide) (by decide) ?_
      intro z7 M8 hz7 hM8
      refine xg_l2d dX12_used_48 (Eq.refl 49) ?_
      refine xg_ddiv dX12_used_49 (Eq.refl 50) ?_
      exact xg_dret rfl dX12_used_50 rfl hM8
    · refine xg_dconst0 dX12_used_32 (Eq.refl 33) ?_
      refine xg_goto (tgt := 50) dX12_used_33 (by decide) ?_
      exact xg_dret rfl dX12_used_50 rfl hM4
  · refine xg_dconst0 dX12_used_20 (Eq.refl 21) ?_
    exact xg_dret rfl dX12_used_21 rfl hM2
theorem mX12_used {l : Launch} {G : xG} (hl : l.stackTraces = false) (x0 : Nat) (h0 : xOb 12 x0) (x1 : Int) (h1 : R32 x1) (M : xM) (hM : xcan M) : Cm l G yX12_used cX12_used 2 (some .double) 3 4 0 0 [.ref x0, iv x1] M (fX12_used x0 x1 M) := by
  refine xcm_of (u := uX12_used) (ls := [some (.ref x0), some (iv x1)]) 0 hl rfl (by decide +kernel) (Nat.le_of_ble_eq_true rfl) rfl ?_
  unfold fX12_used
  refine xg_aload_n dX12_used_0 (Eq.refl 1) rfl ?_
  refine xg_aload_n dX12_used_1 (Eq.refl 2) rfl ?_
  refine xg_iload_n dX12_used_2 (Eq.refl 3) rfl ?_
  refine xg_callV_Z (kc := 0) (ks := 0) (st := [.ref x0]) (mX12_isAccount hl x0 h0 x1 h1 M hM) bX12_isAccount xcl12 h0 rfl xq_183 rfl (by decide) rfl (Nat.le_of_ble_eq_true rfl) dX12_used_3 (Eq.refl 6) rfl (by decide) (by decide) ?_
  intro z1 M2 hz1 hM2
  refine xg_if_eq (tgt := 13) dX12_used_6 (Eq.refl 9) (by decide) (B01.r hz1) ?_ ?_
  · refine xg_iconst dX12_used_13 (Eq.refl 14) ?_
    exact xg_jump (gX12_used_14 hl x0 h0 x1 h1 1 (by decide) x0 h0 M2 hM2) (xsb_s (xsb_s xsb_0)) (by decide) (by decide)
  · refine xg_iconst dX12_used_9 (Eq.refl 10) ?_
    refine xg_goto (tgt := 14) dX12_used_10 (by decide) ?_
    exact xg_jump (gX12_used_14 hl x0 h0 x1 h1 0 (by decide) x0 h0 M2 hM2) (xsb_s (xsb_s xsb_0)) (by decide) (by decide)
abbrev uL_used : xU := (RL, cL_used, 4, (some .int), tableOf [(0, 8, 11, 13)], "used")
theorem bL_used : xYW yL_used cL_used 4 (some .int) [(0, 8, 11, 13)] 3 := ⟨xq_1470, xq_130, xq_1471, ⟨by decide +kernel, by decide +kernel, by decide +kernel⟩, by decide⟩
theorem mL_used {l : Launch} {G : xG} (hl : l.stackTraces = false) (x0 : Nat) (h0 : xOb 11 x0) (x1 : Int) (h1 : R32 x1) (x2 : Nat) (h2 : xAn 2 (xln x2) x2) (M : xM) (hM : xcan M) : CmW l G yL_used cL_used 4 (some .int) [(0, 8, 11, 13)] 4 0 1 6 [.ref x0, iv x1, .ref x2] M (fL_used x0 x1 x2 M) := by
  refine xcmw_of (u := uL_used) (ls := [some (.ref x0), some (iv x1), some (.ref x2), none]) 1 hl rfl (by decide +kernel) (Nat.le_of_ble_eq_true rfl) rfl ?_
  unfold fL_used
  refine xg_aload_n dL_used_0 (Eq.refl 1) rfl ?_
  refine xg_iconst dL_used_1 (Eq.refl 2) ?_
  refine xg_aload_n dL_used_2 (Eq.refl 3) rfl ?_
  refine xg_iload_n dL_used_3 (Eq.refl 4) rfl ?_
  refine xg_callVC_D (kc := 0) (ks := 0) (st := [iv 0, .ref x2]) (mX11_used hl x0 h0 x1 h1 M hM) bX11_used xcl11 h0 rfl xq_1472 rfl (by decide) (Nat.le_of_ble_eq_true rfl) dL_used_4 (Eq.refl 7) rfl (by decide) (by decide) ?_ ?_
  · intro z1 M2 hz1 hM2
    refine xg_dast h2 dL_used_7 (Eq.refl 8) hM2 ?_
    intro M3 hM3
    refine xg_goto (tgt := 14) dL_used_8 (by decide) ?_
    refine xg_iconst dL_used_14 (Eq.refl 15) ?_
    exact xg_iret rfl dL_used_15 rfl hM3 (by decide)
  · intro e M4 he hM4
    have he3 : e = 0 ∨ e = 1 ∨ e = 2 := by omega
    rcases he3 with rfl | rfl | rfl
    · refine xgx_c0 ?_
      refine xgx_catch (pre := tableOf []) (suf := tableOf []) (x := ⟨0, 8, 11, 13⟩) (j := 3) (ln := 1) rfl (fun z hz => by cases hz) (by decide) (by decide) (by decide) xq_132 (by decide) (Or.inr ⟨3, rfl, dL_used_11, rfl⟩) ?_
      show Gv _ _ _ _ _ _ _ 12 _ _ _ _
      refine xg_iconst dL_used_12 (Eq.refl 13) ?_
      exact xg_iret rfl dL_used_13 rfl hM4 (by decide)
    · exact xgx_none
    · exact xgx_none
abbrev uL_law (tab : List ExceptionTableEntry) (nm : String) : xU := (RL, cL_law, 9, (some .boolean), tab, nm)
theorem gL_law_3031 {l : Launch} {G : xG} (hl : l.stackTraces = false) (tab : List ExceptionTableEntry) (nm : String) (sl : Nat) (sx : Nat → Int32) (hS : G.2.2.2.1.2 = (sl, sx)) (hsl : sl ≤ 2147483647) (k s : Nat) (rc28 : Int → xM → xO) (x1 : Nat) (h1 : xOb 11 x1) (x2 : Nat) (h2 : xOb 12 x2) (x3 : Nat) (h3 : xAn 1 1 x3) (x4 : Nat) (h4 : xAn 2 1 x4) (x5 : Int) (h5 : R32 x5) (hr28 : ∀ w5 : Int, R32 w5 → ∀ M : xM, xcan M → Gv l G (uL_law tab nm) 21 1 k s 28 [some (.ref xSCR), some (.ref x1), some (.ref x2), some (.ref x3), some (.ref x4), some (iv w5), none, none, none] [] M (rc28 w5 M)) (M : xM) (hM : xcan M) : Gv l G (uL_law tab nm) 21 1 k s 3031 [some (.ref xSCR), some (.ref x1), some (.ref x2), some (.ref x3), some (.ref x4), some (iv x5), none, none, none] [] M (fL_law_3031 sl sx rc28 x1 x2 x3 x4 x5 M) := by
  unfold fL_law_3031
  refine xg_iinc (ls2 := [some (.ref xSCR), some (.ref x1), some (.ref x2), some (.ref x3), some (.ref x4), some (iv (w32 (x5 + 10))), none, none, none]) dL_law_3031 (Eq.refl 3034) rfl (show 5 < 9 by decide) rfl ?_
  refine xg_goto (tgt := 28) dL_law_3034 (by decide) ?_
  exact xg_jump (hr28 (w32 (x5 + 10)) (w32_r _) M hM) (xsb_s (xsb_s (xsb_s (xsb_s (xsb_s (xsb_s (xsb_n (xsb_n (xsb_n xsb_0))))))))) (by omega) (by omega)
theorem gL_law_3028 {l : Launch} {G : xG} (hl : l.stackTraces = false) (tab : List ExceptionTableEntry) (nm : String) (sl : Nat) (sx : Nat → Int32) (hS : G.2.2.2.1.2 = (sl, sx)) (hsl : sl ≤ 2147483647) (k s : Nat) (rc28 : Int → xM → xO) (x1 : Nat) (h1 : xOb 11 x1) (x2 : Nat) (h2 : xOb 12 x2) (x3 : Nat) (h3 : xAn 1 1 x3) (x4 : Nat) (h4 : xAn 2 1 x4) (x5 : Int) (h5 : R32 x5) (hr28 : ∀ w5 : Int, R32 w5 → ∀ M : xM, xcan M → Gv l G (uL_law tab nm) 21 1 k s 28 [some (.ref xSCR), some (.ref x1), some (.ref x2), some (.ref x3), some (.ref x4), some (iv w5), none, none, none] [] M (rc28 w5 M)) (M : xM) (hM : xcan M) : Gv l G (uL_law tab nm) 21 1 k s 3028 [some (.ref xSCR), some (.ref x1), some (.ref x2), some (.ref x3), some (.ref x4), some (iv x5), none, none, none] [] M (fL_law_3028 sl sx rc28 x1 x2 x3 x4 x5 M) := by
  unfold fL_law_3028
  refine xg_goto (tgt := 3031) dL_law_3028 (by decide) ?_
  exact xg_jump (gL_law_3031 hl tab nm sl sx hS hsl k s rc28 x1 h1 x2 h2 x3 h3 x4 h4 x5 h5 hr28 M hM) (xsb_s (xsb_s (xsb_s (xsb_s (xsb_s (xsb_s (xsb_n (xsb_n (xsb_n xsb_0))))))))) (by omega) (by omega)
theorem gL_law_2976 {l : Launch} {G : xG} (hl : l.stackTraces = false) (tab : List ExceptionTableEntry) (nm : String) (sl : Nat) (sx : Nat → Int32) (hS : G.2.2.2.1.2 = (sl, sx)) (hsl : sl ≤ 2147483647) (k s : Nat) (rc28 : Int → xM → xO) (x1 : Nat) (h1 : xOb 11 x1) (x2 : Nat) (h2 : xOb 12 x2) (x3 : Nat) (h3 : xAn 1 1 x3) (x4 : Nat) (h4 : xAn 2 1 x4) (x5 : Int) (h5 : R32 x5) (hr28 : ∀ w5 : Int, R32 w5 → ∀ M : xM, xcan M → Gv l G (uL_law tab nm) 21 1 k s 28 [some (.ref xSCR), some (.ref x1), some (.ref x2), some (.ref x3), some (.ref x4), some (iv w5), none, none, none] [] M (rc28 w5 M)) (M : xM) (hM : xcan M) : Gv l G (uL_law tab nm) 21 1 (k + 11) (s + 66) 2976 [some (.ref xSCR), some (.ref x1), some (.ref x2), some (.ref x3), some (.ref x4), some (iv x5), none, none, none] [] M (fL_law_2976 sl sx rc28 x1 x2 x3 x4 x5 M) := by
  unfold fL_law_2976
  refine xg_aload_n dL_law_2976 (Eq.refl 2977) rfl ?_
  refine xg_aload_n dL_law_2977 (Eq.refl 2978) rfl ?_
  refine xg_iload dL_law_2978 (Eq.refl 2980) rfl ?_
  refine xg_iconst dL_law_2980 (Eq.refl 2981) ?_
  refine xg_iadd dL_law_2981 (Eq.refl 2982) ?_
  refine xg_sld hS hsl dL_law_2982 (Eq.refl 2983) ?_
  refine xg_aload_n dL_law_2983 (Eq.refl 2984) rfl ?_
  refine xg_callWC_I (kc := k) (ks := s) (st := []) (mL_loan hl x1 h1 (sx (w32 (x5 + 1)).toNat).toInt (xsx_r _) x3 (xAn.l h3) M hM) bL_loan xq_1599 rfl (by decide) (by decide) dL_law_2984 (Eq.refl 2987) rfl (by omega) (by omega) ?_
  intro z1 M2 hz1 hM2
  refine xg_istore (ls2 := [some (.ref xSCR), some (.ref x1), some (.ref x2), some (.ref x3), some (.ref x4), some (iv x5), some (iv z1), none, none]) dL_law_2987 (Eq.refl 2989) (show 6 < 9 by decide) rfl ?_
  refine xg_aload_n dL_law_2989 (Eq.refl 2990) rfl ?_
  refine xg_aload_n dL_law_2990 (Eq.refl 2991) rfl ?_
  refine xg_iload dL_law_2991 (Eq.refl 2993) rfl ?_
  refine xg_iconst dL_law_2993 (Eq.refl 2994) ?_
  refine xg_iadd dL_law_2994 (Eq.refl 2995) ?_
  refine xg_sld hS hsl dL_law_2995 (Eq.refl 2996) ?_
  refine xg_callVC_J (kc := k) (ks := s) (st := []) (mX12_loan hl x2 h2 (sx (w32 (x5 + 1)).toNat).toInt (xsx_r _) M2 hM2) bX12_loan xcl12 h2 rfl xq_1606 rfl (by decide) (by decide) dL_law_2996 (Eq.refl 2999) rfl (by omega) (by omega) ?_ ?_
  · intro z3 M4 hz3 hM4
    refine xg_lstore (ls2 := [some (.ref xSCR), some (.ref x1), some (.ref x2), some (.ref x3), some (.ref x4), some (iv x5), some (iv z1), some (jv z3), none]) dL_law_2999 (Eq.refl 3001) (show 7 + 1 < 9 by decide) rfl ?_
    refine xg_aload_n dL_law_3001 (Eq.refl 3002) rfl ?_
    refine xg_callVC_I (kc := k) (ks := s) (st := []) (mX12_thrown hl x2 h2 M4 hM4) bX12_thrown xcl12 h2 rfl xq_192 rfl (by decide) (by decide) dL_law_3002 (Eq.refl 3005) rfl (by omega) (by omega) ?_ ?_
    · intro z5 M6 hz5 hM6
      refine xg_iload dL_law_3005 (Eq.refl 3007) rfl ?_
      refine xg_icmp_eq (tgt := 3012) dL_law_3007 (Eq.refl 3010) (by decide) hz5 hz1 ?_ ?_
      · refine xg_iload dL_law_3012 (Eq.refl 3014) rfl ?_
        refine xg_if_ne (tgt := 3028) dL_law_3014 (Eq.refl 3017) (by decide) hz1 ?_ ?_
        · refine xg_aload_n dL_law_3017 (Eq.refl 3018) rfl ?_
          refine xg_iconst dL_law_3018 (Eq.refl 3019) ?_
          refine xg_laldk (k := 0) h3 dL_law_3019 (Eq.refl 3020) rfl (by decide) ?_
          refine xg_lload dL_law_3020 (Eq.refl 3022) rfl ?_
          refine xg_lif_eq (tgt := 3028) dL_law_3022 (Eq.refl 3023) dL_law_3023 (Eq.refl 3026) (by decide) (hM6.aj h3) hz3 ?_ ?_
          · exact xg_jump (gL_law_3028 hl tab nm sl sx hS hsl k s rc28 x1 h1 x2 h2 x3 h3 x4 h4 x5 h5 hr28 M6 hM6) (xsb_s (xsb_s (xsb_s (xsb_s (xsb_s (xsb_s (xsb_n (xsb_n (xsb_n xsb_0))))))))) (by omega) (by omega)
          · refine xg_iconst dL_law_3026 (Eq.refl 3027) ?_
            exact xg_zret rfl dL_law_3027 rfl hM6 (by decide)
        · exact xg_jump (gL_law_3028 hl tab nm sl sx hS hsl k s rc28 x1 h1 x2 h2 x3 h3 x4 h4 x5 h5 hr28 M6 hM6) (xsb_s (xsb_s (xsb_s (xsb_s (xsb_s (xsb_s (xsb_n (xsb_n (xsb_n xsb_0))))))))) (by omega) (by omega)
      · refine xg_iconst dL_law_3010 (Eq.refl 3011) ?_
        exact xg_zret rfl dL_law_3011 rfl hM6 (by decide)
    · intro e M9 he hM9
      exact xgx_none
  · intro e M9 he hM9
    exact xgx_none
theorem gL_law_2963 {l : Launch} {G : xG} (hl : l.stackTraces = false) (tab : List ExceptionTableEntry) (nm : String) (sl : Nat) (sx : Nat → Int32) (hS : G.2.2.2.1.2 = (sl, sx)) (hsl : sl ≤ 2147483647) (k s : Nat) (rc28 : Int → xM → xO) (x1 : Nat) (h1 : xOb 11 x1) (x2 : Nat) (h2 : xOb 12 x2) (x3 : Nat) (h3 : xAn 1 1 x3) (x4 : Nat) (h4 : xAn 2 1 x4) (x5 : Int) (h5 : R32 x5) (hr28 : ∀ w5 : Int, R32 w5 → ∀ M : xM, xcan M → Gv l G (uL_law tab nm) 21 1 k s 28 [some (.ref xSCR), some (.ref x1), some (.ref x2), some (.ref x3), some (.ref x4), some (iv w5), none, none, none] [] M (rc28 w5 M)) (M : xM) (hM : xcan M) : Gv l G (uL_law tab nm) 21 1 k s 2963 [some (.ref xSCR), some (.ref x1), some (.ref x2), some (.ref x3), some (.ref x4), some (iv x5), none, none, none] [] M (fL_law_2963 sl sx rc28 x1 x2 x3 x4 x5 M) := by
  unfold fL_law_2963
  refine xg_aload_n dL_law_2963 (Eq.refl 2964) rfl ?_
  refine xg_callVC_I (kc := k) (ks := s) (st := []) (mX11_loans hl x1 h1 M hM) bX11_loans xcl11 h1 rfl xq_1591 rfl (by decide) (by decide) dL_law_2964 (Eq.refl 2967) rfl (by omega) (by omega) ?_ ?_
  · intro z1 M2 hz1 hM2
    refine xg_aload_n dL_law_2967 (Eq.refl 2968) rfl ?_
    refine xg_callVC_I (kc := k) (ks := s) (st := [iv z1]) (mX12_loans hl x2 h2 M2 hM2) bX12_loans xcl12 h2 rfl xq_1595 rfl (by decide) (Nat.le_of_ble_eq_true rfl) dL_law_2968 (Eq.refl 2971) rfl (by omega) (by omega) ?_ ?_
    · intro z3 M4 hz3 hM4
      refine xg_icmp_eq (tgt := 3031) dL_law_2971 (Eq.refl 2974) (by decide) hz1 hz3 ?_ ?_
      · exact xg_jump (gL_law_3031 hl tab nm sl sx hS hsl k s rc28 x1 h1 x2 h2 x3 h3 x4 h4 x5 h5 hr28 M4 hM4) (xsb_s (xsb_s (xsb_s (xsb_s (xsb_s (xsb_s (xsb_n (xsb_n (xsb_n xsb_0))))))))) (by omega) (by omega)
      · refine xg_iconst dL_law_2974 (Eq.refl 2975) ?_
        exact xg_zret rfl dL_law_2975 rfl hM4 (by decide)
    · intro e M9 he hM9
      exact xgx_none
  · intro e M9 he hM9
    exact xgx_none
theorem gL_law_2960 {l : Launch} {G : xG} (hl : l.stackTraces = false) (tab : List ExceptionTableEntry) (nm : String) (sl : Nat) (sx : Nat → Int32) (hS : G.2.2.2.1.2 = (sl, sx)) (hsl : sl ≤ 2147483647) (k s : Nat) (rc28 : Int → xM → xO) (x1 : Nat) (h1 : xOb 11 x1) (x2 : Nat) (h2 : xOb 12 x2) (x3 : Nat) (h3 : xAn 1 1 x3) (x4 : Nat) (h4 : xAn 2 1 x4) (x5 : Int) (h5 : R32 x5) (hr28 : ∀ w5 : Int, R32 w5 → ∀ M : xM, xcan M → Gv l G (uL_law tab nm) 21 1 k s 28 [some (.ref xSCR), some (.ref x1), some (.ref x2), some (.ref x3), some (.ref x4), some (iv w5), none, none, none] [] M (rc28 w5 M)) (M : xM) (hM : xcan M) : Gv l G (uL_law tab nm) 21 1 k s 2960 [some (.ref xSCR), some (.ref x1), some (.ref x2), some (.ref x3), some (.ref x4), some (iv x5), none, none, none] [] M (fL_law_2960 sl sx rc28 x1 x2 x3 x4 x5 M) := by
  unfold fL_law_2960
  refine xg_goto (tgt := 3031) dL_law_2960 (by decide) ?_
  exact xg_jump (gL_law_3031 hl tab nm sl sx hS hsl k s rc28 x1 h1 x2 h2 x3 h3 x4 h4 x5 h5 hr28 M hM) (xsb_s (xsb_s (xsb_s (xsb_s (xsb_s (xsb_s (xsb_n (xsb_n (xsb_n xsb_0))))))))) (by omega) (by omega)
theorem gL_law_2907 {l : Launch} {G : xG} (hl : l.stackTraces = false) (tab : List ExceptionTableEntry) (nm : String) (sl : Nat) (sx : Nat → Int32) (hS : G.2.2.2.1.2 = (sl, sx)) (hsl : sl ≤ 2147483647) (k s : Nat) (rc28 : Int → xM → xO) (x1 : Nat) (h1 : xOb 11 x1) (x2 : Nat) (h2 : xOb 12 x2) (x3 : Nat) (h3 : xAn 1 1 x3) (x4 : Nat) (h4 : xAn 2 1 x4) (x5 : Int) (h5 : R32 x5) (hr28 : ∀ w5 : Int, R32 w5 → ∀ M : xM, xcan M → Gv l G (uL_law tab nm) 21 1 k s 28 [some (.ref xSCR), some (.ref x1), some (.ref x2), some (.ref x3), some (.ref x4), some (iv w5), none, none, none] [] M (rc28 w5 M)) (M : xM) (hM : xcan M) : Gv l G (uL_law tab nm) 21 1 (k + 11) (s + 66) 2907 [some (.ref xSCR), some (.ref x1), some (.ref x2), some (.ref x3), some (.ref x4), some (iv x5), none, none, none] [] M (fL_law_2907 sl sx rc28 x1 x2 x3 x4 x5 M) := by
  unfold fL_law_2907
  refine xg_aload_n dL_law_2907 (Eq.refl 2908) rfl ?_
  refine xg_aload_n dL_law_2908 (Eq.refl 2909) rfl ?_
  refine xg_iload dL_law_2909 (Eq.refl 2911) rfl ?_
  refine xg_iconst dL_law_2911 (Eq.refl 2912) ?_
  refine xg_iadd dL_law_2912 (Eq.refl 2913) ?_
  refine xg_sld hS hsl dL_law_2913 (Eq.refl 2914) ?_
  refine xg_aload_n dL_law_2914 (Eq.refl 2915) rfl ?_
  refine xg_callWC_I (kc := k) (ks := s) (st := []) (mL_causer hl x1 h1 (sx (w32 (x5 + 1)).toNat).toInt (xsx_r _) x3 (xAn.l h3) M hM) bL_causer xq_1578 rfl (by decide) (by decide) dL_law_2915 (Eq.refl 2918) rfl (by omega) (by omega) ?_
  intro z1 M2 hz1 hM2
  refine xg_istore (ls2 := [some (.ref xSCR), some (.ref x1), some (.ref x2), some (.ref x3), some (.ref x4), some (iv x5), some (iv z1), none, none]) dL_law_2918 (Eq.refl 2920) (show 6 < 9 by decide) rfl ?_
  refine xg_aload_n dL_law_2920 (Eq.refl 2921) rfl ?_
  refine xg_aload_n dL_law_2921 (Eq.refl 2922) rfl ?_
  refine xg_iload dL_law_2922 (Eq.refl 2924) rfl ?_
  refine xg_iconst dL_law_2924 (Eq.refl 2925) ?_
  refine xg_iadd dL_law_2925 (Eq.refl 2926) ?_
  refine xg_sld hS hsl dL_law_2926 (Eq.refl 2927) ?_
  refine xg_callVC_I (kc := k) (ks := s) (st := []) (mX12_causer hl x2 h2 (sx (w32 (x5 + 1)).toNat).toInt (xsx_r _) M2 hM2) bX12_causer xcl12 h2 rfl xq_1587 rfl (by decide) (by decide) dL_law_2927 (Eq.refl 2930) rfl (by omega) (by omega) ?_ ?_
  · intro z3 M4 hz3 hM4
    refine xg_istore (ls2 := [some (.ref xSCR), some (.ref x1), some (.ref x2), some (.ref x3), some (.ref x4), some (iv x5), some (iv z1), some (iv z3), none]) dL_law_2930 (Eq.refl 2932) (show 7 < 9 by decide) rfl ?_
    refine xg_aload_n dL_law_2932 (Eq.refl 2933) rfl ?_
    refine xg_callVC_I (kc := k) (ks := s) (st := []) (mX12_thrown hl x2 h2 M4 hM4) bX12_thrown xcl12 h2 rfl xq_192 rfl (by decide) (by decide) dL_law_2933 (Eq.refl 2936) rfl (by omega) (by omega) ?_ ?_
    · intro z5 M6 hz5 hM6
      refine xg_iload dL_law_2936 (Eq.refl 2938) rfl ?_
      refine xg_icmp_eq (tgt := 2943) dL_law_2938 (Eq.refl 2941) (by decide) hz5 hz1 ?_ ?_
      · refine xg_iload dL_law_2943 (Eq.refl 2945) rfl ?_
        refine xg_if_ne (tgt := 2960) dL_law_2945 (Eq.refl 2948) (by decide) hz1 ?_ ?_
        · refine xg_aload_n dL_law_2948 (Eq.refl 2949) rfl ?_
          refine xg_iconst dL_law_2949 (Eq.refl 2950) ?_
          refine xg_laldk (k := 0) h3 dL_law_2950 (Eq.refl 2951) rfl (by decide) ?_
          refine xg_iload dL_law_2951 (Eq.refl 2953) rfl ?_
          refine xg_i2l dL_law_2953 (Eq.refl 2954) hz3 ?_
          refine xg_lif_eq (tgt := 2960) dL_law_2954 (Eq.refl 2955) dL_law_2955 (Eq.refl 2958) (by decide) (hM6.aj h3) (R32.j hz3) ?_ ?_
          · exact xg_jump (gL_law_2960 hl tab nm sl sx hS hsl k s rc28 x1 h1 x2 h2 x3 h3 x4 h4 x5 h5 hr28 M6 hM6) (xsb_s (xsb_s (xsb_s (xsb_s (xsb_s (xsb_s (xsb_n (xsb_n (xsb_n xsb_0))))))))) (by omega) (by omega)
          · refine xg_iconst dL_law_2958 (Eq.refl 2959) ?_
            exact xg_zret rfl dL_law_2959 rfl hM6 (by decide)
        · exact xg_jump (gL_law_2960 hl tab nm sl sx hS hsl k s rc28 x1 h1 x2 h2 x3 h3 x4 h4 x5 h5 hr28 M6 hM6) (xsb_s (xsb_s (xsb_s (xsb_s (xsb_s (xsb_s (xsb_n (xsb_n (xsb_n xsb_0))))))))) (by omega) (by omega)
      · refine xg_iconst dL_law_2941 (Eq.refl 2942) ?_
        exact xg_zret rfl dL_law_2942 rfl hM6 (by decide)
    · intro e M9 he hM9
      exact xgx_none
  · intro e M9 he hM9
    exact xgx_none
theorem gL_law_2904 {l : Launch} {G : xG} (hl : l.stackTraces = false) (tab : List ExceptionTableEntry) (nm : String) (sl : Nat) (sx : Nat → Int32) (hS : G.2.2.2.1.2 = (sl, sx)) (hsl : sl ≤ 2147483647) (k s : Nat) (rc28 : Int → xM → xO) (x1 : Nat) (h1 : xOb 11 x1) (x2 : Nat) (h2 : xOb 12 x2) (x3 : Nat) (h3 : xAn 1 1 x3) (x4 : Nat) (h4 : xAn 2 1 x4) (x5 : Int) (h5 : R32 x5) (hr28 : ∀ w5 : Int, R32 w5 → ∀ M : xM, xcan M → Gv l G (uL_law tab nm) 21 1 k s 28 [some (.ref xSCR), some (.ref x1), some (.ref x2), some (.ref x3), some (.ref x4), some (iv w5), none, none, none] [] M (rc28 w5 M)) (M : xM) (hM : xcan M) : Gv l G (uL_law tab nm) 21 1 k s 2904 [some (.ref xSCR), some (.ref x1), some (.ref x2), some (.ref x3), some (.ref x4), some (iv x5), none, none, none] [] M (fL_law_2904 sl sx rc28 x1 x2 x3 x4 x5 M) := by
  unfold fL_law_2904
  refine xg_goto (tgt := 3031) dL_law_2904 (by decide) ?_
  exact xg_jump (gL_law_3031 hl tab nm sl sx hS hsl k s rc28 x1 h1 x2 h2 x3 h3 x4 h4 x5 h5 hr28 M hM) (xsb_s (xsb_s (xsb_s (xsb_s (xsb_s (xsb_s (xsb_n (xsb_n (xsb_n xsb_0))))))))) (by omega) (by omega)
theorem gL_law_2851 {l : Launch} {G : xG} (hl : l.stackTraces = false) (tab : List ExceptionTableEntry) (nm : String) (sl : Nat) (sx : Nat → Int32) (hS : G.2.2.2.1.2 = (sl, sx)) (hsl : sl ≤ 2147483647) (k s : Nat) (rc28 : Int → xM → xO) (x1 : Nat) (h1 : xOb 11 x1) (x2 : Nat) (h2 : xOb 12 x2) (x3 : Nat) (h3 : xAn 1 1 x3) (x4 : Nat) (h4 : xAn 2 1 x4) (x5 : Int) (h5 : R32 x5) (hr28 : ∀ w5 : Int, R32 w5 → ∀ M : xM, xcan M → Gv l G (uL_law tab nm) 21 1 k s 28 [some (.ref xSCR), some (.ref x1), some (.ref x2), some (.ref x3), some (.ref x4), some (iv w5), none, none, none] [] M (rc28 w5 M)) (M : xM) (hM : xcan M) : Gv l G (uL_law tab nm) 21 1 (k + 11) (s + 66) 2851 [some (.ref xSCR), some (.ref x1), some (.ref x2), some (.ref x3), some (.ref x4), some (iv x5), none, none, none] [] M (fL_law_2851 sl sx rc28 x1 x2 x3 x4 x5 M) := by
  unfold fL_law_2851
  refine xg_aload_n dL_law_2851 (Eq.refl 2852) rfl ?_
  refine xg_aload_n dL_law_2852 (Eq.refl 2853) rfl ?_
  refine xg_iload dL_law_2853 (Eq.refl 2855) rfl ?_
  refine xg_iconst dL_law_2855 (Eq.refl 2856) ?_
  refine xg_iadd dL_law_2856 (Eq.refl 2857) ?_
  refine xg_sld hS hsl dL_law_2857 (Eq.refl 2858) ?_
  refine xg_aload_n dL_law_2858 (Eq.refl 2859) rfl ?_
  refine xg_callWC_I (kc := k) (ks := s) (st := []) (mL_age hl x1 h1 (sx (w32 (x5 + 1)).toNat).toInt (xsx_r _) x3 (xAn.l h3) M hM) bL_age xq_1566 rfl (by decide) (by decide) dL_law_2859 (Eq.refl 2862) rfl (by omega) (by omega) ?_
  intro z1 M2 hz1 hM2
  refine xg_istore (ls2 := [some (.ref xSCR), some (.ref x1), some (.ref x2), some (.ref x3), some (.ref x4), some (iv x5), some (iv z1), none, none]) dL_law_2862 (Eq.refl 2864) (show 6 < 9 by decide) rfl ?_
  refine xg_aload_n dL_law_2864 (Eq.refl 2865) rfl ?_
  refine xg_aload_n dL_law_2865 (Eq.refl 2866) rfl ?_
  refine xg_iload dL_law_2866 (Eq.refl 2868) rfl ?_
  refine xg_iconst dL_law_2868 (Eq.refl 2869) ?_
  refine xg_iadd dL_law_2869 (Eq.refl 2870) ?_
  refine xg_sld hS hsl dL_law_2870 (Eq.refl 2871) ?_
  refine xg_callVC_I (kc := k) (ks := s) (st := []) (mX12_age hl x2 h2 (sx (w32 (x5 + 1)).toNat).toInt (xsx_r _) M2 hM2) bX12_age xcl12 h2 rfl xq_1574 rfl (by decide) (by decide) dL_law_2871 (Eq.refl 2874) rfl (by omega) (by omega) ?_ ?_
  · intro z3 M4 hz3 hM4
    refine xg_istore (ls2 := [some (.ref xSCR), some (.ref x1), some (.ref x2), some (.ref x3), some (.ref x4), some (iv x5), some (iv z1), some (iv z3), none]) dL_law_2874 (Eq.refl 2876) (show 7 < 9 by decide) rfl ?_
    refine xg_aload_n dL_law_2876 (Eq.refl 2877) rfl ?_
    refine xg_callVC_I (kc := k) (ks := s) (st := []) (mX12_thrown hl x2 h2 M4 hM4) bX12_thrown xcl12 h2 rfl xq_192 rfl (by decide) (by decide) dL_law_2877 (Eq.refl 2880) rfl (by omega) (by omega) ?_ ?_
    · intro z5 M6 hz5 hM6
      refine xg_iload dL_law_2880 (Eq.refl 2882) rfl ?_
      refine xg_icmp_eq (tgt := 2887) dL_law_2882 (Eq.refl 2885) (by decide) hz5 hz1 ?_ ?_
      · refine xg_iload dL_law_2887 (Eq.refl 2889) rfl ?_
        refine xg_if_ne (tgt := 2904) dL_law_2889 (Eq.refl 2892) (by decide) hz1 ?_ ?_
        · refine xg_aload_n dL_law_2892 (Eq.refl 2893) rfl ?_
          refine xg_iconst dL_law_2893 (Eq.refl 2894) ?_
          refine xg_laldk (k := 0) h3 dL_law_2894 (Eq.refl 2895) rfl (by decide) ?_
          refine xg_iload dL_law_2895 (Eq.refl 2897) rfl ?_
          refine xg_i2l dL_law_2897 (Eq.refl 2898) hz3 ?_
          refine xg_lif_eq (tgt := 2904) dL_law_2898 (Eq.refl 2899) dL_law_2899 (Eq.refl 2902) (by decide) (hM6.aj h3) (R32.j hz3) ?_ ?_
          · exact xg_jump (gL_law_2904 hl tab nm sl sx hS hsl k s rc28 x1 h1 x2 h2 x3 h3 x4 h4 x5 h5 hr28 M6 hM6) (xsb_s (xsb_s (xsb_s (xsb_s (xsb_s (xsb_s (xsb_n (xsb_n (xsb_n xsb_0))))))))) (by omega) (by omega)
          · refine xg_iconst dL_law_2902 (Eq.refl 2903) ?_
            exact xg_zret rfl dL_law_2903 rfl hM6 (by decide)
        · exact xg_jump (gL_law_2904 hl tab nm sl sx hS hsl k s rc28 x1 h1 x2 h2 x3 h3 x4 h4 x5 h5 hr28 M6 hM6) (xsb_s (xsb_s (xsb_s (xsb_s (xsb_s (xsb_s (xsb_n (xsb_n (xsb_n xsb_0))))))))) (by omega) (by omega)
      · refine xg_iconst dL_law_2885 (Eq.refl 2886) ?_
        exact xg_zret rfl dL_law_2886 rfl hM6 (by decide)
    · intro e M9 he hM9
      exact xgx_none
  · intro e M9 he hM9
    exact xgx_none
theorem gL_law_2848 {l : Launch} {G : xG} (hl : l.stackTraces = false) (tab : List ExceptionTableEntry) (nm : String) (sl : Nat) (sx : Nat → Int32) (hS : G.2.2.2.1.2 = (sl, sx)) (hsl : sl ≤ 2147483647) (k s : Nat) (rc28 : Int → xM → xO) (x1 : Nat) (h1 : xOb 11 x1) (x2 : Nat) (h2 : xOb 12 x2) (x3 : Nat) (h3 : xAn 1 1 x3) (x4 : Nat) (h4 : xAn 2 1 x4) (x5 : Int) (h5 : R32 x5) (hr28 : ∀ w5 : Int, R32 w5 → ∀ M : xM, xcan M → Gv l G (uL_law tab nm) 21 1 k s 28 [some (.ref xSCR), some (.ref x1), some (.ref x2), some (.ref x3), some (.ref x4), some (iv w5), none, none, none] [] M (rc28 w5 M)) (M : xM) (hM : xcan M) : Gv l G (uL_law tab nm) 21 1 k s 2848 [some (.ref xSCR), some (.ref x1), some (.ref x2), some (.ref x3), some (.ref x4), some (iv x5), none, none, none] [] M (fL_law_2848 sl sx rc28 x1 x2 x3 x4 x5 M) := by
  unfold fL_law_2848
  refine xg_goto (tgt := 3031) dL_law_2848 (by decide) ?_
  exact xg_jump (gL_law_3031 hl tab nm sl sx hS hsl k s rc28 x1 h1 x2 h2 x3 h3 x4 h4 x5 h5 hr28 M hM) (xsb_s (xsb_s (xsb_s (xsb_s (xsb_s (xsb_s (xsb_n (xsb_n (xsb_n xsb_0))))))))) (by omega) (by omega)
theorem gL_law_2796 {l : Launch} {G : xG} (hl : l.stackTraces = false) (tab : List ExceptionTableEntry) (nm : String) (sl : Nat) (sx : Nat → Int32) (hS : G.2.2.2.1.2 = (sl, sx)) (hsl : sl ≤ 2147483647) (k s : Nat) (rc28 : Int → xM → xO) (x1 : Nat) (h1 : xOb 11 x1) (x2 : Nat) (h2 : xOb 12 x2) (x3 : Nat) (h3 : xAn 1 1 x3) (x4 : Nat) (h4 : xAn 2 1 x4) (x5 : Int) (h5 : R32 x5) (hr28 : ∀ w5 : Int, R32 w5 → ∀ M : xM, xcan M → Gv l G (uL_law tab nm) 21 1 k s 28 [some (.ref xSCR), some (.ref x1), some (.ref x2), some (.ref x3), some (.ref x4), some (iv w5), none, none, none] [] M (rc28 w5 M)) (M : xM) (hM : xcan M) : Gv l G (uL_law tab nm) 21 1 (k + 11) (s + 66) 2796 [some (.ref xSCR), some (.ref x1), some (.ref x2), some (.ref x3), some (.ref x4), some (iv x5), none, none, none] [] M (fL_law_2796 sl sx rc28 x1 x2 x3 x4 x5 M) := by
  unfold fL_law_2796
  refine xg_aload_n dL_law_2796 (Eq.refl 2797) rfl ?_
  refine xg_aload_n dL_law_2797 (Eq.refl 2798) rfl ?_
  refine xg_iload dL_law_2798 (Eq.refl 2800) rfl ?_
  refine xg_iconst dL_law_2800 (Eq.refl 2801) ?_
  refine xg_iadd dL_law_2801 (Eq.refl 2802) ?_
  refine xg_sld hS hsl dL_law_2802 (Eq.refl 2803) ?_
  refine xg_aload_n dL_law_2803 (Eq.refl 2804) rfl ?_
  refine xg_callWC_I (kc := k) (ks := s) (st := []) (mL_tradeAmount hl x1 h1 (sx (w32 (x5 + 1)).toNat).toInt (xsx_r _) x3 (xAn.l h3) M hM) bL_tradeAmount xq_1554 rfl (by decide) (by decide) dL_law_2804 (Eq.refl 2807) rfl (by omega) (by omega) ?_
  intro z1 M2 hz1 hM2
  refine xg_istore (ls2 := [some (.ref xSCR), some (.ref x1), some (.ref x2), some (.ref x3), some (.ref x4), some (iv x5), some (iv z1), none, none]) dL_law_2807 (Eq.refl 2809) (show 6 < 9 by decide) rfl ?_
  refine xg_aload_n dL_law_2809 (Eq.refl 2810) rfl ?_
  refine xg_aload_n dL_law_2810 (Eq.refl 2811) rfl ?_
  refine xg_iload dL_law_2811 (Eq.refl 2813) rfl ?_
  refine xg_iconst dL_law_2813 (Eq.refl 2814) ?_
  refine xg_iadd dL_law_2814 (Eq.refl 2815) ?_
  refine xg_sld hS hsl dL_law_2815 (Eq.refl 2816) ?_
  refine xg_callVC_J (kc := k) (ks := s) (st := []) (mX12_tradeAmount hl x2 h2 (sx (w32 (x5 + 1)).toNat).toInt (xsx_r _) M2 hM2) bX12_tradeAmount xcl12 h2 rfl xq_1562 rfl (by decide) (by decide) dL_law_2816 (Eq.refl 2819) rfl (by omega) (by omega) ?_ ?_
  · intro z3 M4 hz3 hM4
    refine xg_lstore (ls2 := [some (.ref xSCR), some (.ref x1), some (.ref x2), some (.ref x3), some (.ref x4), some (iv x5), some (iv z1), some (jv z3), none]) dL_law_2819 (Eq.refl 2821) (show 7 + 1 < 9 by decide) rfl ?_
    refine xg_aload_n dL_law_2821 (Eq.refl 2822) rfl ?_
    refine xg_callVC_I (kc := k) (ks := s) (st := []) (mX12_thrown hl x2 h2 M4 hM4) bX12_thrown xcl12 h2 rfl xq_192 rfl (by decide) (by decide) dL_law_2822 (Eq.refl 2825) rfl (by omega) (by omega) ?_ ?_
    · intro z5 M6 hz5 hM6
      refine xg_iload dL_law_2825 (Eq.refl 2827) rfl ?_
      refine xg_icmp_eq (tgt := 2832) dL_law_2827 (Eq.refl 2830) (by decide) hz5 hz1 ?_ ?_
      · refine xg_iload dL_law_2832 (Eq.refl 2834) rfl ?_
        refine xg_if_ne (tgt := 2848) dL_law_2834 (Eq.refl 2837) (by decide) hz1 ?_ ?_
        · refine xg_aload_n dL_law_2837 (Eq.refl 2838) rfl ?_
          refine xg_iconst dL_law_2838 (Eq.refl 2839) ?_
          refine xg_laldk (k := 0) h3 dL_law_2839 (Eq.refl 2840) rfl (by decide) ?_
          refine xg_lload dL_law_2840 (Eq.refl 2842) rfl ?_
          refine xg_lif_eq (tgt := 2848) dL_law_2842 (Eq.refl 2843) dL_law_2843 (Eq.refl 2846) (by decide) (hM6.aj h3) hz3 ?_ ?_
          · exact xg_jump (gL_law_2848 hl tab nm sl sx hS hsl k s rc28 x1 h1 x2 h2 x3 h3 x4 h4 x5 h5 hr28 M6 hM6) (xsb_s (xsb_s (xsb_s (xsb_s (xsb_s (xsb_s (xsb_n (xsb_n (xsb_n xsb_0))))))))) (by omega) (by omega)
          · refine xg_iconst dL_law_2846 (Eq.refl 2847) ?_
            exact xg_zret rfl dL_law_2847 rfl hM6 (by decide)
        · exact xg_jump (gL_law_2848 hl tab nm sl sx hS hsl k s rc28 x1 h1 x2 h2 x3 h3 x4 h4 x5 h5 hr28 M6 hM6) (xsb_s (xsb_s (xsb_s (xsb_s (xsb_s (xsb_s (xsb_n (xsb_n (xsb_n xsb_0))))))))) (by omega) (by omega)
      · refine xg_iconst dL_law_2830 (Eq.refl 2831) ?_
        exact xg_zret rfl dL_law_2831 rfl hM6 (by decide)
    · intro e M9 he hM9
      exact xgx_none
  · intro e M9 he hM9
    exact xgx_none
theorem gL_law_2793 {l : Launch} {G : xG} (hl : l.stackTraces = false) (tab : List ExceptionTableEntry) (nm : String) (sl : Nat) (sx : Nat → Int32) (hS : G.2.2.2.1.2 = (sl, sx)) (hsl : sl ≤ 2147483647) (k s : Nat) (rc28 : Int → xM → xO) (x1 : Nat) (h1 : xOb 11 x1) (x2 : Nat) (h2 : xOb 12 x2) (x3 : Nat) (h3 : xAn 1 1 x3) (x4 : Nat) (h4 : xAn 2 1 x4) (x5 : Int) (h5 : R32 x5) (hr28 : ∀ w5 : Int, R32 w5 → ∀ M : xM, xcan M → Gv l G (uL_law tab nm) 21 1 k s 28 [some (.ref xSCR), some (.ref x1), some (.ref x2), some (.ref x3), some (.ref x4), some (iv w5), none, none, none] [] M (rc28 w5 M)) (M : xM) (hM : xcan M) : Gv l G (uL_law tab nm) 21 1 k s 2793 [some (.ref xSCR), some (.ref x1), some (.ref x2), some (.ref x3), some (.ref x4), some (iv x5), none, none, none] [] M (fL_law_2793 sl sx rc28 x1 x2 x3 x4 x5 M) := by
  unfold fL_law_2793
  refine xg_goto (tgt := 3031) dL_law_2793 (by decide) ?_
  exact xg_jump (gL_law_3031 hl tab nm sl sx hS hsl k s rc28 x1 h1 x2 h2 x3 h3 x4 h4 x5 h5 hr28 M hM) (xsb_s (xsb_s (xsb_s (xsb_s (xsb_s (xsb_s (xsb_n (xsb_n (xsb_n xsb_0))))))))) (by omega) (by omega)
theorem gL_law_2741 {l : Launch} {G : xG} (hl : l.stackTraces = false) (tab : List ExceptionTableEntry) (nm : String) (sl : Nat) (sx : Nat → Int32) (hS : G.2.2.2.1.2 = (sl, sx)) (hsl : sl ≤ 2147483647) (k s : Nat) (rc28 : Int → xM → xO) (x1 : Nat) (h1 : xOb 11 x1) (x2 : Nat) (h2 : xOb 12 x2) (x3 : Nat) (h3 : xAn 1 1 x3) (x4 : Nat) (h4 : xAn 2 1 x4) (x5 : Int) (h5 : R32 x5) (hr28 : ∀ w5 : Int, R32 w5 → ∀ M : xM, xcan M → Gv l G (uL_law tab nm) 21 1 k s 28 [some (.ref xSCR), some (.ref x1), some (.ref x2), some (.ref x3), some (.ref x4), some (iv w5), none, none, none] [] M (rc28 w5 M)) (M : xM) (hM : xcan M) : Gv l G (uL_law tab nm) 21 1 (k + 11) (s + 66) 2741 [some (.ref xSCR), some (.ref x1), some (.ref x2), some (.ref x3), some (.ref x4), some (iv x5), none, none, none] [] M (fL_law_2741 sl sx rc28 x1 x2 x3 x4 x5 M) := by
  unfold fL_law_2741
  refine xg_aload_n dL_law_2741 (Eq.refl 2742) rfl ?_
  refine xg_aload_n dL_law_2742 (Eq.refl 2743) rfl ?_
  refine xg_iload dL_law_2743 (Eq.refl 2745) rfl ?_
  refine xg_iconst dL_law_2745 (Eq.refl 2746) ?_
  refine xg_iadd dL_law_2746 (Eq.refl 2747) ?_
  refine xg_sld hS hsl dL_law_2747 (Eq.refl 2748) ?_
  refine xg_aload_n dL_law_2748 (Eq.refl 2749) rfl ?_
  refine xg_callWC_I (kc := k) (ks := s) (st := []) (mL_tradeUnits hl x1 h1 (sx (w32 (x5 + 1)).toNat).toInt (xsx_r _) x3 (xAn.l h3) M hM) bL_tradeUnits xq_1542 rfl (by decide) (by decide) dL_law_2749 (Eq.refl 2752) rfl (by omega) (by omega) ?_
  intro z1 M2 hz1 hM2
  refine xg_istore (ls2 := [some (.ref xSCR), some (.ref x1), some (.ref x2), some (.ref x3), some (.ref x4), some (iv x5), some (iv z1), none, none]) dL_law_2752 (Eq.refl 2754) (show 6 < 9 by decide) rfl ?_
  refine xg_aload_n dL_law_2754 (Eq.refl 2755) rfl ?_
  refine xg_aload_n dL_law_2755 (Eq.refl 2756) rfl ?_
  refine xg_iload dL_law_2756 (Eq.refl 2758) rfl ?_
  refine xg_iconst dL_law_2758 (Eq.refl 2759) ?_
  refine xg_iadd dL_law_2759 (Eq.refl 2760) ?_
  refine xg_sld hS hsl dL_law_2760 (Eq.refl 2761) ?_
  refine xg_callVC_J (kc := k) (ks := s) (st := []) (mX12_tradeUnits hl x2 h2 (sx (w32 (x5 + 1)).toNat).toInt (xsx_r _) M2 hM2) bX12_tradeUnits xcl12 h2 rfl xq_1550 rfl (by decide) (by decide) dL_law_2761 (Eq.refl 2764) rfl (by omega) (by omega) ?_ ?_
  · intro z3 M4 hz3 hM4
    refine xg_lstore (ls2 := [some (.ref xSCR), some (.ref x1), some (.ref x2), some (.ref x3), some (.ref x4), some (iv x5), some (iv z1), some (jv z3), none]) dL_law_2764 (Eq.refl 2766) (show 7 + 1 < 9 by decide) rfl ?_
    refine xg_aload_n dL_law_2766 (Eq.refl 2767) rfl ?_
    refine xg_callVC_I (kc := k) (ks := s) (st := []) (mX12_thrown hl x2 h2 M4 hM4) bX12_thrown xcl12 h2 rfl xq_192 rfl (by decide) (by decide) dL_law_2767 (Eq.refl 2770) rfl (by omega) (by omega) ?_ ?_
    · intro z5 M6 hz5 hM6
      refine xg_iload dL_law_2770 (Eq.refl 2772) rfl ?_
      refine xg_icmp_eq (tgt := 2777) dL_law_2772 (Eq.refl 2775) (by decide) hz5 hz1 ?_ ?_
      · refine xg_iload dL_law_2777 (Eq.refl 2779) rfl ?_
        refine xg_if_ne (tgt := 2793) dL_law_2779 (Eq.refl 2782) (by decide) hz1 ?_ ?_
        · refine xg_aload_n dL_law_2782 (Eq.refl 2783) rfl ?_
          refine xg_iconst dL_law_2783 (Eq.refl 2784) ?_
          refine xg_laldk (k := 0) h3 dL_law_2784 (Eq.refl 2785) rfl (by decide) ?_
          refine xg_lload dL_law_2785 (Eq.refl 2787) rfl ?_
          refine xg_lif_eq (tgt := 2793) dL_law_2787 (Eq.refl 2788) dL_law_2788 (Eq.refl 2791) (by decide) (hM6.aj h3) hz3 ?_ ?_
          · exact xg_jump (gL_law_2793 hl tab nm sl sx hS hsl k s rc28 x1 h1 x2 h2 x3 h3 x4 h4 x5 h5 hr28 M6 hM6) (xsb_s (xsb_s (xsb_s (xsb_s (xsb_s (xsb_s (xsb_n (xsb_n (xsb_n xsb_0))))))))) (by omega) (by omega)
          · refine xg_iconst dL_law_2791 (Eq.refl 2792) ?_
            exact xg_zret rfl dL_law_2792 rfl hM6 (by decide)
        · exact xg_jump (gL_law_2793 hl tab nm sl sx hS hsl k s rc28 x1 h1 x2 h2 x3 h3 x4 h4 x5 h5 hr28 M6 hM6) (xsb_s (xsb_s (xsb_s (xsb_s (xsb_s (xsb_s (xsb_n (xsb_n (xsb_n xsb_0))))))))) (by omega) (by omega)
      · refine xg_iconst dL_law_2775 (Eq.refl 2776) ?_
        exact xg_zret rfl dL_law_2776 rfl hM6 (by decide)
    · intro e M9 he hM9
      exact xgx_none
  · intro e M9 he hM9
    exact xgx_none
theorem gL_law_2738 {l : Launch} {G : xG} (hl : l.stackTraces = false) (tab : List ExceptionTableEntry) (nm : String) (sl : Nat) (sx : Nat → Int32) (hS : G.2.2.2.1.2 = (sl, sx)) (hsl : sl ≤ 2147483647) (k s : Nat) (rc28 : Int → xM → xO) (x1 : Nat) (h1 : xOb 11 x1) (x2 : Nat) (h2 : xOb 12 x2) (x3 : Nat) (h3 : xAn 1 1 x3) (x4 : Nat) (h4 : xAn 2 1 x4) (x5 : Int) (h5 : R32 x5) (hr28 : ∀ w5 : Int, R32 w5 → ∀ M : xM, xcan M → Gv l G (uL_law tab nm) 21 1 k s 28 [some (.ref xSCR), some (.ref x1), some (.ref x2), some (.ref x3), some (.ref x4), some (iv w5), none, none, none] [] M (rc28 w5 M)) (M : xM) (hM : xcan M) : Gv l G (uL_law tab nm) 21 1 k s 2738 [some (.ref xSCR), some (.ref x1), some (.ref x2), some (.ref x3), some (.ref x4), some (iv x5), none, none, none] [] M (fL_law_2738 sl sx rc28 x1 x2 x3 x4 x5 M) := by
  unfold fL_law_2738
  refine xg_goto (tgt := 3031) dL_law_2738 (by decide) ?_
  exact xg_jump (gL_law_3031 hl tab nm sl sx hS hsl k s rc28 x1 h1 x2 h2 x3 h3 x4 h4 x5 h5 hr28 M hM) (xsb_s (xsb_s (xsb_s (xsb_s (xsb_s (xsb_s (xsb_n (xsb_n (xsb_n xsb_0))))))))) (by omega) (by omega)
theorem gL_law_2685 {l : Launch} {G : xG} (hl : l.stackTraces = false) (tab : List ExceptionTableEntry) (nm : String) (sl : Nat) (sx : Nat → Int32) (hS : G.2.2.2.1.2 = (sl, sx)) (hsl : sl ≤ 2147483647) (k s : Nat) (rc28 : Int → xM → xO) (x1 : Nat) (h1 : xOb 11 x1) (x2 : Nat) (h2 : xOb 12 x2) (x3 : Nat) (h3 : xAn 1 1 x3) (x4 : Nat) (h4 : xAn 2 1 x4) (x5 : Int) (h5 : R32 x5) (hr28 : ∀ w5 : Int, R32 w5 → ∀ M : xM, xcan M → Gv l G (uL_law tab nm) 21 1 k s 28 [some (.ref xSCR), some (.ref x1), some (.ref x2), some (.ref x3), some (.ref x4), some (iv w5), none, none, none] [] M (rc28 w5 M)) (M : xM) (hM : xcan M) : Gv l G (uL_law tab nm) 21 1 (k + 11) (s + 66) 2685 [some (.ref xSCR), some (.ref x1), some (.ref x2), some (.ref x3), some (.ref x4), some (iv x5), none, none, none] [] M (fL_law_2685 sl sx rc28 x1 x2 x3 x4 x5 M) := by
  unfold fL_law_2685
  refine xg_aload_n dL_law_2685 (Eq.refl 2686) rfl ?_
  refine xg_aload_n dL_law_2686 (Eq.refl 2687) rfl ?_
  refine xg_iload dL_law_2687 (Eq.refl 2689) rfl ?_
  refine xg_iconst dL_law_2689 (Eq.refl 2690) ?_
  refine xg_iadd dL_law_2690 (Eq.refl 2691) ?_
  refine xg_sld hS hsl dL_law_2691 (Eq.refl 2692) ?_
  refine xg_aload_n dL_law_2692 (Eq.refl 2693) rfl ?_
  refine xg_callWC_I (kc := k) (ks := s) (st := []) (mL_tradeOf hl x1 h1 (sx (w32 (x5 + 1)).toNat).toInt (xsx_r _) x3 (xAn.l h3) M hM) bL_tradeOf xq_1531 rfl (by decide) (by decide) dL_law_2693 (Eq.refl 2696) rfl (by omega) (by omega) ?_
  intro z1 M2 hz1 hM2
  refine xg_istore (ls2 := [some (.ref xSCR), some (.ref x1), some (.ref x2), some (.ref x3), some (.ref x4), some (iv x5), some (iv z1), none, none]) dL_law_2696 (Eq.refl 2698) (show 6 < 9 by decide) rfl ?_
  refine xg_aload_n dL_law_2698 (Eq.refl 2699) rfl ?_
  refine xg_aload_n dL_law_2699 (Eq.refl 2700) rfl ?_
  refine xg_iload dL_law_2700 (Eq.refl 2702) rfl ?_
  refine xg_iconst dL_law_2702 (Eq.refl 2703) ?_
  refine xg_iadd dL_law_2703 (Eq.refl 2704) ?_
  refine xg_sld hS hsl dL_law_2704 (Eq.refl 2705) ?_
  refine xg_callVC_I (kc := k) (ks := s) (st := []) (mX12_tradeOf hl x2 h2 (sx (w32 (x5 + 1)).toNat).toInt (xsx_r _) M2 hM2) bX12_tradeOf xcl12 h2 rfl xq_1538 rfl (by decide) (by decide) dL_law_2705 (Eq.refl 2708) rfl (by omega) (by omega) ?_ ?_
  · intro z3 M4 hz3 hM4
    refine xg_istore (ls2 := [some (.ref xSCR), some (.ref x1), some (.ref x2), some (.ref x3), some (.ref x4), some (iv x5), some (iv z1), some (iv z3), none]) dL_law_2708 (Eq.refl 2710) (show 7 < 9 by decide) rfl ?_
    refine xg_aload_n dL_law_2710 (Eq.refl 2711) rfl ?_
    refine xg_callVC_I (kc := k) (ks := s) (st := []) (mX12_thrown hl x2 h2 M4 hM4) bX12_thrown xcl12 h2 rfl xq_192 rfl (by decide) (by decide) dL_law_2711 (Eq.refl 2714) rfl (by omega) (by omega) ?_ ?_
    · intro z5 M6 hz5 hM6
      refine xg_iload dL_law_2714 (Eq.refl 2716) rfl ?_
      refine xg_icmp_eq (tgt := 2721) dL_law_2716 (Eq.refl 2719) (by decide) hz5 hz1 ?_ ?_
      · refine xg_iload dL_law_2721 (Eq.refl 2723) rfl ?_
        refine xg_if_ne (tgt := 2738) dL_law_2723 (Eq.refl 2726) (by decide) hz1 ?_ ?_
        · refine xg_aload_n dL_law_2726 (Eq.refl 2727) rfl ?_
          refine xg_iconst dL_law_2727 (Eq.refl 2728) ?_
          refine xg_laldk (k := 0) h3 dL_law_2728 (Eq.refl 2729) rfl (by decide) ?_
          refine xg_iload dL_law_2729 (Eq.refl 2731) rfl ?_
          refine xg_i2l dL_law_2731 (Eq.refl 2732) hz3 ?_
          refine xg_lif_eq (tgt := 2738) dL_law_2732 (Eq.refl 2733) dL_law_2733 (Eq.refl 2736) (by decide) (hM6.aj h3) (R32.j hz3) ?_ ?_
          · exact xg_jump (gL_law_2738 hl tab nm sl sx hS hsl k s rc28 x1 h1 x2 h2 x3 h3 x4 h4 x5 h5 hr28 M6 hM6) (xsb_s (xsb_s (xsb_s (xsb_s (xsb_s (xsb_s (xsb_n (xsb_n (xsb_n xsb_0))))))))) (by omega) (by omega)
          · refine xg_iconst dL_law_2736 (Eq.refl 2737) ?_
            exact xg_zret rfl dL_law_2737 rfl hM6 (by decide)
        · exact xg_jump (gL_law_2738 hl tab nm sl sx hS hsl k s rc28 x1 h1 x2 h2 x3 h3 x4 h4 x5 h5 hr28 M6 hM6) (xsb_s (xsb_s (xsb_s (xsb_s (xsb_s (xsb_s (xsb_n (xsb_n (xsb_n xsb_0))))))))) (by omega) (by omega)
      · refine xg_iconst dL_law_2719 (Eq.refl 2720) ?_
        exact xg_zret rfl dL_law_2720 rfl hM6 (by decide)
    · intro e M9 he hM9
      exact xgx_none
  · intro e M9 he hM9
    exact xgx_none
theorem gL_law_2682 {l : Launch} {G : xG} (hl : l.stackTraces = false) (tab : List ExceptionTableEntry) (nm : String) (sl : Nat) (sx : Nat → Int32) (hS : G.2.2.2.1.2 = (sl, sx)) (hsl : sl ≤ 2147483647) (k s : Nat) (rc28 : Int → xM → xO) (x1 : Nat) (h1 : xOb 11 x1) (x2 : Nat) (h2 : xOb 12 x2) (x3 : Nat) (h3 : xAn 1 1 x3) (x4 : Nat) (h4 : xAn 2 1 x4) (x5 : Int) (h5 : R32 x5) (hr28 : ∀ w5 : Int, R32 w5 → ∀ M : xM, xcan M → Gv l G (uL_law tab nm) 21 1 k s 28 [some (.ref xSCR), some (.ref x1), some (.ref x2), some (.ref x3), some (.ref x4), some (iv w5), none, none, none] [] M (rc28 w5 M)) (M : xM) (hM : xcan M) : Gv l G (uL_law tab nm) 21 1 k s 2682 [some (.ref xSCR), some (.ref x1), some (.ref x2), some (.ref x3), some (.ref x4), some (iv x5), none, none, none] [] M (fL_law_2682 sl sx rc28 x1 x2 x3 x4 x5 M) := by
  unfold fL_law_2682
  refine xg_goto (tgt := 3031) dL_law_2682 (by decide) ?_
  exact xg_jump (gL_law_3031 hl tab nm sl sx hS hsl k s rc28 x1 h1 x2 h2 x3 h3 x4 h4 x5 h5 hr28 M hM) (xsb_s (xsb_s (xsb_s (xsb_s (xsb_s (xsb_s (xsb_n (xsb_n (xsb_n xsb_0))))))))) (by omega) (by omega)
theorem gL_law_2629 {l : Launch} {G : xG} (hl : l.stackTraces = false) (tab : List ExceptionTableEntry) (nm : String) (sl : Nat) (sx : Nat → Int32) (hS : G.2.2.2.1.2 = (sl, sx)) (hsl : sl ≤ 2147483647) (k s : Nat) (rc28 : Int → xM → xO) (x1 : Nat) (h1 : xOb 11 x1) (x2 : Nat) (h2 : xOb 12 x2) (x3 : Nat) (h3 : xAn 1 1 x3) (x4 : Nat) (h4 : xAn 2 1 x4) (x5 : Int) (h5 : R32 x5) (hr28 : ∀ w5 : Int, R32 w5 → ∀ M : xM, xcan M → Gv l G (uL_law tab nm) 21 1 k s 28 [some (.ref xSCR), some (.ref x1), some (.ref x2), some (.ref x3), some (.ref x4), some (iv w5), none, none, none] [] M (rc28 w5 M)) (M : xM) (hM : xcan M) : Gv l G (uL_law tab nm) 21 1 (k + 11) (s + 66) 2629 [some (.ref xSCR), some (.ref x1), some (.ref x2), some (.ref x3), some (.ref x4), some (iv x5), none, none, none] [] M (fL_law_2629 sl sx rc28 x1 x2 x3 x4 x5 M) := by
  unfold fL_law_2629
  refine xg_aload_n dL_law_2629 (Eq.refl 2630) rfl ?_
  refine xg_aload_n dL_law_2630 (Eq.refl 2631) rfl ?_
  refine xg_iload dL_law_2631 (Eq.refl 2633) rfl ?_
  refine xg_iconst dL_law_2633 (Eq.refl 2634) ?_
  refine xg_iadd dL_law_2634 (Eq.refl 2635) ?_
  refine xg_sld hS hsl dL_law_2635 (Eq.refl 2636) ?_
  refine xg_aload_n dL_law_2636 (Eq.refl 2637) rfl ?_
  refine xg_callWC_I (kc := k) (ks := s) (st := []) (mL_status hl x1 h1 (sx (w32 (x5 + 1)).toNat).toInt (xsx_r _) x3 (xAn.l h3) M hM) bL_status xq_1520 rfl (by decide) (by decide) dL_law_2637 (Eq.refl 2640) rfl (by omega) (by omega) ?_
  intro z1 M2 hz1 hM2
  refine xg_istore (ls2 := [some (.ref xSCR), some (.ref x1), some (.ref x2), some (.ref x3), some (.ref x4), some (iv x5), some (iv z1), none, none]) dL_law_2640 (Eq.refl 2642) (show 6 < 9 by decide) rfl ?_
  refine xg_aload_n dL_law_2642 (Eq.refl 2643) rfl ?_
  refine xg_aload_n dL_law_2643 (Eq.refl 2644) rfl ?_
  refine xg_iload dL_law_2644 (Eq.refl 2646) rfl ?_
  refine xg_iconst dL_law_2646 (Eq.refl 2647) ?_
  refine xg_iadd dL_law_2647 (Eq.refl 2648) ?_
  refine xg_sld hS hsl dL_law_2648 (Eq.refl 2649) ?_
  refine xg_callVC_I (kc := k) (ks := s) (st := []) (mX12_status hl x2 h2 (sx (w32 (x5 + 1)).toNat).toInt (xsx_r _) M2 hM2) bX12_status xcl12 h2 rfl xq_1527 rfl (by decide) (by decide) dL_law_2649 (Eq.refl 2652) rfl (by omega) (by omega) ?_ ?_
  · intro z3 M4 hz3 hM4
    refine xg_istore (ls2 := [some (.ref xSCR), some (.ref x1), some (.ref x2), some (.ref x3), some (.ref x4), some (iv x5), some (iv z1), some (iv z3), none]) dL_law_2652 (Eq.refl 2654) (show 7 < 9 by decide) rfl ?_
    refine xg_aload_n dL_law_2654 (Eq.refl 2655) rfl ?_
    refine xg_callVC_I (kc := k) (ks := s) (st := []) (mX12_thrown hl x2 h2 M4 hM4) bX12_thrown xcl12 h2 rfl xq_192 rfl (by decide) (by decide) dL_law_2655 (Eq.refl 2658) rfl (by omega) (by omega) ?_ ?_
    · intro z5 M6 hz5 hM6
      refine xg_iload dL_law_2658 (Eq.refl 2660) rfl ?_
      refine xg_icmp_eq (tgt := 2665) dL_law_2660 (Eq.refl 2663) (by decide) hz5 hz1 ?_ ?_
      · refine xg_iload dL_law_2665 (Eq.refl 2667) rfl ?_
        refine xg_if_ne (tgt := 2682) dL_law_2667 (Eq.refl 2670) (by decide) hz1 ?_ ?_
        · refine xg_aload_n dL_law_2670 (Eq.refl 2671) rfl ?_
          refine xg_iconst dL_law_2671 (Eq.refl 2672) ?_
          refine xg_laldk (k := 0) h3 dL_law_2672 (Eq.refl 2673) rfl (by decide) ?_
          refine xg_iload dL_law_2673 (Eq.refl 2675) rfl ?_
          refine xg_i2l dL_law_2675 (Eq.refl 2676) hz3 ?_
          refine xg_lif_eq (tgt := 2682) dL_law_2676 (Eq.refl 2677) dL_law_2677 (Eq.refl 2680) (by decide) (hM6.aj h3) (R32.j hz3) ?_ ?_
          · exact xg_jump (gL_law_2682 hl tab nm sl sx hS hsl k s rc28 x1 h1 x2 h2 x3 h3 x4 h4 x5 h5 hr28 M6 hM6) (xsb_s (xsb_s (xsb_s (xsb_s (xsb_s (xsb_s (xsb_n (xsb_n (xsb_n xsb_0))))))))) (by omega) (by omega)
          · refine xg_iconst dL_law_2680 (Eq.refl 2681) ?_
            exact xg_zret rfl dL_law_2681 rfl hM6 (by decide)
        · exact xg_jump (gL_law_2682 hl tab nm sl sx hS hsl k s rc28 x1 h1 x2 h2 x3 h3 x4 h4 x5 h5 hr28 M6 hM6) (xsb_s (xsb_s (xsb_s (xsb_s (xsb_s (xsb_s (xsb_n (xsb_n (xsb_n xsb_0))))))))) (by omega) (by omega)
      · refine xg_iconst dL_law_2663 (Eq.refl 2664) ?_
        exact xg_zret rfl dL_law_2664 rfl hM6 (by decide)
    · intro e M9 he hM9
      exact xgx_none
  · intro e M9 he hM9
    exact xgx_none
theorem gL_law_2626 {l : Launch} {G : xG} (hl : l.stackTraces = false) (tab : List ExceptionTableEntry) (nm : String) (sl : Nat) (sx : Nat → Int32) (hS : G.2.2.2.1.2 = (sl, sx)) (hsl : sl ≤ 2147483647) (k s : Nat) (rc28 : Int → xM → xO) (x1 : Nat) (h1 : xOb 11 x1) (x2 : Nat) (h2 : xOb 12 x2) (x3 : Nat) (h3 : xAn 1 1 x3) (x4 : Nat) (h4 : xAn 2 1 x4) (x5 : Int) (h5 : R32 x5) (hr28 : ∀ w5 : Int, R32 w5 → ∀ M : xM, xcan M → Gv l G (uL_law tab nm) 21 1 k s 28 [some (.ref xSCR), some (.ref x1), some (.ref x2), some (.ref x3), some (.ref x4), some (iv w5), none, none, none] [] M (rc28 w5 M)) (M : xM) (hM : xcan M) : Gv l G (uL_law tab nm) 21 1 k s 2626 [some (.ref xSCR), some (.ref x1), some (.ref x2), some (.ref x3), some (.ref x4), some (iv x5), none, none, none] [] M (fL_law_2626 sl sx rc28 x1 x2 x3 x4 x5 M) := by
  unfold fL_law_2626
  refine xg_goto (tgt := 3031) dL_law_2626 (by decide) ?_
  exact xg_jump (gL_law_3031 hl tab nm sl sx hS hsl k s rc28 x1 h1 x2 h2 x3 h3 x4 h4 x5 h5 hr28 M hM) (xsb_s (xsb_s (xsb_s (xsb_s (xsb_s (xsb_s (xsb_n (xsb_n (xsb_n xsb_0))))))))) (by omega) (by omega)
theorem gL_law_2573 {l : Launch} {G : xG} (hl : l.stackTraces = false) (tab : List ExceptionTableEntry) (nm : String) (sl : Nat) (sx : Nat → Int32) (hS : G.2.2.2.1.2 = (sl, sx)) (hsl : sl ≤ 2147483647) (k s : Nat) (rc28 : Int → xM → xO) (x1 : Nat) (h1 : xOb 11 x1) (x2 : Nat) (h2 : xOb 12 x2) (x3 : Nat) (h3 : xAn 1 1 x3) (x4 : Nat) (h4 : xAn 2 1 x4) (x5 : Int) (h5 : R32 x5) (hr28 : ∀ w5 : Int, R32 w5 → ∀ M : xM, xcan M → Gv l G (uL_law tab nm) 21 1 k s 28 [some (.ref xSCR), some (.ref x1), some (.ref x2), some (.ref x3), some (.ref x4), some (iv w5), none, none, none] [] M (rc28 w5 M)) (M : xM) (hM : xcan M) : Gv l G (uL_law tab nm) 21 1 (k + 11) (s + 66) 2573 [some (.ref xSCR), some (.ref x1), some (.ref x2), some (.ref x3), some (.ref x4), some (iv x5), none, none, none] [] M (fL_law_2573 sl sx rc28 x1 x2 x3 x4 x5 M) := by
  unfold fL_law_2573
  refine xg_aload_n dL_law_2573 (Eq.refl 2574) rfl ?_
  refine xg_aload_n dL_law_2574 (Eq.refl 2575) rfl ?_
  refine xg_iload dL_law_2575 (Eq.refl 2577) rfl ?_
  refine xg_iconst dL_law_2577 (Eq.refl 2578) ?_
  refine xg_iadd dL_law_2578 (Eq.refl 2579) ?_
  refine xg_sld hS hsl dL_law_2579 (Eq.refl 2580) ?_
  refine xg_aload_n dL_law_2580 (Eq.refl 2581) rfl ?_
  refine xg_callWC_I (kc := k) (ks := s) (st := []) (mL_alleged hl x1 h1 (sx (w32 (x5 + 1)).toNat).toInt (xsx_r _) x3 (xAn.l h3) M hM) bL_alleged xq_1509 rfl (by decide) (by decide) dL_law_2581 (Eq.refl 2584) rfl (by omega) (by omega) ?_
  intro z1 M2 hz1 hM2
  refine xg_istore (ls2 := [some (.ref xSCR), some (.ref x1), some (.ref x2), some (.ref x3), some (.ref x4), some (iv x5), some (iv z1), none, none]) dL_law_2584 (Eq.refl 2586) (show 6 < 9 by decide) rfl ?_
  refine xg_aload_n dL_law_2586 (Eq.refl 2587) rfl ?_
  refine xg_aload_n dL_law_2587 (Eq.refl 2588) rfl ?_
  refine xg_iload dL_law_2588 (Eq.refl 2590) rfl ?_
  refine xg_iconst dL_law_2590 (Eq.refl 2591) ?_
  refine xg_iadd dL_law_2591 (Eq.refl 2592) ?_
  refine xg_sld hS hsl dL_law_2592 (Eq.refl 2593) ?_
  refine xg_callVC_I (kc := k) (ks := s) (st := []) (mX12_alleged hl x2 h2 (sx (w32 (x5 + 1)).toNat).toInt (xsx_r _) M2 hM2) bX12_alleged xcl12 h2 rfl xq_1516 rfl (by decide) (by decide) dL_law_2593 (Eq.refl 2596) rfl (by omega) (by omega) ?_ ?_
  · intro z3 M4 hz3 hM4
    refine xg_istore (ls2 := [some (.ref xSCR), some (.ref x1), some (.ref x2), some (.ref x3), some (.ref x4), some (iv x5), some (iv z1), some (iv z3), none]) dL_law_2596 (Eq.refl 2598) (show 7 < 9 by decide) rfl ?_
    refine xg_aload_n dL_law_2598 (Eq.refl 2599) rfl ?_
    refine xg_callVC_I (kc := k) (ks := s) (st := []) (mX12_thrown hl x2 h2 M4 hM4) bX12_thrown xcl12 h2 rfl xq_192 rfl (by decide) (by decide) dL_law_2599 (Eq.refl 2602) rfl (by omega) (by omega) ?_ ?_
    · intro z5 M6 hz5 hM6
      refine xg_iload dL_law_2602 (Eq.refl 2604) rfl ?_
      refine xg_icmp_eq (tgt := 2609) dL_law_2604 (Eq.refl 2607) (by decide) hz5 hz1 ?_ ?_
      · refine xg_iload dL_law_2609 (Eq.refl 2611) rfl ?_
        refine xg_if_ne (tgt := 2626) dL_law_2611 (Eq.refl 2614) (by decide) hz1 ?_ ?_
        · refine xg_aload_n dL_law_2614 (Eq.refl 2615) rfl ?_
          refine xg_iconst dL_law_2615 (Eq.refl 2616) ?_
          refine xg_laldk (k := 0) h3 dL_law_2616 (Eq.refl 2617) rfl (by decide) ?_
          refine xg_iload dL_law_2617 (Eq.refl 2619) rfl ?_
          refine xg_i2l dL_law_2619 (Eq.refl 2620) hz3 ?_
          refine xg_lif_eq (tgt := 2626) dL_law_2620 (Eq.refl 2621) dL_law_2621 (Eq.refl 2624) (by decide) (hM6.aj h3) (R32.j hz3) ?_ ?_
          · exact xg_jump (gL_law_2626 hl tab nm sl sx hS hsl k s rc28 x1 h1 x2 h2 x3 h3 x4 h4 x5 h5 hr28 M6 hM6) (xsb_s (xsb_s (xsb_s (xsb_s (xsb_s (xsb_s (xsb_n (xsb_n (xsb_n xsb_0))))))))) (by omega) (by omega)
          · refine xg_iconst dL_law_2624 (Eq.refl 2625) ?_
            exact xg_zret rfl dL_law_2625 rfl hM6 (by decide)
        · exact xg_jump (gL_law_2626 hl tab nm sl sx hS hsl k s rc28 x1 h1 x2 h2 x3 h3 x4 h4 x5 h5 hr28 M6 hM6) (xsb_s (xsb_s (xsb_s (xsb_s (xsb_s (xsb_s (xsb_n (xsb_n (xsb_n xsb_0))))))))) (by omega) (by omega)
      · refine xg_iconst dL_law_2607 (Eq.refl 2608) ?_
        exact xg_zret rfl dL_law_2608 rfl hM6 (by decide)
    · intro e M9 he hM9
      exact xgx_none
  · intro e M9 he hM9
    exact xgx_none
theorem gL_law_2570 {l : Launch} {G : xG} (hl : l.stackTraces = false) (tab : List ExceptionTableEntry) (nm : String) (sl : Nat) (sx : Nat → Int32) (hS : G.2.2.2.1.2 = (sl, sx)) (hsl : sl ≤ 2147483647) (k s : Nat) (rc28 : Int → xM → xO) (x1 : Nat) (h1 : xOb 11 x1) (x2 : Nat) (h2 : xOb 12 x2) (x3 : Nat) (h3 : xAn 1 1 x3) (x4 : Nat) (h4 : xAn 2 1 x4) (x5 : Int) (h5 : R32 x5) (hr28 : ∀ w5 : Int, R32 w5 → ∀ M : xM, xcan M → Gv l G (uL_law tab nm) 21 1 k s 28 [some (.ref xSCR), some (.ref x1), some (.ref x2), some (.ref x3), some (.ref x4), some (iv w5), none, none, none] [] M (rc28 w5 M)) (M : xM) (hM : xcan M) : Gv l G (uL_law tab nm) 21 1 k s 2570 [some (.ref xSCR), some (.ref x1), some (.ref x2), some (.ref x3), some (.ref x4), some (iv x5), none, none, none] [] M (fL_law_2570 sl sx rc28 x1 x2 x3 x4 x5 M) := by
  unfold fL_law_2570
  refine xg_goto (tgt := 3031) dL_law_2570 (by decide) ?_
  exact xg_jump (gL_law_3031 hl tab nm sl sx hS hsl k s rc28 x1 h1 x2 h2 x3 h3 x4 h4 x5 h5 hr28 M hM) (xsb_s (xsb_s (xsb_s (xsb_s (xsb_s (xsb_s (xsb_n (xsb_n (xsb_n xsb_0))))))))) (by omega) (by omega)
theorem gL_law_2517 {l : Launch} {G : xG} (hl : l.stackTraces = false) (tab : List ExceptionTableEntry) (nm : String) (sl : Nat) (sx : Nat → Int32) (hS : G.2.2.2.1.2 = (sl, sx)) (hsl : sl ≤ 2147483647) (k s : Nat) (rc28 : Int → xM → xO) (x1 : Nat) (h1 : xOb 11 x1) (x2 : Nat) (h2 : xOb 12 x2) (x3 : Nat) (h3 : xAn 1 1 x3) (x4 : Nat) (h4 : xAn 2 1 x4) (x5 : Int) (h5 : R32 x5) (hr28 : ∀ w5 : Int, R32 w5 → ∀ M : xM, xcan M → Gv l G (uL_law tab nm) 21 1 k s 28 [some (.ref xSCR), some (.ref x1), some (.ref x2), some (.ref x3), some (.ref x4), some (iv w5), none, none, none] [] M (rc28 w5 M)) (M : xM) (hM : xcan M) : Gv l G (uL_law tab nm) 21 1 (k + 11) (s + 66) 2517 [some (.ref xSCR), some (.ref x1), some (.ref x2), some (.ref x3), some (.ref x4), some (iv x5), none, none, none] [] M (fL_law_2517 sl sx rc28 x1 x2 x3 x4 x5 M) := by
  unfold fL_law_2517
  refine xg_aload_n dL_law_2517 (Eq.refl 2518) rfl ?_
  refine xg_aload_n dL_law_2518 (Eq.refl 2519) rfl ?_
  refine xg_iload dL_law_2519 (Eq.refl 2521) rfl ?_
  refine xg_iconst dL_law_2521 (Eq.refl 2522) ?_
  refine xg_iadd dL_law_2522 (Eq.refl 2523) ?_
  refine xg_sld hS hsl dL_law_2523 (Eq.refl 2524) ?_
  refine xg_aload_n dL_law_2524 (Eq.refl 2525) rfl ?_
  refine xg_callWC_I (kc := k) (ks := s) (st := []) (mL_messages hl x1 h1 (sx (w32 (x5 + 1)).toNat).toInt (xsx_r _) x3 (xAn.l h3) M hM) bL_messages xq_1494 rfl (by decide) (by decide) dL_law_2525 (Eq.refl 2528) rfl (by omega) (by omega) ?_
  intro z1 M2 hz1 hM2
  refine xg_istore (ls2 := [some (.ref xSCR), some (.ref x1), some (.ref x2), some (.ref x3), some (.ref x4), some (iv x5), some (iv z1), none, none]) dL_law_2528 (Eq.refl 2530) (show 6 < 9 by decide) rfl ?_
  refine xg_aload_n dL_law_2530 (Eq.refl 2531) rfl ?_
  refine xg_aload_n dL_law_2531 (Eq.refl 2532) rfl ?_
  refine xg_iload dL_law_2532 (Eq.refl 2534) rfl ?_
  refine xg_iconst dL_law_2534 (Eq.refl 2535) ?_
  refine xg_iadd dL_law_2535 (Eq.refl 2536) ?_
  refine xg_sld hS hsl dL_law_2536 (Eq.refl 2537) ?_
  refine xg_callVC_I (kc := k) (ks := s) (st := []) (mX12_messages hl x2 h2 (sx (w32 (x5 + 1)).toNat).toInt (xsx_r _) M2 hM2) bX12_messages xcl12 h2 rfl xq_1505 rfl (by decide) (by decide) dL_law_2537 (Eq.refl 2540) rfl (by omega) (by omega) ?_ ?_
  · intro z3 M4 hz3 hM4
    refine xg_istore (ls2 := [some (.ref xSCR), some (.ref x1), some (.ref x2), some (.ref x3), some (.ref x4), some (iv x5), some (iv z1), some (iv z3), none]) dL_law_2540 (Eq.refl 2542) (show 7 < 9 by decide) rfl ?_
    refine xg_aload_n dL_law_2542 (Eq.refl 2543) rfl ?_
    refine xg_callVC_I (kc := k) (ks := s) (st := []) (mX12_thrown hl x2 h2 M4 hM4) bX12_thrown xcl12 h2 rfl xq_192 rfl (by decide) (by decide) dL_law_2543 (Eq.refl 2546) rfl (by omega) (by omega) ?_ ?_
    · intro z5 M6 hz5 hM6
      refine xg_iload dL_law_2546 (Eq.refl 2548) rfl ?_
      refine xg_icmp_eq (tgt := 2553) dL_law_2548 (Eq.refl 2551) (by decide) hz5 hz1 ?_ ?_
      · refine xg_iload dL_law_2553 (Eq.refl 2555) rfl ?_
        refine xg_if_ne (tgt := 2570) dL_law_2555 (Eq.refl 2558) (by decide) hz1 ?_ ?_
        · refine xg_aload_n dL_law_2558 (Eq.refl 2559) rfl ?_
          refine xg_iconst dL_law_2559 (Eq.refl 2560) ?_
          refine xg_laldk (k := 0) h3 dL_law_2560 (Eq.refl 2561) rfl (by decide) ?_
          refine xg_iload dL_law_2561 (Eq.refl 2563) rfl ?_
          refine xg_i2l dL_law_2563 (Eq.refl 2564) hz3 ?_
          refine xg_lif_eq (tgt := 2570) dL_law_2564 (Eq.refl 2565) dL_law_2565 (Eq.refl 2568) (by decide) (hM6.aj h3) (R32.j hz3) ?_ ?_
          · exact xg_jump (gL_law_2570 hl tab nm sl sx hS hsl k s rc28 x1 h1 x2 h2 x3 h3 x4 h4 x5 h5 hr28 M6 hM6) (xsb_s (xsb_s (xsb_s (xsb_s (xsb_s (xsb_s (xsb_n (xsb_n (xsb_n xsb_0))))))))) (by omega) (by omega)
          · refine xg_iconst dL_law_2568 (Eq.refl 2569) ?_
            exact xg_zret rfl dL_law_2569 rfl hM6 (by decide)
        · exact xg_jump (gL_law_2570 hl tab nm sl sx hS hsl k s rc28 x1 h1 x2 h2 x3 h3 x4 h4 x5 h5 hr28 M6 hM6) (xsb_s (xsb_s (xsb_s (xsb_s (xsb_s (xsb_s (xsb_n (xsb_n (xsb_n xsb_0))))))))) (by omega) (by omega)
      · refine xg_iconst dL_law_2551 (Eq.refl 2552) ?_
        exact xg_zret rfl dL_law_2552 rfl hM6 (by decide)
    · intro e M9 he hM9
      exact xgx_none
  · intro e M9 he hM9
    exact xgx_none
theorem gL_law_2514 {l : Launch} {G : xG} (hl : l.stackTraces = false) (tab : List ExceptionTableEntry) (nm : String) (sl : Nat) (sx : Nat → Int32) (hS : G.2.2.2.1.2 = (sl, sx)) (hsl : sl ≤ 2147483647) (k s : Nat) (rc28 : Int → xM → xO) (x1 : Nat) (h1 : xOb 11 x1) (x2 : Nat) (h2 : xOb 12 x2) (x3 : Nat) (h3 : xAn 1 1 x3) (x4 : Nat) (h4 : xAn 2 1 x4) (x5 : Int) (h5 : R32 x5) (hr28 : ∀ w5 : Int, R32 w5 → ∀ M : xM, xcan M → Gv l G (uL_law tab nm) 21 1 k s 28 [some (.ref xSCR), some (.ref x1), some (.ref x2), some (.ref x3), some (.ref x4), some (iv w5), none, none, none] [] M (rc28 w5 M)) (M : xM) (hM : xcan M) : Gv l G (uL_law tab nm) 21 1 k s 2514 [some (.ref xSCR), some (.ref x1), some (.ref x2), some (.ref x3), some (.ref x4), some (iv x5), none, none, none] [] M (fL_law_2514 sl sx rc28 x1 x2 x3 x4 x5 M) := by
  unfold fL_law_2514
  refine xg_goto (tgt := 3031) dL_law_2514 (by decide) ?_
  exact xg_jump (gL_law_3031 hl tab nm sl sx hS hsl k s rc28 x1 h1 x2 h2 x3 h3 x4 h4 x5 h5 hr28 M hM) (xsb_s (xsb_s (xsb_s (xsb_s (xsb_s (xsb_s (xsb_n (xsb_n (xsb_n xsb_0))))))))) (by omega) (by omega)
theorem gL_law_2462 {l : Launch} {G : xG} (hl : l.stackTraces = false) (tab : List ExceptionTableEntry) (nm : String) (sl : Nat) (sx : Nat → Int32) (hS : G.2.2.2.1.2 = (sl, sx)) (hsl : sl ≤ 2147483647) (k s : Nat) (rc28 : Int → xM → xO) (x1 : Nat) (h1 : xOb 11 x1) (x2 : Nat) (h2 : xOb 12 x2) (x3 : Nat) (h3 : xAn 1 1 x3) (x4 : Nat) (h4 : xAn 2 1 x4) (x5 : Int) (h5 : R32 x5) (hr28 : ∀ w5 : Int, R32 w5 → ∀ M : xM, xcan M → Gv l G (uL_law tab nm) 21 1 k s 28 [some (.ref xSCR), some (.ref x1), some (.ref x2), some (.ref x3), some (.ref x4), some (iv w5), none, none, none] [] M (rc28 w5 M)) (M : xM) (hM : xcan M) : Gv l G (uL_law tab nm) 21 1 (k + 11) (s + 66) 2462 [some (.ref xSCR), some (.ref x1), some (.ref x2), some (.ref x3), some (.ref x4), some (iv x5), none, none, none] [] M (fL_law_2462 sl sx rc28 x1 x2 x3 x4 x5 M) := by
  unfold fL_law_2462
  refine xg_aload_n dL_law_2462 (Eq.refl 2463) rfl ?_
  refine xg_aload_n dL_law_2463 (Eq.refl 2464) rfl ?_
  refine xg_iload dL_law_2464 (Eq.refl 2466) rfl ?_
  refine xg_iconst dL_law_2466 (Eq.refl 2467) ?_
  refine xg_iadd dL_law_2467 (Eq.refl 2468) ?_
  refine xg_sld hS hsl dL_law_2468 (Eq.refl 2469) ?_
  refine xg_aload_n dL_law_2469 (Eq.refl 2470) rfl ?_
  refine xg_callWC_I (kc := k) (ks := s) (st := []) (mL_ledger hl x1 h1 (sx (w32 (x5 + 1)).toNat).toInt (xsx_r _) x3 (xAn.l h3) M hM) bL_ledger xq_1482 rfl (by decide) (by decide) dL_law_2470 (Eq.refl 2473) rfl (by omega) (by omega) ?_
  intro z1 M2 hz1 hM2
  refine xg_istore (ls2 := [some (.ref xSCR), some (.ref x1), some (.ref x2), some (.ref x3), some (.ref x4), some (iv x5), some (iv z1), none, none]) dL_law_2473 (Eq.refl 2475) (show 6 < 9 by decide) rfl ?_
  refine xg_aload_n dL_law_2475 (Eq.refl 2476) rfl ?_
  refine xg_aload_n dL_law_2476 (Eq.refl 2477) rfl ?_
  refine xg_iload dL_law_2477 (Eq.refl 2479) rfl ?_
  refine xg_iconst dL_law_2479 (Eq.refl 2480) ?_
  refine xg_iadd dL_law_2480 (Eq.refl 2481) ?_
  refine xg_sld hS hsl dL_law_2481 (Eq.refl 2482) ?_
  refine xg_callVC_J (kc := k) (ks := s) (st := []) (mX12_ledger hl x2 h2 (sx (w32 (x5 + 1)).toNat).toInt (xsx_r _) M2 hM2) bX12_ledger xcl12 h2 rfl xq_1490 rfl (by decide) (by decide) dL_law_2482 (Eq.refl 2485) rfl (by omega) (by omega) ?_ ?_
  · intro z3 M4 hz3 hM4
    refine xg_lstore (ls2 := [some (.ref xSCR), some (.ref x1), some (.ref x2), some (.ref x3), some (.ref x4), some (iv x5), some (iv z1), some (jv z3), none]) dL_law_2485 (Eq.refl 2487) (show 7 + 1 < 9 by decide) rfl ?_
    refine xg_aload_n dL_law_2487 (Eq.refl 2488) rfl ?_
    refine xg_callVC_I (kc := k) (ks := s) (st := []) (mX12_thrown hl x2 h2 M4 hM4) bX12_thrown xcl12 h2 rfl xq_192 rfl (by decide) (by decide) dL_law_2488 (Eq.refl 2491) rfl (by omega) (by omega) ?_ ?_
    · intro z5 M6 hz5 hM6
      refine xg_iload dL_law_2491 (Eq.refl 2493) rfl ?_
      refine xg_icmp_eq (tgt := 2498) dL_law_2493 (Eq.refl 2496) (by decide) hz5 hz1 ?_ ?_
      · refine xg_iload dL_law_2498 (Eq.refl 2500) rfl ?_
        refine xg_if_ne (tgt := 2514) dL_law_2500 (Eq.refl 2503) (by decide) hz1 ?_ ?_
        · refine xg_aload_n dL_law_2503 (Eq.refl 2504) rfl ?_
          refine xg_iconst dL_law_2504 (Eq.refl 2505) ?_
          refine xg_laldk (k := 0) h3 dL_law_2505 (Eq.refl 2506) rfl (by decide) ?_
          refine xg_lload dL_law_2506 (Eq.refl 2508) rfl ?_
          refine xg_lif_eq (tgt := 2514) dL_law_2508 (Eq.refl 2509) dL_law_2509 (Eq.refl 2512) (by decide) (hM6.aj h3) hz3 ?_ ?_
          · exact xg_jump (gL_law_2514 hl tab nm sl sx hS hsl k s rc28 x1 h1 x2 h2 x3 h3 x4 h4 x5 h5 hr28 M6 hM6) (xsb_s (xsb_s (xsb_s (xsb_s (xsb_s (xsb_s (xsb_n (xsb_n (xsb_n xsb_0))))))))) (by omega) (by omega)
          · refine xg_iconst dL_law_2512 (Eq.refl 2513) ?_
            exact xg_zret rfl dL_law_2513 rfl hM6 (by decide)
        · exact xg_jump (gL_law_2514 hl tab nm sl sx hS hsl k s rc28 x1 h1 x2 h2 x3 h3 x4 h4 x5 h5 hr28 M6 hM6) (xsb_s (xsb_s (xsb_s (xsb_s (xsb_s (xsb_s (xsb_n (xsb_n (xsb_n xsb_0))))))))) (by omega) (by omega)
      · refine xg_iconst dL_law_2496 (Eq.refl 2497) ?_
        exact xg_zret rfl dL_law_2497 rfl hM6 (by decide)
    · intro e M9 he hM9
      exact xgx_none
  · intro e M9 he hM9
    exact xgx_none
theorem gL_law_2459 {l : Launch} {G : xG} (hl : l.stackTraces = false) (tab : List ExceptionTableEntry) (nm : String) (sl : Nat) (sx : Nat → Int32) (hS : G.2.2.2.1.2 = (sl, sx)) (hsl : sl ≤ 2147483647) (k s : Nat) (rc28 : Int → xM → xO) (x1 : Nat) (h1 : xOb 11 x1) (x2 : Nat) (h2 : xOb 12 x2) (x3 : Nat) (h3 : xAn 1 1 x3) (x4 : Nat) (h4 : xAn 2 1 x4) (x5 : Int) (h5 : R32 x5) (hr28 : ∀ w5 : Int, R32 w5 → ∀ M : xM, xcan M → Gv l G (uL_law tab nm) 21 1 k s 28 [some (.ref xSCR), some (.ref x1), some (.ref x2), some (.ref x3), some (.ref x4), some (iv w5), none, none, none] [] M (rc28 w5 M)) (M : xM) (hM : xcan M) : Gv l G (uL_law tab nm) 21 1 k s 2459 [some (.ref xSCR), some (.ref x1), some (.ref x2), some (.ref x3), some (.ref x4), some (iv x5), none, none, none] [] M (fL_law_2459 sl sx rc28 x1 x2 x3 x4 x5 M) := by
  unfold fL_law_2459
  refine xg_goto (tgt := 3031) dL_law_2459 (by decide) ?_
  exact xg_jump (gL_law_3031 hl tab nm sl sx hS hsl k s rc28 x1 h1 x2 h2 x3 h3 x4 h4 x5 h5 hr28 M hM) (xsb_s (xsb_s (xsb_s (xsb_s (xsb_s (xsb_s (xsb_n (xsb_n (xsb_n xsb_0))))))))) (by omega) (by omega)
theorem gL_law_2385 {l : Launch} {G : xG} (hl : l.stackTraces = false) (tab : List ExceptionTableEntry) (nm : String) (sl : Nat) (sx : Nat → Int32) (hS : G.2.2.2.1.2 = (sl, sx)) (hsl : sl ≤ 2147483647) (k s : Nat) (rc28 : Int → xM → xO) (x1 : Nat) (h1 : xOb 11 x1) (x2 : Nat) (h2 : xOb 12 x2) (x3 : Nat) (h3 : xAn 1 1 x3) (x4 : Nat) (h4 : xAn 2 1 x4) (x5 : Int) (h5 : R32 x5) (hr28 : ∀ w5 : Int, R32 w5 → ∀ M : xM, xcan M → Gv l G (uL_law tab nm) 21 1 k s 28 [some (.ref xSCR), some (.ref x1), some (.ref x2), some (.ref x3), some (.ref x4), some (iv w5), none, none, none] [] M (rc28 w5 M)) (M : xM) (hM : xcan M) : Gv l G (uL_law tab nm) 21 1 (k + 11) (s + 66) 2385 [some (.ref xSCR), some (.ref x1), some (.ref x2), some (.ref x3), some (.ref x4), some (iv x5), none, none, none] [] M (fL_law_2385 sl sx rc28 x1 x2 x3 x4 x5 M) := by
  unfold fL_law_2385
  refine xg_aload_n dL_law_2385 (Eq.refl 2386) rfl ?_
  refine xg_aload_n dL_law_2386 (Eq.refl 2387) rfl ?_
  refine xg_iload dL_law_2387 (Eq.refl 2389) rfl ?_
  refine xg_iconst dL_law_2389 (Eq.refl 2390) ?_
  refine xg_iadd dL_law_2390 (Eq.refl 2391) ?_
  refine xg_sld hS hsl dL_law_2391 (Eq.refl 2392) ?_
  refine xg_aload dL_law_2392 (Eq.refl 2394) rfl ?_
  refine xg_callWC_I (kc := k) (ks := s) (st := []) (mL_used hl x1 h1 (sx (w32 (x5 + 1)).toNat).toInt (xsx_r _) x4 (xAn.l h4) M hM) bL_used xq_1469 rfl (by decide) (by decide) dL_law_2394 (Eq.refl 2397) rfl (by omega) (by omega) ?_
  intro z1 M2 hz1 hM2
  refine xg_istore (ls2 := [some (.ref xSCR), some (.ref x1), some (.ref x2), some (.ref x3), some (.ref x4), some (iv x5), some (iv z1), none, none]) dL_law_2397 (Eq.refl 2399) (show 6 < 9 by decide) rfl ?_
  refine xg_aload_n dL_law_2399 (Eq.refl 2400) rfl ?_
  refine xg_aload_n dL_law_2400 (Eq.refl 2401) rfl ?_
  refine xg_iload dL_law_2401 (Eq.refl 2403) rfl ?_
  refine xg_iconst dL_law_2403 (Eq.refl 2404) ?_
  refine xg_iadd dL_law_2404 (Eq.refl 2405) ?_
  refine xg_sld hS hsl dL_law_2405 (Eq.refl 2406) ?_
  refine xg_callVC_D (kc := k) (ks := s) (st := []) (mX12_used hl x2 h2 (sx (w32 (x5 + 1)).toNat).toInt (xsx_r _) M2 hM2) bX12_used xcl12 h2 rfl xq_1478 rfl (by decide) (by decide) dL_law_2406 (Eq.refl 2409) rfl (by omega) (by omega) ?_ ?_
  · intro z3 M4 hz3 hM4
    refine xg_dstore (ls2 := [some (.ref xSCR), some (.ref x1), some (.ref x2), some (.ref x3), some (.ref x4), some (iv x5), some (iv z1), some (.double (UInt64.ofNat z3.toNat)), none]) dL_law_2409 (Eq.refl 2411) (show 7 + 1 < 9 by decide) rfl ?_
    refine xg_aload_n dL_law_2411 (Eq.refl 2412) rfl ?_
    refine xg_callVC_I (kc := k) (ks := s) (st := []) (mX12_thrown hl x2 h2 M4 hM4) bX12_thrown xcl12 h2 rfl xq_192 rfl (by decide) (by decide) dL_law_2412 (Eq.refl 2415) rfl (by omega) (by omega) ?_ ?_
    · intro z5 M6 hz5 hM6
      refine xg_iload dL_law_2415 (Eq.refl 2417) rfl ?_
      refine xg_icmp_eq (tgt := 2422) dL_law_2417 (Eq.refl 2420) (by decide) hz5 hz1 ?_ ?_
      · refine xg_iload dL_law_2422 (Eq.refl 2424) rfl ?_
        refine xg_if_ne (tgt := 2459) dL_law_2424 (Eq.refl 2427) (by decide) hz1 ?_ ?_
        · refine xg_aload dL_law_2427 (Eq.refl 2429) rfl ?_
          refine xg_iconst dL_law_2429 (Eq.refl 2430) ?_
          refine xg_daldk (k := 0) h4 dL_law_2430 (Eq.refl 2431) rfl (by decide) ?_
          refine xg_dload dL_law_2431 (Eq.refl 2433) rfl ?_
          refine xg_dcmp dL_law_2433 (Eq.refl 2434) ?_
          refine xg_if_eq (tgt := 2459) dL_law_2434 (Eq.refl 2437) (by decide) (xdcl_r _ _) ?_ ?_
          · exact xg_jump (gL_law_2459 hl tab nm sl sx hS hsl k s rc28 x1 h1 x2 h2 x3 h3 x4 h4 x5 h5 hr28 M6 hM6) (xsb_s (xsb_s (xsb_s (xsb_s (xsb_s (xsb_s (xsb_n (xsb_n (xsb_n xsb_0))))))))) (by omega) (by omega)
          · refine xg_aload dL_law_2437 (Eq.refl 2439) rfl ?_
            refine xg_iconst dL_law_2439 (Eq.refl 2440) ?_
            refine xg_daldk (k := 0) h4 dL_law_2440 (Eq.refl 2441) rfl (by decide) ?_
            refine xg_aload dL_law_2441 (Eq.refl 2443) rfl ?_
            refine xg_iconst dL_law_2443 (Eq.refl 2444) ?_
            refine xg_daldk (k := 0) h4 dL_law_2444 (Eq.refl 2445) rfl (by decide) ?_
            refine xg_dcmp dL_law_2445 (Eq.refl 2446) ?_
            refine xg_if_eq (tgt := 2457) dL_law_2446 (Eq.refl 2449) (by decide) (xdcl_r _ _) ?_ ?_
            · refine xg_iconst dL_law_2457 (Eq.refl 2458) ?_
              exact xg_zret rfl dL_law_2458 rfl hM6 (by decide)
            · refine xg_dload dL_law_2449 (Eq.refl 2451) rfl ?_
              refine xg_dload dL_law_2451 (Eq.refl 2453) rfl ?_
              refine xg_dcmp dL_law_2453 (Eq.refl 2454) ?_
              refine xg_if_ne (tgt := 2459) dL_law_2454 (Eq.refl 2457) (by decide) (xdcl_r _ _) ?_ ?_
              · refine xg_iconst dL_law_2457 (Eq.refl 2458) ?_
                exact xg_zret rfl dL_law_2458 rfl hM6 (by decide)
              · exact xg_jump (gL_law_2459 hl tab nm sl sx hS hsl k s rc28 x1 h1 x2 h2 x3 h3 x4 h4 x5 h5 hr28 M6 hM6) (xsb_s (xsb_s (xsb_s (xsb_s (xsb_s (xsb_s (xsb_n (xsb_n (xsb_n xsb_0))))))))) (by omega) (by omega)
        · exact xg_jump (gL_law_2459 hl tab nm sl sx hS hsl k s rc28 x1 h1 x2 h2 x3 h3 x4 h4 x5 h5 hr28 M6 hM6) (xsb_s (xsb_s (xsb_s (xsb_s (xsb_s (xsb_s (xsb_n (xsb_n (xsb_n xsb_0))))))))) (by omega) (by omega)
      · refine xg_iconst dL_law_2420 (Eq.refl 2421) ?_
        exact xg_zret rfl dL_law_2421 rfl hM6 (by decide)
    · intro e M9 he hM9
      exact xgx_none
  · intro e M9 he hM9
    exact xgx_none
theorem gL_law_2382 {l : Launch} {G : xG} (hl : l.stackTraces = false) (tab : List ExceptionTableEntry) (nm : String) (sl : Nat) (sx : Nat → Int32) (hS : G.2.2.2.1.2 = (sl, sx)) (hsl : sl ≤ 2147483647) (k s : Nat) (rc28 : Int → xM → xO) (x1 : Nat) (h1 : xOb 11 x1) (x2 : Nat) (h2 : xOb 12 x2) (x3 : Nat) (h3 : xAn 1 1 x3) (x4 : Nat) (h4 : xAn 2 1 x4) (x5 : Int) (h5 : R32 x5) (hr28 : ∀ w5 : Int, R32 w5 → ∀ M : xM, xcan M → Gv l G (uL_law tab nm) 21 1 k s 28 [some (.ref xSCR), some (.ref x1), some (.ref x2), some (.ref x3), some (.ref x4), some (iv w5), none, none, none] [] M (rc28 w5 M)) (M : xM) (hM : xcan M) : Gv l G (uL_law tab nm) 21 1 k s 2382 [some (.ref xSCR), some (.ref x1), some (.ref x2), some (.ref x3), some (.ref x4), some (iv x5), none, none, none] [] M (fL_law_2382 sl sx rc28 x1 x2 x3 x4 x5 M) := by
  unfold fL_law_2382
  refine xg_goto (tgt := 3031) dL_law_2382 (by decide) ?_
  exact xg_jump (gL_law_3031 hl tab nm sl sx hS hsl k s rc28 x1 h1 x2 h2 x3 h3 x4 h4 x5 h5 hr28 M hM) (xsb_s (xsb_s (xsb_s (xsb_s (xsb_s (xsb_s (xsb_n (xsb_n (xsb_n xsb_0))))))))) (by omega) (by omega)
theorem gL_law_2376 {l : Launch} {G : xG} (hl : l.stackTraces = false) (tab : List ExceptionTableEntry) (nm : String) (sl : Nat) (sx : Nat → Int32) (hS : G.2.2.2.1.2 = (sl, sx)) (hsl : sl ≤ 2147483647) (k s : Nat) (rc28 : Int → xM → xO) (x1 : Nat) (h1 : xOb 11 x1) (x2 : Nat) (h2 : xOb 12 x2) (x3 : Nat) (h3 : xAn 1 1 x3) (x4 : Nat) (h4 : xAn 2 1 x4) (x5 : Int) (h5 : R32 x5) (s0 : Int) (hs0 : R64 s0) (s1 : Int) (hs1 : R64 s1) (hr28 : ∀ w5 : Int, R32 w5 → ∀ M : xM, xcan M → Gv l G (uL_law tab nm) 21 1 k s 28 [some (.ref xSCR), some (.ref x1), some (.ref x2), some (.ref x3), some (.ref x4), some (iv w5), none, none, none] [] M (rc28 w5 M)) (M : xM) (hM : xcan M) : Gv l G (uL_law tab nm) 21 1 k s 2376 [some (.ref xSCR), some (.ref x1), some (.ref x2), some (.ref x3), some (.ref x4), some (iv x5), none, none, none] [jv s0, jv s1] M (fL_law_2376 sl sx rc28 x1 x2 x3 x4 x5 s0 s1 M) := by
  unfold fL_law_2376
  refine xg_lif_eq (tgt := 2382) dL_law_2376 (Eq.refl 2377) dL_law_2377 (Eq.refl 2380) (by decide) hs1 hs0 ?_ ?_
  · exact xg_jump (gL_law_2382 hl tab nm sl sx hS hsl k s rc28 x1 h1 x2 h2 x3 h3 x4 h4 x5 h5 hr28 M hM) (xsb_s (xsb_s (xsb_s (xsb_s (xsb_s (xsb_s (xsb_n (xsb_n (xsb_n xsb_0))))))))) (by omega) (by omega)
  · refine xg_iconst dL_law_2380 (Eq.refl 2381) ?_
    exact xg_zret rfl dL_law_2381 rfl hM (by decide)
theorem gL_law_2322 {l : Launch} {G : xG} (hl : l.stackTraces = false) (tab : List ExceptionTableEntry) (nm : String) (sl : Nat) (sx : Nat → Int32) (hS : G.2.2.2.1.2 = (sl, sx)) (hsl : sl ≤ 2147483647) (k s : Nat) (rc28 : Int → xM → xO) (x1 : Nat) (h1 : xOb 11 x1) (x2 : Nat) (h2 : xOb 12 x2) (x3 : Nat) (h3 : xAn 1 1 x3) (x4 : Nat) (h4 : xAn 2 1 x4) (x5 : Int) (h5 : R32 x5) (hr28 : ∀ w5 : Int, R32 w5 → ∀ M : xM, xcan M → Gv l G (uL_law tab nm) 21 1 k s 28 [some (.ref xSCR), some (.ref x1), some (.ref x2), some (.ref x3), some (.ref x4), some (iv w5), none, none, none] [] M (rc28 w5 M)) (M : xM) (hM : xcan M) : Gv l G (uL_law tab nm) 21 1 (k + 11) (s + 66) 2322 [some (.ref xSCR), some (.ref x1), some (.ref x2), some (.ref x3), some (.ref x4), some (iv x5), none, none, none] [] M (fL_law_2322 sl sx rc28 x1 x2 x3 x4 x5 M) := by
  unfold fL_law_2322
  refine xg_aload_n dL_law_2322 (Eq.refl 2323) rfl ?_
  refine xg_aload_n dL_law_2323 (Eq.refl 2324) rfl ?_
  refine xg_iload dL_law_2324 (Eq.refl 2326) rfl ?_
  refine xg_iconst dL_law_2326 (Eq.refl 2327) ?_
  refine xg_iadd dL_law_2327 (Eq.refl 2328) ?_
  refine xg_sld hS hsl dL_law_2328 (Eq.refl 2329) ?_
  refine xg_aload_n dL_law_2329 (Eq.refl 2330) rfl ?_
  refine xg_callWC_I (kc := k) (ks := s) (st := []) (mL_isSound hl x1 h1 (sx (w32 (x5 + 1)).toNat).toInt (xsx_r _) x3 (xAn.l h3) M hM) bL_isSound xq_1458 rfl (by decide) (by decide) dL_law_2330 (Eq.refl 2333) rfl (by omega) (by omega) ?_
  intro z1 M2 hz1 hM2
  refine xg_istore (ls2 := [some (.ref xSCR), some (.ref x1), some (.ref x2), some (.ref x3), some (.ref x4), some (iv x5), some (iv z1), none, none]) dL_law_2333 (Eq.refl 2335) (show 6 < 9 by decide) rfl ?_
  refine xg_aload_n dL_law_2335 (Eq.refl 2336) rfl ?_
  refine xg_aload_n dL_law_2336 (Eq.refl 2337) rfl ?_
  refine xg_iload dL_law_2337 (Eq.refl 2339) rfl ?_
  refine xg_iconst dL_law_2339 (Eq.refl 2340) ?_
  refine xg_iadd dL_law_2340 (Eq.refl 2341) ?_
  refine xg_sld hS hsl dL_law_2341 (Eq.refl 2342) ?_
  refine xg_callVC_Z (kc := k) (ks := s) (st := []) (mX12_isSound hl x2 h2 (sx (w32 (x5 + 1)).toNat).toInt (xsx_r _) M2 hM2) bX12_isSound xcl12 h2 rfl xq_1465 rfl (by decide) (by decide) dL_law_2342 (Eq.refl 2345) rfl (by omega) (by omega) ?_ ?_
  · intro z3 M4 hz3 hM4
    refine xg_istore (ls2 := [some (.ref xSCR), some (.ref x1), some (.ref x2), some (.ref x3), some (.ref x4), some (iv x5), some (iv z1), some (iv z3), none]) dL_law_2345 (Eq.refl 2347) (show 7 < 9 by decide) rfl ?_
    refine xg_aload_n dL_law_2347 (Eq.refl 2348) rfl ?_
    refine xg_callVC_I (kc := k) (ks := s) (st := []) (mX12_thrown hl x2 h2 M4 hM4) bX12_thrown xcl12 h2 rfl xq_192 rfl (by decide) (by decide) dL_law_2348 (Eq.refl 2351) rfl (by omega) (by omega) ?_ ?_
    · intro z5 M6 hz5 hM6
      refine xg_iload dL_law_2351 (Eq.refl 2353) rfl ?_
      refine xg_icmp_eq (tgt := 2358) dL_law_2353 (Eq.refl 2356) (by decide) hz5 hz1 ?_ ?_
      · refine xg_iload dL_law_2358 (Eq.refl 2360) rfl ?_
        refine xg_if_ne (tgt := 2382) dL_law_2360 (Eq.refl 2363) (by decide) hz1 ?_ ?_
        · refine xg_aload_n dL_law_2363 (Eq.refl 2364) rfl ?_
          refine xg_iconst dL_law_2364 (Eq.refl 2365) ?_
          refine xg_laldk (k := 0) h3 dL_law_2365 (Eq.refl 2366) rfl (by decide) ?_
          refine xg_iload dL_law_2366 (Eq.refl 2368) rfl ?_
          refine xg_if_eq (tgt := 2375) dL_law_2368 (Eq.refl 2371) (by decide) (B01.r hz3) ?_ ?_
          · refine xg_lconst (z := 0) dL_law_2375 (Eq.refl 2376) rfl ?_
            exact xg_jump (gL_law_2376 hl tab nm sl sx hS hsl k s rc28 x1 h1 x2 h2 x3 h3 x4 h4 x5 h5 0 (by decide) (M6 x3 0) (hM6.aj h3) hr28 M6 hM6) (xsb_s (xsb_s (xsb_s (xsb_s (xsb_s (xsb_s (xsb_n (xsb_n (xsb_n xsb_0))))))))) (by omega) (by omega)
          · refine xg_lconst (z := 1) dL_law_2371 (Eq.refl 2372) rfl ?_
            refine xg_goto (tgt := 2376) dL_law_2372 (by decide) ?_
            exact xg_jump (gL_law_2376 hl tab nm sl sx hS hsl k s rc28 x1 h1 x2 h2 x3 h3 x4 h4 x5 h5 1 (by decide) (M6 x3 0) (hM6.aj h3) hr28 M6 hM6) (xsb_s (xsb_s (xsb_s (xsb_s (xsb_s (xsb_s (xsb_n (xsb_n (xsb_n xsb_0))))))))) (by omega) (by omega)
        · exact xg_jump (gL_law_2382 hl tab nm sl sx hS hsl k s rc28 x1 h1 x2 h2 x3 h3 x4 h4 x5 h5 hr28 M6 hM6) (xsb_s (xsb_s (xsb_s (xsb_s (xsb_s (xsb_s (xsb_n (xsb_n (xsb_n xsb_0))))))))) (by omega) (by omega)
      · refine xg_iconst dL_law_2356 (Eq.refl 2357) ?_
        exact xg_zret rfl dL_law_2357 rfl hM6 (by decide)
    · intro e M9 he hM9
      exact xgx_none
  · intro e M9 he hM9
    exact xgx_none
theorem gL_law_2319 {l : Launch} {G : xG} (hl : l.stackTraces = false) (tab : List ExceptionTableEntry) (nm : String) (sl : Nat) (sx : Nat → Int32) (hS : G.2.2.2.1.2 = (sl, sx)) (hsl : sl ≤ 2147483647) (k s : Nat) (rc28 : Int → xM → xO) (x1 : Nat) (h1 : xOb 11 x1) (x2 : Nat) (h2 : xOb 12 x2) (x3 : Nat) (h3 : xAn 1 1 x3) (x4 : Nat) (h4 : xAn 2 1 x4) (x5 : Int) (h5 : R32 x5) (hr28 : ∀ w5 : Int, R32 w5 → ∀ M : xM, xcan M → Gv l G (uL_law tab nm) 21 1 k s 28 [some (.ref xSCR), some (.ref x1), some (.ref x2), some (.ref x3), some (.ref x4), some (iv w5), none, none, none] [] M (rc28 w5 M)) (M : xM) (hM : xcan M) : Gv l G (uL_law tab nm) 21 1 k s 2319 [some (.ref xSCR), some (.ref x1), some (.ref x2), some (.ref x3), some (.ref x4), some (iv x5), none, none, none] [] M (fL_law_2319 sl sx rc28 x1 x2 x3 x4 x5 M) := by
  unfold fL_law_2319
  refine xg_goto (tgt := 3031) dL_law_2319 (by decide) ?_
  exact xg_jump (gL_law_3031 hl tab nm sl sx hS hsl k s rc28 x1 h1 x2 h2 x3 h3 x4 h4 x5 h5 hr28 M hM) (xsb_s (xsb_s (xsb_s (xsb_s (xsb_s (xsb_s (xsb_n (xsb_n (xsb_n xsb_0))))))))) (by omega) (by omega)
theorem gL_law_2267 {l : Launch} {G : xG} (hl : l.stackTraces = false) (tab : List ExceptionTableEntry) (nm : String) (sl : Nat) (sx : Nat → Int32) (hS : G.2.2.2.1.2 = (sl, sx)) (hsl : sl ≤ 2147483647) (k s : Nat) (rc28 : Int → xM → xO) (x1 : Nat) (h1 : xOb 11 x1) (x2 : Nat) (h2 : xOb 12 x2) (x3 : Nat) (h3 : xAn 1 1 x3) (x4 : Nat) (h4 : xAn 2 1 x4) (x5 : Int) (h5 : R32 x5) (hr28 : ∀ w5 : Int, R32 w5 → ∀ M : xM, xcan M → Gv l G (uL_law tab nm) 21 1 k s 28 [some (.ref xSCR), some (.ref x1), some (.ref x2), some (.ref x3), some (.ref x4), some (iv w5), none, none, none] [] M (rc28 w5 M)) (M : xM) (hM : xcan M) : Gv l G (uL_law tab nm) 21 1 (k + 11) (s + 66) 2267 [some (.ref xSCR), some (.ref x1), some (.ref x2), some (.ref x3), some (.ref x4), some (iv x5), none, none, none] [] M (fL_law_2267 sl sx rc28 x1 x2 x3 x4 x5 M) := by
  unfold fL_law_2267
  refine xg_aload_n dL_law_2267 (Eq.refl 2268) rfl ?_
  refine xg_aload_n dL_law_2268 (Eq.refl 2269) rfl ?_
  refine xg_iload dL_law_2269 (Eq.refl 2271) rfl ?_
  refine xg_iconst dL_law_2271 (Eq.refl 2272) ?_
  refine xg_iadd dL_law_2272 (Eq.refl 2273) ?_
  refine xg_sld hS hsl dL_law_2273 (Eq.refl 2274) ?_
  refine xg_aload_n dL_law_2274 (Eq.refl 2275) rfl ?_
  refine xg_callWC_I (kc := k) (ks := s) (st := []) (mL_limit hl x1 h1 (sx (w32 (x5 + 1)).toNat).toInt (xsx_r _) x3 (xAn.l h3) M hM) bL_limit xq_1446 rfl (by decide) (by decide) dL_law_2275 (Eq.refl 2278) rfl (by omega) (by omega) ?_
  intro z1 M2 hz1 hM2
  refine xg_istore (ls2 := [some (.ref xSCR), some (.ref x1), some (.ref x2), some (.ref x3), some (.ref x4), some (iv x5), some (iv z1), none, none]) dL_law_2278 (Eq.refl 2280) (show 6 < 9 by decide) rfl ?_
  refine xg_aload_n dL_law_2280 (Eq.refl 2281) rfl ?_
  refine xg_aload_n dL_law_2281 (Eq.refl 2282) rfl ?_
  refine xg_iload dL_law_2282 (Eq.refl 2284) rfl ?_
  refine xg_iconst dL_law_2284 (Eq.refl 2285) ?_
  refine xg_iadd dL_law_2285 (Eq.refl 2286) ?_
  refine xg_sld hS hsl dL_law_2286 (Eq.refl 2287) ?_
  refine xg_callVC_J (kc := k) (ks := s) (st := []) (mX12_limit hl x2 h2 (sx (w32 (x5 + 1)).toNat).toInt (xsx_r _) M2 hM2) bX12_limit xcl12 h2 rfl xq_1454 rfl (by decide) (by decide) dL_law_2287 (Eq.refl 2290) rfl (by omega) (by omega) ?_ ?_
  · intro z3 M4 hz3 hM4
    refine xg_lstore (ls2 := [some (.ref xSCR), some (.ref x1), some (.ref x2), some (.ref x3), some (.ref x4), some (iv x5), some (iv z1), some (jv z3), none]) dL_law_2290 (Eq.refl 2292) (show 7 + 1 < 9 by decide) rfl ?_
    refine xg_aload_n dL_law_2292 (Eq.refl 2293) rfl ?_
    refine xg_callVC_I (kc := k) (ks := s) (st := []) (mX12_thrown hl x2 h2 M4 hM4) bX12_thrown xcl12 h2 rfl xq_192 rfl (by decide) (by decide) dL_law_2293 (Eq.refl 2296) rfl (by omega) (by omega) ?_ ?_
    · intro z5 M6 hz5 hM6
      refine xg_iload dL_law_2296 (Eq.refl 2298) rfl ?_
      refine xg_icmp_eq (tgt := 2303) dL_law_2298 (Eq.refl 2301) (by decide) hz5 hz1 ?_ ?_
      · refine xg_iload dL_law_2303 (Eq.refl 2305) rfl ?_
        refine xg_if_ne (tgt := 2319) dL_law_2305 (Eq.refl 2308) (by decide) hz1 ?_ ?_
        · refine xg_aload_n dL_law_2308 (Eq.refl 2309) rfl ?_
          refine xg_iconst dL_law_2309 (Eq.refl 2310) ?_
          refine xg_laldk (k := 0) h3 dL_law_2310 (Eq.refl 2311) rfl (by decide) ?_
          refine xg_lload dL_law_2311 (Eq.refl 2313) rfl ?_
          refine xg_lif_eq (tgt := 2319) dL_law_2313 (Eq.refl 2314) dL_law_2314 (Eq.refl 2317) (by decide) (hM6.aj h3) hz3 ?_ ?_
          · exact xg_jump (gL_law_2319 hl tab nm sl sx hS hsl k s rc28 x1 h1 x2 h2 x3 h3 x4 h4 x5 h5 hr28 M6 hM6) (xsb_s (xsb_s (xsb_s (xsb_s (xsb_s (xsb_s (xsb_n (xsb_n (xsb_n xsb_0))))))))) (by omega) (by omega)
          · refine xg_iconst dL_law_2317 (Eq.refl 2318) ?_
            exact xg_zret rfl dL_law_2318 rfl hM6 (by decide)
        · exact xg_jump (gL_law_2319 hl tab nm sl sx hS hsl k s rc28 x1 h1 x2 h2 x3 h3 x4 h4 x5 h5 hr28 M6 hM6) (xsb_s (xsb_s (xsb_s (xsb_s (xsb_s (xsb_s (xsb_n (xsb_n (xsb_n xsb_0))))))))) (by omega) (by omega)
      · refine xg_iconst dL_law_2301 (Eq.refl 2302) ?_
        exact xg_zret rfl dL_law_2302 rfl hM6 (by decide)
    · intro e M9 he hM9
      exact xgx_none
  · intro e M9 he hM9
    exact xgx_none
theorem gL_law_2264 {l : Launch} {G : xG} (hl : l.stackTraces = false) (tab : List ExceptionTableEntry) (nm : String) (sl : Nat) (sx : Nat → Int32) (hS : G.2.2.2.1.2 = (sl, sx)) (hsl : sl ≤ 2147483647) (k s : Nat) (rc28 : Int → xM → xO) (x1 : Nat) (h1 : xOb 11 x1) (x2 : Nat) (h2 : xOb 12 x2) (x3 : Nat) (h3 : xAn 1 1 x3) (x4 : Nat) (h4 : xAn 2 1 x4) (x5 : Int) (h5 : R32 x5) (hr28 : ∀ w5 : Int, R32 w5 → ∀ M : xM, xcan M → Gv l G (uL_law tab nm) 21 1 k s 28 [some (.ref xSCR), some (.ref x1), some (.ref x2), some (.ref x3), some (.ref x4), some (iv w5), none, none, none] [] M (rc28 w5 M)) (M : xM) (hM : xcan M) : Gv l G (uL_law tab nm) 21 1 k s 2264 [some (.ref xSCR), some (.ref x1), some (.ref x2), some (.ref x3), some (.ref x4), some (iv x5), none, none, none] [] M (fL_law_2264 sl sx rc28 x1 x2 x3 x4 x5 M) := by
  unfold fL_law_2264
  refine xg_goto (tgt := 3031) dL_law_2264 (by decide) ?_
  exact xg_jump (gL_law_3031 hl tab nm sl sx hS hsl k s rc28 x1 h1 x2 h2 x3 h3 x4 h4 x5 h5 hr28 M hM) (xsb_s (xsb_s (xsb_s (xsb_s (xsb_s (xsb_s (xsb_n (xsb_n (xsb_n xsb_0))))))))) (by omega) (by omega)
theorem gL_law_2212 {l : Launch} {G : xG} (hl : l.stackTraces = false) (tab : List ExceptionTableEntry) (nm : String) (sl : Nat) (sx : Nat → Int32) (hS : G.2.2.2.1.2 = (sl, sx)) (hsl : sl ≤ 2147483647) (k s : Nat) (rc28 : Int → xM → xO) (x1 : Nat) (h1 : xOb 11 x1) (x2 : Nat) (h2 : xOb 12 x2) (x3 : Nat) (h3 : xAn 1 1 x3) (x4 : Nat) (h4 : xAn 2 1 x4) (x5 : Int) (h5 : R32 x5) (hr28 : ∀ w5 : Int, R32 w5 → ∀ M : xM, xcan M → Gv l G (uL_law tab nm) 21 1 k s 28 [some (.ref xSCR), some (.ref x1), some (.ref x2), some (.ref x3), some (.ref x4), some (iv w5), none, none, none] [] M (rc28 w5 M)) (M : xM) (hM : xcan M) : Gv l G (uL_law tab nm) 21 1 (k + 11) (s + 66) 2212 [some (.ref xSCR), some (.ref x1), some (.ref x2), some (.ref x3), some (.ref x4), some (iv x5), none, none, none] [] M (fL_law_2212 sl sx rc28 x1 x2 x3 x4 x5 M) := by
  unfold fL_law_2212
  refine xg_aload_n dL_law_2212 (Eq.refl 2213) rfl ?_
  refine xg_aload_n dL_law_2213 (Eq.refl 2214) rfl ?_
  refine xg_iload dL_law_2214 (Eq.refl 2216) rfl ?_
  refine xg_iconst dL_law_2216 (Eq.refl 2217) ?_
  refine xg_iadd dL_law_2217 (Eq.refl 2218) ?_
  refine xg_sld hS hsl dL_law_2218 (Eq.refl 2219) ?_
  refine xg_aload_n dL_law_2219 (Eq.refl 2220) rfl ?_
  refine xg_callWC_I (kc := k) (ks := s) (st := []) (mL_pledged hl x1 h1 (sx (w32 (x5 + 1)).toNat).toInt (xsx_r _) x3 (xAn.l h3) M hM) bL_pledged xq_1434 rfl (by decide) (by decide) dL_law_2220 (Eq.refl 2223) rfl (by omega) (by omega) ?_
  intro z1 M2 hz1 hM2
  refine xg_istore (ls2 := [some (.ref xSCR), some (.ref x1), some (.ref x2), some (.ref x3), some (.ref x4), some (iv x5), some (iv z1), none, none]) dL_law_2223 (Eq.refl 2225) (show 6 < 9 by decide) rfl ?_
  refine xg_aload_n dL_law_2225 (Eq.refl 2226) rfl ?_
  refine xg_aload_n dL_law_2226 (Eq.refl 2227) rfl ?_
  refine xg_iload dL_law_2227 (Eq.refl 2229) rfl ?_
  refine xg_iconst dL_law_2229 (Eq.refl 2230) ?_
  refine xg_iadd dL_law_2230 (Eq.refl 2231) ?_
  refine xg_sld hS hsl dL_law_2231 (Eq.refl 2232) ?_
  refine xg_callVC_J (kc := k) (ks := s) (st := []) (mX12_pledged hl x2 h2 (sx (w32 (x5 + 1)).toNat).toInt (xsx_r _) M2 hM2) bX12_pledged xcl12 h2 rfl xq_1442 rfl (by decide) (by decide) dL_law_2232 (Eq.refl 2235) rfl (by omega) (by omega) ?_ ?_
  · intro z3 M4 hz3 hM4
    refine xg_lstore (ls2 := [some (.ref xSCR), some (.ref x1), some (.ref x2), some (.ref x3), some (.ref x4), some (iv x5), some (iv z1), some (jv z3), none]) dL_law_2235 (Eq.refl 2237) (show 7 + 1 < 9 by decide) rfl ?_
    refine xg_aload_n dL_law_2237 (Eq.refl 2238) rfl ?_
    refine xg_callVC_I (kc := k) (ks := s) (st := []) (mX12_thrown hl x2 h2 M4 hM4) bX12_thrown xcl12 h2 rfl xq_192 rfl (by decide) (by decide) dL_law_2238 (Eq.refl 2241) rfl (by omega) (by omega) ?_ ?_
    · intro z5 M6 hz5 hM6
      refine xg_iload dL_law_2241 (Eq.refl 2243) rfl ?_
      refine xg_icmp_eq (tgt := 2248) dL_law_2243 (Eq.refl 2246) (by decide) hz5 hz1 ?_ ?_
      · refine xg_iload dL_law_2248 (Eq.refl 2250) rfl ?_
        refine xg_if_ne (tgt := 2264) dL_law_2250 (Eq.refl 2253) (by decide) hz1 ?_ ?_
        · refine xg_aload_n dL_law_2253 (Eq.refl 2254) rfl ?_
          refine xg_iconst dL_law_2254 (Eq.refl 2255) ?_
          refine xg_laldk (k := 0) h3 dL_law_2255 (Eq.refl 2256) rfl (by decide) ?_
          refine xg_lload dL_law_2256 (Eq.refl 2258) rfl ?_
          refine xg_lif_eq (tgt := 2264) dL_law_2258 (Eq.refl 2259) dL_law_2259 (Eq.refl 2262) (by decide) (hM6.aj h3) hz3 ?_ ?_
          · exact xg_jump (gL_law_2264 hl tab nm sl sx hS hsl k s rc28 x1 h1 x2 h2 x3 h3 x4 h4 x5 h5 hr28 M6 hM6) (xsb_s (xsb_s (xsb_s (xsb_s (xsb_s (xsb_s (xsb_n (xsb_n (xsb_n xsb_0))))))))) (by omega) (by omega)
          · refine xg_iconst dL_law_2262 (Eq.refl 2263) ?_
            exact xg_zret rfl dL_law_2263 rfl hM6 (by decide)
        · exact xg_jump (gL_law_2264 hl tab nm sl sx hS hsl k s rc28 x1 h1 x2 h2 x3 h3 x4 h4 x5 h5 hr28 M6 hM6) (xsb_s (xsb_s (xsb_s (xsb_s (xsb_s (xsb_s (xsb_n (xsb_n (xsb_n xsb_0))))))))) (by omega) (by omega)
      · refine xg_iconst dL_law_2246 (Eq.refl 2247) ?_
        exact xg_zret rfl dL_law_2247 rfl hM6 (by decide)
    · intro e M9 he hM9
      exact xgx_none
  · intro e M9 he hM9
    exact xgx_none
theorem gL_law_2209 {l : Launch} {G : xG} (hl : l.stackTraces = false) (tab : List ExceptionTableEntry) (nm : String) (sl : Nat) (sx : Nat → Int32) (hS : G.2.2.2.1.2 = (sl, sx)) (hsl : sl ≤ 2147483647) (k s : Nat) (rc28 : Int → xM → xO) (x1 : Nat) (h1 : xOb 11 x1) (x2 : Nat) (h2 : xOb 12 x2) (x3 : Nat) (h3 : xAn 1 1 x3) (x4 : Nat) (h4 : xAn 2 1 x4) (x5 : Int) (h5 : R32 x5) (hr28 : ∀ w5 : Int, R32 w5 → ∀ M : xM, xcan M → Gv l G (uL_law tab nm) 21 1 k s 28 [some (.ref xSCR), some (.ref x1), some (.ref x2), some (.ref x3), some (.ref x4), some (iv w5), none, none, none] [] M (rc28 w5 M)) (M : xM) (hM : xcan M) : Gv l G (uL_law tab nm) 21 1 k s 2209 [some (.ref xSCR), some (.ref x1), some (.ref x2), some (.ref x3), some (.ref x4), some (iv x5), none, none, none] [] M (fL_law_2209 sl sx rc28 x1 x2 x3 x4 x5 M) := by
  unfold fL_law_2209
  refine xg_goto (tgt := 3031) dL_law_2209 (by decide) ?_
  exact xg_jump (gL_law_3031 hl tab nm sl sx hS hsl k s rc28 x1 h1 x2 h2 x3 h3 x4 h4 x5 h5 hr28 M hM) (xsb_s (xsb_s (xsb_s (xsb_s (xsb_s (xsb_s (xsb_n (xsb_n (xsb_n xsb_0))))))))) (by omega) (by omega)
theorem gL_law_2157 {l : Launch} {G : xG} (hl : l.stackTraces = false) (tab : List ExceptionTableEntry) (nm : String) (sl : Nat) (sx : Nat → Int32) (hS : G.2.2.2.1.2 = (sl, sx)) (hsl : sl ≤ 2147483647) (k s : Nat) (rc28 : Int → xM → xO) (x1 : Nat) (h1 : xOb 11 x1) (x2 : Nat) (h2 : xOb 12 x2) (x3 : Nat) (h3 : xAn 1 1 x3) (x4 : Nat) (h4 : xAn 2 1 x4) (x5 : Int) (h5 : R32 x5) (hr28 : ∀ w5 : Int, R32 w5 → ∀ M : xM, xcan M → Gv l G (uL_law tab nm) 21 1 k s 28 [some (.ref xSCR), some (.ref x1), some (.ref x2), some (.ref x3), some (.ref x4), some (iv w5), none, none, none] [] M (rc28 w5 M)) (M : xM) (hM : xcan M) : Gv l G (uL_law tab nm) 21 1 (k + 11) (s + 66) 2157 [some (.ref xSCR), some (.ref x1), some (.ref x2), some (.ref x3), some (.ref x4), some (iv x5), none, none, none] [] M (fL_law_2157 sl sx rc28 x1 x2 x3 x4 x5 M) := by
  unfold fL_law_2157
  refine xg_aload_n dL_law_2157 (Eq.refl 2158) rfl ?_
  refine xg_aload_n dL_law_2158 (Eq.refl 2159) rfl ?_
  refine xg_iload dL_law_2159 (Eq.refl 2161) rfl ?_
  refine xg_iconst dL_law_2161 (Eq.refl 2162) ?_
  refine xg_iadd dL_law_2162 (Eq.refl 2163) ?_
  refine xg_sld hS hsl dL_law_2163 (Eq.refl 2164) ?_
  refine xg_aload_n dL_law_2164 (Eq.refl 2165) rfl ?_
  refine xg_callWC_I (kc := k) (ks := s) (st := []) (mL_cash hl x1 h1 (sx (w32 (x5 + 1)).toNat).toInt (xsx_r _) x3 (xAn.l h3) M hM) bL_cash xq_1423 rfl (by decide) (by decide) dL_law_2165 (Eq.refl 2168) rfl (by omega) (by omega) ?_
  intro z1 M2 hz1 hM2
  refine xg_istore (ls2 := [some (.ref xSCR), some (.ref x1), some (.ref x2), some (.ref x3), some (.ref x4), some (iv x5), some (iv z1), none, none]) dL_law_2168 (Eq.refl 2170) (show 6 < 9 by decide) rfl ?_
  refine xg_aload_n dL_law_2170 (Eq.refl 2171) rfl ?_
  refine xg_aload_n dL_law_2171 (Eq.refl 2172) rfl ?_
  refine xg_iload dL_law_2172 (Eq.refl 2174) rfl ?_
  refine xg_iconst dL_law_2174 (Eq.refl 2175) ?_
  refine xg_iadd dL_law_2175 (Eq.refl 2176) ?_
  refine xg_sld hS hsl dL_law_2176 (Eq.refl 2177) ?_
  refine xg_callVC_J (kc := k) (ks := s) (st := []) (mX12_cash hl x2 h2 (sx (w32 (x5 + 1)).toNat).toInt (xsx_r _) M2 hM2) bX12_cash xcl12 h2 rfl xq_1430 rfl (by decide) (by decide) dL_law_2177 (Eq.refl 2180) rfl (by omega) (by omega) ?_ ?_
  · intro z3 M4 hz3 hM4
    refine xg_lstore (ls2 := [some (.ref xSCR), some (.ref x1), some (.ref x2), some (.ref x3), some (.ref x4), some (iv x5), some (iv z1), some (jv z3), none]) dL_law_2180 (Eq.refl 2182) (show 7 + 1 < 9 by decide) rfl ?_
    refine xg_aload_n dL_law_2182 (Eq.refl 2183) rfl ?_
    refine xg_callVC_I (kc := k) (ks := s) (st := []) (mX12_thrown hl x2 h2 M4 hM4) bX12_thrown xcl12 h2 rfl xq_192 rfl (by decide) (by decide) dL_law_2183 (Eq.refl 2186) rfl (by omega) (by omega) ?_ ?_
    · intro z5 M6 hz5 hM6
      refine xg_iload dL_law_2186 (Eq.refl 2188) rfl ?_
      refine xg_icmp_eq (tgt := 2193) dL_law_2188 (Eq.refl 2191) (by decide) hz5 hz1 ?_ ?_
      · refine xg_iload dL_law_2193 (Eq.refl 2195) rfl ?_
        refine xg_if_ne (tgt := 2209) dL_law_2195 (Eq.refl 2198) (by decide) hz1 ?_ ?_
        · refine xg_aload_n dL_law_2198 (Eq.refl 2199) rfl ?_
          refine xg_iconst dL_law_2199 (Eq.refl 2200) ?_
          refine xg_laldk (k := 0) h3 dL_law_2200 (Eq.refl 2201) rfl (by decide) ?_
          refine xg_lload dL_law_2201 (Eq.refl 2203) rfl ?_
          refine xg_lif_eq (tgt := 2209) dL_law_2203 (Eq.refl 2204) dL_law_2204 (Eq.refl 2207) (by decide) (hM6.aj h3) hz3 ?_ ?_
          · exact xg_jump (gL_law_2209 hl tab nm sl sx hS hsl k s rc28 x1 h1 x2 h2 x3 h3 x4 h4 x5 h5 hr28 M6 hM6) (xsb_s (xsb_s (xsb_s (xsb_s (xsb_s (xsb_s (xsb_n (xsb_n (xsb_n xsb_0))))))))) (by omega) (by omega)
          · refine xg_iconst dL_law_2207 (Eq.refl 2208) ?_
            exact xg_zret rfl dL_law_2208 rfl hM6 (by decide)
        · exact xg_jump (gL_law_2209 hl tab nm sl sx hS hsl k s rc28 x1 h1 x2 h2 x3 h3 x4 h4 x5 h5 hr28 M6 hM6) (xsb_s (xsb_s (xsb_s (xsb_s (xsb_s (xsb_s (xsb_n (xsb_n (xsb_n xsb_0))))))))) (by omega) (by omega)
      · refine xg_iconst dL_law_2191 (Eq.refl 2192) ?_
        exact xg_zret rfl dL_law_2192 rfl hM6 (by decide)
    · intro e M9 he hM9
      exact xgx_none
  · intro e M9 he hM9
    exact xgx_none
theorem gL_law_2154 {l : Launch} {G : xG} (hl : l.stackTraces = false) (tab : List ExceptionTableEntry) (nm : String) (sl : Nat) (sx : Nat → Int32) (hS : G.2.2.2.1.2 = (sl, sx)) (hsl : sl ≤ 2147483647) (k s : Nat) (rc28 : Int → xM → xO) (x1 : Nat) (h1 : xOb 11 x1) (x2 : Nat) (h2 : xOb 12 x2) (x3 : Nat) (h3 : xAn 1 1 x3) (x4 : Nat) (h4 : xAn 2 1 x4) (x5 : Int) (h5 : R32 x5) (hr28 : ∀ w5 : Int, R32 w5 → ∀ M : xM, xcan M → Gv l G (uL_law tab nm) 21 1 k s 28 [some (.ref xSCR), some (.ref x1), some (.ref x2), some (.ref x3), some (.ref x4), some (iv w5), none, none, none] [] M (rc28 w5 M)) (M : xM) (hM : xcan M) : Gv l G (uL_law tab nm) 21 1 k s 2154 [some (.ref xSCR), some (.ref x1), some (.ref x2), some (.ref x3), some (.ref x4), some (iv x5), none, none, none] [] M (fL_law_2154 sl sx rc28 x1 x2 x3 x4 x5 M) := by
  unfold fL_law_2154
  refine xg_goto (tgt := 3031) dL_law_2154 (by decide) ?_
  exact xg_jump (gL_law_3031 hl tab nm sl sx hS hsl k s rc28 x1 h1 x2 h2 x3 h3 x4 h4 x5 h5 hr28 M hM) (xsb_s (xsb_s (xsb_s (xsb_s (xsb_s (xsb_s (xsb_n (xsb_n (xsb_n xsb_0))))))))) (by omega) (by omega)
theorem gL_law_2102 {l : Launch} {G : xG} (hl : l.stackTraces = false) (tab : List ExceptionTableEntry) (nm : String) (sl : Nat) (sx : Nat → Int32) (hS : G.2.2.2.1.2 = (sl, sx)) (hsl : sl ≤ 2147483647) (k s : Nat) (rc28 : Int → xM → xO) (x1 : Nat) (h1 : xOb 11 x1) (x2 : Nat) (h2 : xOb 12 x2) (x3 : Nat) (h3 : xAn 1 1 x3) (x4 : Nat) (h4 : xAn 2 1 x4) (x5 : Int) (h5 : R32 x5) (hr28 : ∀ w5 : Int, R32 w5 → ∀ M : xM, xcan M → Gv l G (uL_law tab nm) 21 1 k s 28 [some (.ref xSCR), some (.ref x1), some (.ref x2), some (.ref x3), some (.ref x4), some (iv w5), none, none, none] [] M (rc28 w5 M)) (M : xM) (hM : xcan M) : Gv l G (uL_law tab nm) 21 1 (k + 11) (s + 66) 2102 [some (.ref xSCR), some (.ref x1), some (.ref x2), some (.ref x3), some (.ref x4), some (iv x5), none, none, none] [] M (fL_law_2102 sl sx rc28 x1 x2 x3 x4 x5 M) := by
  unfold fL_law_2102
  refine xg_aload_n dL_law_2102 (Eq.refl 2103) rfl ?_
  refine xg_aload_n dL_law_2103 (Eq.refl 2104) rfl ?_
  refine xg_iload dL_law_2104 (Eq.refl 2106) rfl ?_
  refine xg_iconst dL_law_2106 (Eq.refl 2107) ?_
  refine xg_iadd dL_law_2107 (Eq.refl 2108) ?_
  refine xg_sld hS hsl dL_law_2108 (Eq.refl 2109) ?_
  refine xg_aload_n dL_law_2109 (Eq.refl 2110) rfl ?_
  refine xg_callWC_I (kc := k) (ks := s) (st := []) (mL_out hl x1 h1 (sx (w32 (x5 + 1)).toNat).toInt (xsx_r _) x3 (xAn.l h3) M hM) bL_out xq_1412 rfl (by decide) (by decide) dL_law_2110 (Eq.refl 2113) rfl (by omega) (by omega) ?_
  intro z1 M2 hz1 hM2
  refine xg_istore (ls2 := [some (.ref xSCR), some (.ref x1), some (.ref x2), some (.ref x3), some (.ref x4), some (iv x5), some (iv z1), none, none]) dL_law_2113 (Eq.refl 2115) (show 6 < 9 by decide) rfl ?_
  refine xg_aload_n dL_law_2115 (Eq.refl 2116) rfl ?_
  refine xg_aload_n dL_law_2116 (Eq.refl 2117) rfl ?_
  refine xg_iload dL_law_2117 (Eq.refl 2119) rfl ?_
  refine xg_iconst dL_law_2119 (Eq.refl 2120) ?_
  refine xg_iadd dL_law_2120 (Eq.refl 2121) ?_
  refine xg_sld hS hsl dL_law_2121 (Eq.refl 2122) ?_
  refine xg_callVC_J (kc := k) (ks := s) (st := []) (mX12_out hl x2 h2 (sx (w32 (x5 + 1)).toNat).toInt (xsx_r _) M2 hM2) bX12_out xcl12 h2 rfl xq_1419 rfl (by decide) (by decide) dL_law_2122 (Eq.refl 2125) rfl (by omega) (by omega) ?_ ?_
  · intro z3 M4 hz3 hM4
    refine xg_lstore (ls2 := [some (.ref xSCR), some (.ref x1), some (.ref x2), some (.ref x3), some (.ref x4), some (iv x5), some (iv z1), some (jv z3), none]) dL_law_2125 (Eq.refl 2127) (show 7 + 1 < 9 by decide) rfl ?_
    refine xg_aload_n dL_law_2127 (Eq.refl 2128) rfl ?_
    refine xg_callVC_I (kc := k) (ks := s) (st := []) (mX12_thrown hl x2 h2 M4 hM4) bX12_thrown xcl12 h2 rfl xq_192 rfl (by decide) (by decide) dL_law_2128 (Eq.refl 2131) rfl (by omega) (by omega) ?_ ?_
    · intro z5 M6 hz5 hM6
      refine xg_iload dL_law_2131 (Eq.refl 2133) rfl ?_
      refine xg_icmp_eq (tgt := 2138) dL_law_2133 (Eq.refl 2136) (by decide) hz5 hz1 ?_ ?_
      · refine xg_iload dL_law_2138 (Eq.refl 2140) rfl ?_
        refine xg_if_ne (tgt := 2154) dL_law_2140 (Eq.refl 2143) (by decide) hz1 ?_ ?_
        · refine xg_aload_n dL_law_2143 (Eq.refl 2144) rfl ?_
          refine xg_iconst dL_law_2144 (Eq.refl 2145) ?_
          refine xg_laldk (k := 0) h3 dL_law_2145 (Eq.refl 2146) rfl (by decide) ?_
          refine xg_lload dL_law_2146 (Eq.refl 2148) rfl ?_
          refine xg_lif_eq (tgt := 2154) dL_law_2148 (Eq.refl 2149) dL_law_2149 (Eq.refl 2152) (by decide) (hM6.aj h3) hz3 ?_ ?_
          · exact xg_jump (gL_law_2154 hl tab nm sl sx hS hsl k s rc28 x1 h1 x2 h2 x3 h3 x4 h4 x5 h5 hr28 M6 hM6) (xsb_s (xsb_s (xsb_s (xsb_s (xsb_s (xsb_s (xsb_n (xsb_n (xsb_n xsb_0))))))))) (by omega) (by omega)
          · refine xg_iconst dL_law_2152 (Eq.refl 2153) ?_
            exact xg_zret rfl dL_law_2153 rfl hM6 (by decide)
        · exact xg_jump (gL_law_2154 hl tab nm sl sx hS hsl k s rc28 x1 h1 x2 h2 x3 h3 x4 h4 x5 h5 hr28 M6 hM6) (xsb_s (xsb_s (xsb_s (xsb_s (xsb_s (xsb_s (xsb_n (xsb_n (xsb_n xsb_0))))))))) (by omega) (by omega)
      · refine xg_iconst dL_law_2136 (Eq.refl 2137) ?_
        exact xg_zret rfl dL_law_2137 rfl hM6 (by decide)
    · intro e M9 he hM9
      exact xgx_none
  · intro e M9 he hM9
    exact xgx_none
theorem gL_law_2099 {l : Launch} {G : xG} (hl : l.stackTraces = false) (tab : List ExceptionTableEntry) (nm : String) (sl : Nat) (sx : Nat → Int32) (hS : G.2.2.2.1.2 = (sl, sx)) (hsl : sl ≤ 2147483647) (k s : Nat) (rc28 : Int → xM → xO) (x1 : Nat) (h1 : xOb 11 x1) (x2 : Nat) (h2 : xOb 12 x2) (x3 : Nat) (h3 : xAn 1 1 x3) (x4 : Nat) (h4 : xAn 2 1 x4) (x5 : Int) (h5 : R32 x5) (hr28 : ∀ w5 : Int, R32 w5 → ∀ M : xM, xcan M → Gv l G (uL_law tab nm) 21 1 k s 28 [some (.ref xSCR), some (.ref x1), some (.ref x2), some (.ref x3), some (.ref x4), some (iv w5), none, none, none] [] M (rc28 w5 M)) (M : xM) (hM : xcan M) : Gv l G (uL_law tab nm) 21 1 k s 2099 [some (.ref xSCR), some (.ref x1), some (.ref x2), some (.ref x3), some (.ref x4), some (iv x5), none, none, none] [] M (fL_law_2099 sl sx rc28 x1 x2 x3 x4 x5 M) := by
  unfold fL_law_2099
  refine xg_goto (tgt := 3031) dL_law_2099 (by decide) ?_
  exact xg_jump (gL_law_3031 hl tab nm sl sx hS hsl k s rc28 x1 h1 x2 h2 x3 h3 x4 h4 x5 h5 hr28 M hM) (xsb_s (xsb_s (xsb_s (xsb_s (xsb_s (xsb_s (xsb_n (xsb_n (xsb_n xsb_0))))))))) (by omega) (by omega)
theorem gL_law_2035 {l : Launch} {G : xG} (hl : l.stackTraces = false) (tab : List ExceptionTableEntry) (nm : String) (sl : Nat) (sx : Nat → Int32) (hS : G.2.2.2.1.2 = (sl, sx)) (hsl : sl ≤ 2147483647) (k s : Nat) (rc28 : Int → xM → xO) (x1 : Nat) (h1 : xOb 11 x1) (x2 : Nat) (h2 : xOb 12 x2) (x3 : Nat) (h3 : xAn 1 1 x3) (x4 : Nat) (h4 : xAn 2 1 x4) (x5 : Int) (h5 : R32 x5) (hr28 : ∀ w5 : Int, R32 w5 → ∀ M : xM, xcan M → Gv l G (uL_law tab nm) 21 1 k s 28 [some (.ref xSCR), some (.ref x1), some (.ref x2), some (.ref x3), some (.ref x4), some (iv w5), none, none, none] [] M (rc28 w5 M)) (M : xM) (hM : xcan M) : Gv l G (uL_law tab nm) 21 1 (k + 11) (s + 66) 2035 [some (.ref xSCR), some (.ref x1), some (.ref x2), some (.ref x3), some (.ref x4), some (iv x5), none, none, none] [] M (fL_law_2035 sl sx rc28 x1 x2 x3 x4 x5 M) := by
  unfold fL_law_2035
  refine xg_aload_n dL_law_2035 (Eq.refl 2036) rfl ?_
  refine xg_aload_n dL_law_2036 (Eq.refl 2037) rfl ?_
  refine xg_iload dL_law_2037 (Eq.refl 2039) rfl ?_
  refine xg_iconst dL_law_2039 (Eq.refl 2040) ?_
  refine xg_iadd dL_law_2040 (Eq.refl 2041) ?_
  refine xg_sld hS hsl dL_law_2041 (Eq.refl 2042) ?_
  refine xg_aload_n dL_law_2042 (Eq.refl 2043) rfl ?_
  refine xg_iload dL_law_2043 (Eq.refl 2045) rfl ?_
  refine xg_iconst dL_law_2045 (Eq.refl 2046) ?_
  refine xg_iadd dL_law_2046 (Eq.refl 2047) ?_
  refine xg_sld hS hsl dL_law_2047 (Eq.refl 2048) ?_
  refine xg_aload_n dL_law_2048 (Eq.refl 2049) rfl ?_
  refine xg_callWC_I (kc := k) (ks := s) (st := []) (mL_free hl x1 h1 (sx (w32 (x5 + 1)).toNat).toInt (xsx_r _) (sx (w32 (x5 + 2)).toNat).toInt (xsx_r _) x3 (xAn.l h3) M hM) bL_free xq_1400 rfl (by decide) (by decide) dL_law_2049 (Eq.refl 2052) rfl (by omega) (by omega) ?_
  intro z1 M2 hz1 hM2
  refine xg_istore (ls2 := [some (.ref xSCR), some (.ref x1), some (.ref x2), some (.ref x3), some (.ref x4), some (iv x5), some (iv z1), none, none]) dL_law_2052 (Eq.refl 2054) (show 6 < 9 by decide) rfl ?_
  refine xg_aload_n dL_law_2054 (Eq.refl 2055) rfl ?_
  refine xg_aload_n dL_law_2055 (Eq.refl 2056) rfl ?_
  refine xg_iload dL_law_2056 (Eq.refl 2058) rfl ?_
  refine xg_iconst dL_law_2058 (Eq.refl 2059) ?_
  refine xg_iadd dL_law_2059 (Eq.refl 2060) ?_
  refine xg_sld hS hsl dL_law_2060 (Eq.refl 2061) ?_
  refine xg_aload_n dL_law_2061 (Eq.refl 2062) rfl ?_
  refine xg_iload dL_law_2062 (Eq.refl 2064) rfl ?_
  refine xg_iconst dL_law_2064 (Eq.refl 2065) ?_
  refine xg_iadd dL_law_2065 (Eq.refl 2066) ?_
  refine xg_sld hS hsl dL_law_2066 (Eq.refl 2067) ?_
  refine xg_callVC_J (kc := k) (ks := s) (st := []) (mX12_free hl x2 h2 (sx (w32 (x5 + 1)).toNat).toInt (xsx_r _) (sx (w32 (x5 + 2)).toNat).toInt (xsx_r _) M2 hM2) bX12_free xcl12 h2 rfl xq_1408 rfl (by decide) (by decide) dL_law_2067 (Eq.refl 2070) rfl (by omega) (by omega) ?_ ?_
  · intro z3 M4 hz3 hM4
    refine xg_lstore (ls2 := [some (.ref xSCR), some (.ref x1), some (.ref x2), some (.ref x3), some (.ref x4), some (iv x5), some (iv z1), some (jv z3), none]) dL_law_2070 (Eq.refl 2072) (show 7 + 1 < 9 by decide) rfl ?_
    refine xg_aload_n dL_law_2072 (Eq.refl 2073) rfl ?_
    refine xg_callVC_I (kc := k) (ks := s) (st := []) (mX12_thrown hl x2 h2 M4 hM4) bX12_thrown xcl12 h2 rfl xq_192 rfl (by decide) (by decide) dL_law_2073 (Eq.refl 2076) rfl (by omega) (by omega) ?_ ?_
    · intro z5 M6 hz5 hM6
      refine xg_iload dL_law_2076 (Eq.refl 2078) rfl ?_
      refine xg_icmp_eq (tgt := 2083) dL_law_2078 (Eq.refl 2081) (by decide) hz5 hz1 ?_ ?_
      · refine xg_iload dL_law_2083 (Eq.refl 2085) rfl ?_
        refine xg_if_ne (tgt := 2099) dL_law_2085 (Eq.refl 2088) (by decide) hz1 ?_ ?_
        · refine xg_aload_n dL_law_2088 (Eq.refl 2089) rfl ?_
          refine xg_iconst dL_law_2089 (Eq.refl 2090) ?_
          refine xg_laldk (k := 0) h3 dL_law_2090 (Eq.refl 2091) rfl (by decide) ?_
          refine xg_lload dL_law_2091 (Eq.refl 2093) rfl ?_
          refine xg_lif_eq (tgt := 2099) dL_law_2093 (Eq.refl 2094) dL_law_2094 (Eq.refl 2097) (by decide) (hM6.aj h3) hz3 ?_ ?_
          · exact xg_jump (gL_law_2099 hl tab nm sl sx hS hsl k s rc28 x1 h1 x2 h2 x3 h3 x4 h4 x5 h5 hr28 M6 hM6) (xsb_s (xsb_s (xsb_s (xsb_s (xsb_s (xsb_s (xsb_n (xsb_n (xsb_n xsb_0))))))))) (by omega) (by omega)
          · refine xg_iconst dL_law_2097 (Eq.refl 2098) ?_
            exact xg_zret rfl dL_law_2098 rfl hM6 (by decide)
        · exact xg_jump (gL_law_2099 hl tab nm sl sx hS hsl k s rc28 x1 h1 x2 h2 x3 h3 x4 h4 x5 h5 hr28 M6 hM6) (xsb_s (xsb_s (xsb_s (xsb_s (xsb_s (xsb_s (xsb_n (xsb_n (xsb_n xsb_0))))))))) (by omega) (by omega)
      · refine xg_iconst dL_law_2081 (Eq.refl 2082) ?_
        exact xg_zret rfl dL_law_2082 rfl hM6 (by decide)
    · intro e M9 he hM9
      exact xgx_none
  · intro e M9 he hM9
    exact xgx_none
theorem gL_law_2032 {l : Launch} {G : xG} (hl : l.stackTraces = false) (tab : List ExceptionTableEntry) (nm : String) (sl : Nat) (sx : Nat → Int32) (hS : G.2.2.2.1.2 = (sl, sx)) (hsl : sl ≤ 2147483647) (k s : Nat) (rc28 : Int → xM → xO) (x1 : Nat) (h1 : xOb 11 x1) (x2 : Nat) (h2 : xOb 12 x2) (x3 : Nat) (h3 : xAn 1 1 x3) (x4 : Nat) (h4 : xAn 2 1 x4) (x5 : Int) (h5 : R32 x5) (hr28 : ∀ w5 : Int, R32 w5 → ∀ M : xM, xcan M → Gv l G (uL_law tab nm) 21 1 k s 28 [some (.ref xSCR), some (.ref x1), some (.ref x2), some (.ref x3), some (.ref x4), some (iv w5), none, none, none] [] M (rc28 w5 M)) (M : xM) (hM : xcan M) : Gv l G (uL_law tab nm) 21 1 k s 2032 [some (.ref xSCR), some (.ref x1), some (.ref x2), some (.ref x3), some (.ref x4), some (iv x5), none, none, none] [] M (fL_law_2032 sl sx rc28 x1 x2 x3 x4 x5 M) := by
  unfold fL_law_2032
  refine xg_goto (tgt := 3031) dL_law_2032 (by decide) ?_
  exact xg_jump (gL_law_3031 hl tab nm sl sx hS hsl k s rc28 x1 h1 x2 h2 x3 h3 x4 h4 x5 h5 hr28 M hM) (xsb_s (xsb_s (xsb_s (xsb_s (xsb_s (xsb_s (xsb_n (xsb_n (xsb_n xsb_0))))))))) (by omega) (by omega)
theorem gL_law_1968 {l : Launch} {G : xG} (hl : l.stackTraces = false) (tab : List ExceptionTableEntry) (nm : String) (sl : Nat) (sx : Nat → Int32) (hS : G.2.2.2.1.2 = (sl, sx)) (hsl : sl ≤ 2147483647) (k s : Nat) (rc28 : Int → xM → xO) (x1 : Nat) (h1 : xOb 11 x1) (x2 : Nat) (h2 : xOb 12 x2) (x3 : Nat) (h3 : xAn 1 1 x3) (x4 : Nat) (h4 : xAn 2 1 x4) (x5 : Int) (h5 : R32 x5) (hr28 : ∀ w5 : Int, R32 w5 → ∀ M : xM, xcan M → Gv l G (uL_law tab nm) 21 1 k s 28 [some (.ref xSCR), some (.ref x1), some (.ref x2), some (.ref x3), some (.ref x4), some (iv w5), none, none, none] [] M (rc28 w5 M)) (M : xM) (hM : xcan M) : Gv l G (uL_law tab nm) 21 1 (k + 11) (s + 66) 1968 [some (.ref xSCR), some (.ref x1), some (.ref x2), some (.ref x3), some (.ref x4), some (iv x5), none, none, none] [] M (fL_law_1968 sl sx rc28 x1 x2 x3 x4 x5 M) := by
  unfold fL_law_1968
  refine xg_aload_n dL_law_1968 (Eq.refl 1969) rfl ?_
  refine xg_aload_n dL_law_1969 (Eq.refl 1970) rfl ?_
  refine xg_iload dL_law_1970 (Eq.refl 1972) rfl ?_
  refine xg_iconst dL_law_1972 (Eq.refl 1973) ?_
  refine xg_iadd dL_law_1973 (Eq.refl 1974) ?_
  refine xg_sld hS hsl dL_law_1974 (Eq.refl 1975) ?_
  refine xg_aload_n dL_law_1975 (Eq.refl 1976) rfl ?_
  refine xg_iload dL_law_1976 (Eq.refl 1978) rfl ?_
  refine xg_iconst dL_law_1978 (Eq.refl 1979) ?_
  refine xg_iadd dL_law_1979 (Eq.refl 1980) ?_
  refine xg_sld hS hsl dL_law_1980 (Eq.refl 1981) ?_
  refine xg_aload_n dL_law_1981 (Eq.refl 1982) rfl ?_
  refine xg_callWC_I (kc := k) (ks := s) (st := []) (mL_units hl x1 h1 (sx (w32 (x5 + 1)).toNat).toInt (xsx_r _) (sx (w32 (x5 + 2)).toNat).toInt (xsx_r _) x3 (xAn.l h3) M hM) bL_units xq_1385 rfl (by decide) (by decide) dL_law_1982 (Eq.refl 1985) rfl (by omega) (by omega) ?_
  intro z1 M2 hz1 hM2
  refine xg_istore (ls2 := [some (.ref xSCR), some (.ref x1), some (.ref x2), some (.ref x3), some (.ref x4), some (iv x5), some (iv z1), none, none]) dL_law_1985 (Eq.refl 1987) (show 6 < 9 by decide) rfl ?_
  refine xg_aload_n dL_law_1987 (Eq.refl 1988) rfl ?_
  refine xg_aload_n dL_law_1988 (Eq.refl 1989) rfl ?_
  refine xg_iload dL_law_1989 (Eq.refl 1991) rfl ?_
  refine xg_iconst dL_law_1991 (Eq.refl 1992) ?_
  refine xg_iadd dL_law_1992 (Eq.refl 1993) ?_
  refine xg_sld hS hsl dL_law_1993 (Eq.refl 1994) ?_
  refine xg_aload_n dL_law_1994 (Eq.refl 1995) rfl ?_
  refine xg_iload dL_law_1995 (Eq.refl 1997) rfl ?_
  refine xg_iconst dL_law_1997 (Eq.refl 1998) ?_
  refine xg_iadd dL_law_1998 (Eq.refl 1999) ?_
  refine xg_sld hS hsl dL_law_1999 (Eq.refl 2000) ?_
  refine xg_callVC_J (kc := k) (ks := s) (st := []) (mX12_units hl x2 h2 (sx (w32 (x5 + 1)).toNat).toInt (xsx_r _) (sx (w32 (x5 + 2)).toNat).toInt (xsx_r _) M2 hM2) bX12_units xcl12 h2 rfl xq_1392 rfl (by decide) (by decide) dL_law_2000 (Eq.refl 2003) rfl (by omega) (by omega) ?_ ?_
  · intro z3 M4 hz3 hM4
    refine xg_lstore (ls2 := [some (.ref xSCR), some (.ref x1), some (.ref x2), some (.ref x3), some (.ref x4), some (iv x5), some (iv z1), some (jv z3), none]) dL_law_2003 (Eq.refl 2005) (show 7 + 1 < 9 by decide) rfl ?_
    refine xg_aload_n dL_law_2005 (Eq.refl 2006) rfl ?_
    refine xg_callVC_I (kc := k) (ks := s) (st := []) (mX12_thrown hl x2 h2 M4 hM4) bX12_thrown xcl12 h2 rfl xq_192 rfl (by decide) (by decide) dL_law_2006 (Eq.refl 2009) rfl (by omega) (by omega) ?_ ?_
    · intro z5 M6 hz5 hM6
      refine xg_iload dL_law_2009 (Eq.refl 2011) rfl ?_
      refine xg_icmp_eq (tgt := 2016) dL_law_2011 (Eq.refl 2014) (by decide) hz5 hz1 ?_ ?_
      · refine xg_iload dL_law_2016 (Eq.refl 2018) rfl ?_
        refine xg_if_ne (tgt := 2032) dL_law_2018 (Eq.refl 2021) (by decide) hz1 ?_ ?_
        · refine xg_aload_n dL_law_2021 (Eq.refl 2022) rfl ?_
          refine xg_iconst dL_law_2022 (Eq.refl 2023) ?_
          refine xg_laldk (k := 0) h3 dL_law_2023 (Eq.refl 2024) rfl (by decide) ?_
          refine xg_lload dL_law_2024 (Eq.refl 2026) rfl ?_
          refine xg_lif_eq (tgt := 2032) dL_law_2026 (Eq.refl 2027) dL_law_2027 (Eq.refl 2030) (by decide) (hM6.aj h3) hz3 ?_ ?_
          · exact xg_jump (gL_law_2032 hl tab nm sl sx hS hsl k s rc28 x1 h1 x2 h2 x3 h3 x4 h4 x5 h5 hr28 M6 hM6) (xsb_s (xsb_s (xsb_s (xsb_s (xsb_s (xsb_s (xsb_n (xsb_n (xsb_n xsb_0))))))))) (by omega) (by omega)
          · refine xg_iconst dL_law_2030 (Eq.refl 2031) ?_
            exact xg_zret rfl dL_law_2031 rfl hM6 (by decide)
        · exact xg_jump (gL_law_2032 hl tab nm sl sx hS hsl k s rc28 x1 h1 x2 h2 x3 h3 x4 h4 x5 h5 hr28 M6 hM6) (xsb_s (xsb_s (xsb_s (xsb_s (xsb_s (xsb_s (xsb_n (xsb_n (xsb_n xsb_0))))))))) (by omega) (by omega)
      · refine xg_iconst dL_law_2014 (Eq.refl 2015) ?_
        exact xg_zret rfl dL_law_2015 rfl hM6 (by decide)
    · intro e M9 he hM9
      exact xgx_none
  · intro e M9 he hM9
    exact xgx_none
theorem gL_law_1965 {l : Launch} {G : xG} (hl : l.stackTraces = false) (tab : List ExceptionTableEntry) (nm : String) (sl : Nat) (sx : Nat → Int32) (hS : G.2.2.2.1.2 = (sl, sx)) (hsl : sl ≤ 2147483647) (k s : Nat) (rc28 : Int → xM → xO) (x1 : Nat) (h1 : xOb 11 x1) (x2 : Nat) (h2 : xOb 12 x2) (x3 : Nat) (h3 : xAn 1 1 x3) (x4 : Nat) (h4 : xAn 2 1 x4) (x5 : Int) (h5 : R32 x5) (hr28 : ∀ w5 : Int, R32 w5 → ∀ M : xM, xcan M → Gv l G (uL_law tab nm) 21 1 k s 28 [some (.ref xSCR), some (.ref x1), some (.ref x2), some (.ref x3), some (.ref x4), some (iv w5), none, none, none] [] M (rc28 w5 M)) (M : xM) (hM : xcan M) : Gv l G (uL_law tab nm) 21 1 k s 1965 [some (.ref xSCR), some (.ref x1), some (.ref x2), some (.ref x3), some (.ref x4), some (iv x5), none, none, none] [] M (fL_law_1965 sl sx rc28 x1 x2 x3 x4 x5 M) := by
  unfold fL_law_1965
  refine xg_goto (tgt := 3031) dL_law_1965 (by decide) ?_
  exact xg_jump (gL_law_3031 hl tab nm sl sx hS hsl k s rc28 x1 h1 x2 h2 x3 h3 x4 h4 x5 h5 hr28 M hM) (xsb_s (xsb_s (xsb_s (xsb_s (xsb_s (xsb_s (xsb_n (xsb_n (xsb_n xsb_0))))))))) (by omega) (by omega)
theorem gL_law_1959 {l : Launch} {G : xG} (hl : l.stackTraces = false) (tab : List ExceptionTableEntry) (nm : String) (sl : Nat) (sx : Nat → Int32) (hS : G.2.2.2.1.2 = (sl, sx)) (hsl : sl ≤ 2147483647) (k s : Nat) (rc28 : Int → xM → xO) (x1 : Nat) (h1 : xOb 11 x1) (x2 : Nat) (h2 : xOb 12 x2) (x3 : Nat) (h3 : xAn 1 1 x3) (x4 : Nat) (h4 : xAn 2 1 x4) (x5 : Int) (h5 : R32 x5) (s0 : Int) (hs0 : R64 s0) (s1 : Int) (hs1 : R64 s1) (hr28 : ∀ w5 : Int, R32 w5 → ∀ M : xM, xcan M → Gv l G (uL_law tab nm) 21 1 k s 28 [some (.ref xSCR), some (.ref x1), some (.ref x2), some (.ref x3), some (.ref x4), some (iv w5), none, none, none] [] M (rc28 w5 M)) (M : xM) (hM : xcan M) : Gv l G (uL_law tab nm) 21 1 k s 1959 [some (.ref xSCR), some (.ref x1), some (.ref x2), some (.ref x3), some (.ref x4), some (iv x5), none, none, none] [jv s0, jv s1] M (fL_law_1959 sl sx rc28 x1 x2 x3 x4 x5 s0 s1 M) := by
  unfold fL_law_1959
  refine xg_lif_eq (tgt := 1965) dL_law_1959 (Eq.refl 1960) dL_law_1960 (Eq.refl 1963) (by decide) hs1 hs0 ?_ ?_
  · exact xg_jump (gL_law_1965 hl tab nm sl sx hS hsl k s rc28 x1 h1 x2 h2 x3 h3 x4 h4 x5 h5 hr28 M hM) (xsb_s (xsb_s (xsb_s (xsb_s (xsb_s (xsb_s (xsb_n (xsb_n (xsb_n xsb_0))))))))) (by omega) (by omega)
  · refine xg_iconst dL_law_1963 (Eq.refl 1964) ?_
    exact xg_zret rfl dL_law_1964 rfl hM (by decide)
theorem gL_law_1905 {l : Launch} {G : xG} (hl : l.stackTraces = false) (tab : List ExceptionTableEntry) (nm : String) (sl : Nat) (sx : Nat → Int32) (hS : G.2.2.2.1.2 = (sl, sx)) (hsl : sl ≤ 2147483647) (k s : Nat) (rc28 : Int → xM → xO) (x1 : Nat) (h1 : xOb 11 x1) (x2 : Nat) (h2 : xOb 12 x2) (x3 : Nat) (h3 : xAn 1 1 x3) (x4 : Nat) (h4 : xAn 2 1 x4) (x5 : Int) (h5 : R32 x5) (hr28 : ∀ w5 : Int, R32 w5 → ∀ M : xM, xcan M → Gv l G (uL_law tab nm) 21 1 k s 28 [some (.ref xSCR), some (.ref x1), some (.ref x2), some (.ref x3), some (.ref x4), some (iv w5), none, none, none] [] M (rc28 w5 M)) (M : xM) (hM : xcan M) : Gv l G (uL_law tab nm) 21 1 (k + 11) (s + 66) 1905 [some (.ref xSCR), some (.ref x1), some (.ref x2), some (.ref x3), some (.ref x4), some (iv x5), none, none, none] [] M (fL_law_1905 sl sx rc28 x1 x2 x3 x4 x5 M) := by
  unfold fL_law_1905
  refine xg_aload_n dL_law_1905 (Eq.refl 1906) rfl ?_
  refine xg_aload_n dL_law_1906 (Eq.refl 1907) rfl ?_
  refine xg_iload dL_law_1907 (Eq.refl 1909) rfl ?_
  refine xg_iconst dL_law_1909 (Eq.refl 1910) ?_
  refine xg_iadd dL_law_1910 (Eq.refl 1911) ?_
  refine xg_sld hS hsl dL_law_1911 (Eq.refl 1912) ?_
  refine xg_aload_n dL_law_1912 (Eq.refl 1913) rfl ?_
  refine xg_callWC_I (kc := k) (ks := s) (st := []) (mL_isPaid hl x1 h1 (sx (w32 (x5 + 1)).toNat).toInt (xsx_r _) x3 (xAn.l h3) M hM) bL_isPaid xq_1374 rfl (by decide) (by decide) dL_law_1913 (Eq.refl 1916) rfl (by omega) (by omega) ?_
  intro z1 M2 hz1 hM2
  refine xg_istore (ls2 := [some (.ref xSCR), some (.ref x1), some (.ref x2), some (.ref x3), some (.ref x4), some (iv x5), some (iv z1), none, none]) dL_law_1916 (Eq.refl 1918) (show 6 < 9 by decide) rfl ?_
  refine xg_aload_n dL_law_1918 (Eq.refl 1919) rfl ?_
  refine xg_aload_n dL_law_1919 (Eq.refl 1920) rfl ?_
  refine xg_iload dL_law_1920 (Eq.refl 1922) rfl ?_
  refine xg_iconst dL_law_1922 (Eq.refl 1923) ?_
  refine xg_iadd dL_law_1923 (Eq.refl 1924) ?_
  refine xg_sld hS hsl dL_law_1924 (Eq.refl 1925) ?_
  refine xg_callVC_Z (kc := k) (ks := s) (st := []) (mX12_isPaid hl x2 h2 (sx (w32 (x5 + 1)).toNat).toInt (xsx_r _) M2 hM2) bX12_isPaid xcl12 h2 rfl xq_1381 rfl (by decide) (by decide) dL_law_1925 (Eq.refl 1928) rfl (by omega) (by omega) ?_ ?_
  · intro z3 M4 hz3 hM4
    refine xg_istore (ls2 := [some (.ref xSCR), some (.ref x1), some (.ref x2), some (.ref x3), some (.ref x4), some (iv x5), some (iv z1), some (iv z3), none]) dL_law_1928 (Eq.refl 1930) (show 7 < 9 by decide) rfl ?_
    refine xg_aload_n dL_law_1930 (Eq.refl 1931) rfl ?_
    refine xg_callVC_I (kc := k) (ks := s) (st := []) (mX12_thrown hl x2 h2 M4 hM4) bX12_thrown xcl12 h2 rfl xq_192 rfl (by decide) (by decide) dL_law_1931 (Eq.refl 1934) rfl (by omega) (by omega) ?_ ?_
    · intro z5 M6 hz5 hM6
      refine xg_iload dL_law_1934 (Eq.refl 1936) rfl ?_
      refine xg_icmp_eq (tgt := 1941) dL_law_1936 (Eq.refl 1939) (by decide) hz5 hz1 ?_ ?_
      · refine xg_iload dL_law_1941 (Eq.refl 1943) rfl ?_
        refine xg_if_ne (tgt := 1965) dL_law_1943 (Eq.refl 1946) (by decide) hz1 ?_ ?_
        · refine xg_aload_n dL_law_1946 (Eq.refl 1947) rfl ?_
          refine xg_iconst dL_law_1947 (Eq.refl 1948) ?_
          refine xg_laldk (k := 0) h3 dL_law_1948 (Eq.refl 1949) rfl (by decide) ?_
          refine xg_iload dL_law_1949 (Eq.refl 1951) rfl ?_
          refine xg_if_eq (tgt := 1958) dL_law_1951 (Eq.refl 1954) (by decide) (B01.r hz3) ?_ ?_
          · refine xg_lconst (z := 0) dL_law_1958 (Eq.refl 1959) rfl ?_
            exact xg_jump (gL_law_1959 hl tab nm sl sx hS hsl k s rc28 x1 h1 x2 h2 x3 h3 x4 h4 x5 h5 0 (by decide) (M6 x3 0) (hM6.aj h3) hr28 M6 hM6) (xsb_s (xsb_s (xsb_s (xsb_s (xsb_s (xsb_s (xsb_n (xsb_n (xsb_n xsb_0))))))))) (by omega) (by omega)
          · refine xg_lconst (z := 1) dL_law_1954 (Eq.refl 1955) rfl ?_
            refine xg_goto (tgt := 1959) dL_law_1955 (by decide) ?_
            exact xg_jump (gL_law_1959 hl tab nm sl sx hS hsl k s rc28 x1 h1 x2 h2 x3 h3 x4 h4 x5 h5 1 (by decide) (M6 x3 0) (hM6.aj h3) hr28 M6 hM6) (xsb_s (xsb_s (xsb_s (xsb_s (xsb_s (xsb_s (xsb_n (xsb_n (xsb_n xsb_0))))))))) (by omega) (by omega)
        · exact xg_jump (gL_law_1965 hl tab nm sl sx hS hsl k s rc28 x1 h1 x2 h2 x3 h3 x4 h4 x5 h5 hr28 M6 hM6) (xsb_s (xsb_s (xsb_s (xsb_s (xsb_s (xsb_s (xsb_n (xsb_n (xsb_n xsb_0))))))))) (by omega) (by omega)
      · refine xg_iconst dL_law_1939 (Eq.refl 1940) ?_
        exact xg_zret rfl dL_law_1940 rfl hM6 (by decide)
    · intro e M9 he hM9
      exact xgx_none
  · intro e M9 he hM9
    exact xgx_none
theorem gL_law_1902 {l : Launch} {G : xG} (hl : l.stackTraces = false) (tab : List ExceptionTableEntry) (nm : String) (sl : Nat) (sx : Nat → Int32) (hS : G.2.2.2.1.2 = (sl, sx)) (hsl : sl ≤ 2147483647) (k s : Nat) (rc28 : Int → xM → xO) (x1 : Nat) (h1 : xOb 11 x1) (x2 : Nat) (h2 : xOb 12 x2) (x3 : Nat) (h3 : xAn 1 1 x3) (x4 : Nat) (h4 : xAn 2 1 x4) (x5 : Int) (h5 : R32 x5) (hr28 : ∀ w5 : Int, R32 w5 → ∀ M : xM, xcan M → Gv l G (uL_law tab nm) 21 1 k s 28 [some (.ref xSCR), some (.ref x1), some (.ref x2), some (.ref x3), some (.ref x4), some (iv w5), none, none, none] [] M (rc28 w5 M)) (M : xM) (hM : xcan M) : Gv l G (uL_law tab nm) 21 1 k s 1902 [some (.ref xSCR), some (.ref x1), some (.ref x2), some (.ref x3), some (.ref x4), some (iv x5), none, none, none] [] M (fL_law_1902 sl sx rc28 x1 x2 x3 x4 x5 M) := by
  unfold fL_law_1902
  refine xg_goto (tgt := 3031) dL_law_1902 (by decide) ?_
  exact xg_jump (gL_law_3031 hl tab nm sl sx hS hsl k s rc28 x1 h1 x2 h2 x3 h3 x4 h4 x5 h5 hr28 M hM) (xsb_s (xsb_s (xsb_s (xsb_s (xsb_s (xsb_s (xsb_n (xsb_n (xsb_n xsb_0))))))))) (by omega) (by omega)
theorem gL_law_1838 {l : Launch} {G : xG} (hl : l.stackTraces = false) (tab : List ExceptionTableEntry) (nm : String) (sl : Nat) (sx : Nat → Int32) (hS : G.2.2.2.1.2 = (sl, sx)) (hsl : sl ≤ 2147483647) (k s : Nat) (rc28 : Int → xM → xO) (x1 : Nat) (h1 : xOb 11 x1) (x2 : Nat) (h2 : xOb 12 x2) (x3 : Nat) (h3 : xAn 1 1 x3) (x4 : Nat) (h4 : xAn 2 1 x4) (x5 : Int) (h5 : R32 x5) (hr28 : ∀ w5 : Int, R32 w5 → ∀ M : xM, xcan M → Gv l G (uL_law tab nm) 21 1 k s 28 [some (.ref xSCR), some (.ref x1), some (.ref x2), some (.ref x3), some (.ref x4), some (iv w5), none, none, none] [] M (rc28 w5 M)) (M : xM) (hM : xcan M) : Gv l G (uL_law tab nm) 21 1 (k + 11) (s + 66) 1838 [some (.ref xSCR), some (.ref x1), some (.ref x2), some (.ref x3), some (.ref x4), some (iv x5), none, none, none] [] M (fL_law_1838 sl sx rc28 x1 x2 x3 x4 x5 M) := by
  unfold fL_law_1838
  refine xg_aload_n dL_law_1838 (Eq.refl 1839) rfl ?_
  refine xg_aload_n dL_law_1839 (Eq.refl 1840) rfl ?_
  refine xg_iload dL_law_1840 (Eq.refl 1842) rfl ?_
  refine xg_iconst dL_law_1842 (Eq.refl 1843) ?_
  refine xg_iadd dL_law_1843 (Eq.refl 1844) ?_
  refine xg_sld hS hsl dL_law_1844 (Eq.refl 1845) ?_
  refine xg_aload_n dL_law_1845 (Eq.refl 1846) rfl ?_
  refine xg_iload dL_law_1846 (Eq.refl 1848) rfl ?_
  refine xg_iconst dL_law_1848 (Eq.refl 1849) ?_
  refine xg_iadd dL_law_1849 (Eq.refl 1850) ?_
  refine xg_sld hS hsl dL_law_1850 (Eq.refl 1851) ?_
  refine xg_aload_n dL_law_1851 (Eq.refl 1852) rfl ?_
  refine xg_callWC_I (kc := k) (ks := s) (st := []) (mL_entitledAnew hl x1 h1 (sx (w32 (x5 + 1)).toNat).toInt (xsx_r _) (sx (w32 (x5 + 2)).toNat).toInt (xsx_r _) x3 (xAn.l h3) M hM) bL_entitledAnew xq_1357 rfl (by decide) (by decide) dL_law_1852 (Eq.refl 1855) rfl (by omega) (by omega) ?_
  intro z1 M2 hz1 hM2
  refine xg_istore (ls2 := [some (.ref xSCR), some (.ref x1), some (.ref x2), some (.ref x3), some (.ref x4), some (iv x5), some (iv z1), none, none]) dL_law_1855 (Eq.refl 1857) (show 6 < 9 by decide) rfl ?_
  refine xg_aload_n dL_law_1857 (Eq.refl 1858) rfl ?_
  refine xg_aload_n dL_law_1858 (Eq.refl 1859) rfl ?_
  refine xg_iload dL_law_1859 (Eq.refl 1861) rfl ?_
  refine xg_iconst dL_law_1861 (Eq.refl 1862) ?_
  refine xg_iadd dL_law_1862 (Eq.refl 1863) ?_
  refine xg_sld hS hsl dL_law_1863 (Eq.refl 1864) ?_
  refine xg_aload_n dL_law_1864 (Eq.refl 1865) rfl ?_
  refine xg_iload dL_law_1865 (Eq.refl 1867) rfl ?_
  refine xg_iconst dL_law_1867 (Eq.refl 1868) ?_
  refine xg_iadd dL_law_1868 (Eq.refl 1869) ?_
  refine xg_sld hS hsl dL_law_1869 (Eq.refl 1870) ?_
  refine xg_callVC_J (kc := k) (ks := s) (st := []) (mX12_entitledAnew hl x2 h2 (sx (w32 (x5 + 1)).toNat).toInt (xsx_r _) (sx (w32 (x5 + 2)).toNat).toInt (xsx_r _) M2 hM2) bX12_entitledAnew xcl12 h2 rfl xq_1369 rfl (by decide) (by decide) dL_law_1870 (Eq.refl 1873) rfl (by omega) (by omega) ?_ ?_
  · intro z3 M4 hz3 hM4
    refine xg_lstore (ls2 := [some (.ref xSCR), some (.ref x1), some (.ref x2), some (.ref x3), some (.ref x4), some (iv x5), some (iv z1), some (jv z3), none]) dL_law_1873 (Eq.refl 1875) (show 7 + 1 < 9 by decide) rfl ?_
    refine xg_aload_n dL_law_1875 (Eq.refl 1876) rfl ?_
    refine xg_callVC_I (kc := k) (ks := s) (st := []) (mX12_thrown hl x2 h2 M4 hM4) bX12_thrown xcl12 h2 rfl xq_192 rfl (by decide) (by decide) dL_law_1876 (Eq.refl 1879) rfl (by omega) (by omega) ?_ ?_
    · intro z5 M6 hz5 hM6
      refine xg_iload dL_law_1879 (Eq.refl 1881) rfl ?_
      refine xg_icmp_eq (tgt := 1886) dL_law_1881 (Eq.refl 1884) (by decide) hz5 hz1 ?_ ?_
      · refine xg_iload dL_law_1886 (Eq.refl 1888) rfl ?_
        refine xg_if_ne (tgt := 1902) dL_law_1888 (Eq.refl 1891) (by decide) hz1 ?_ ?_
        · refine xg_aload_n dL_law_1891 (Eq.refl 1892) rfl ?_
          refine xg_iconst dL_law_1892 (Eq.refl 1893) ?_
          refine xg_laldk (k := 0) h3 dL_law_1893 (Eq.refl 1894) rfl (by decide) ?_
          refine xg_lload dL_law_1894 (Eq.refl 1896) rfl ?_
          refine xg_lif_eq (tgt := 1902) dL_law_1896 (Eq.refl 1897) dL_law_1897 (Eq.refl 1900) (by decide) (hM6.aj h3) hz3 ?_ ?_
          · exact xg_jump (gL_law_1902 hl tab nm sl sx hS hsl k s rc28 x1 h1 x2 h2 x3 h3 x4 h4 x5 h5 hr28 M6 hM6) (xsb_s (xsb_s (xsb_s (xsb_s (xsb_s (xsb_s (xsb_n (xsb_n (xsb_n xsb_0))))))))) (by omega) (by omega)
          · refine xg_iconst dL_law_1900 (Eq.refl 1901) ?_
            exact xg_zret rfl dL_law_1901 rfl hM6 (by decide)
        · exact xg_jump (gL_law_1902 hl tab nm sl sx hS hsl k s rc28 x1 h1 x2 h2 x3 h3 x4 h4 x5 h5 hr28 M6 hM6) (xsb_s (xsb_s (xsb_s (xsb_s (xsb_s (xsb_s (xsb_n (xsb_n (xsb_n xsb_0))))))))) (by omega) (by omega)
      · refine xg_iconst dL_law_1884 (Eq.refl 1885) ?_
        exact xg_zret rfl dL_law_1885 rfl hM6 (by decide)
    · intro e M9 he hM9
      exact xgx_none
  · intro e M9 he hM9
    exact xgx_none
theorem gL_law_1835 {l : Launch} {G : xG} (hl : l.stackTraces = false) (tab : List ExceptionTableEntry) (nm : String) (sl : Nat) (sx : Nat → Int32) (hS : G.2.2.2.1.2 = (sl, sx)) (hsl : sl ≤ 2147483647) (k s : Nat) (rc28 : Int → xM → xO) (x1 : Nat) (h1 : xOb 11 x1) (x2 : Nat) (h2 : xOb 12 x2) (x3 : Nat) (h3 : xAn 1 1 x3) (x4 : Nat) (h4 : xAn 2 1 x4) (x5 : Int) (h5 : R32 x5) (hr28 : ∀ w5 : Int, R32 w5 → ∀ M : xM, xcan M → Gv l G (uL_law tab nm) 21 1 k s 28 [some (.ref xSCR), some (.ref x1), some (.ref x2), some (.ref x3), some (.ref x4), some (iv w5), none, none, none] [] M (rc28 w5 M)) (M : xM) (hM : xcan M) : Gv l G (uL_law tab nm) 21 1 k s 1835 [some (.ref xSCR), some (.ref x1), some (.ref x2), some (.ref x3), some (.ref x4), some (iv x5), none, none, none] [] M (fL_law_1835 sl sx rc28 x1 x2 x3 x4 x5 M) := by
  unfold fL_law_1835
  refine xg_goto (tgt := 3031) dL_law_1835 (by decide) ?_
  exact xg_jump (gL_law_3031 hl tab nm sl sx hS hsl k s rc28 x1 h1 x2 h2 x3 h3 x4 h4 x5 h5 hr28 M hM) (xsb_s (xsb_s (xsb_s (xsb_s (xsb_s (xsb_s (xsb_n (xsb_n (xsb_n xsb_0))))))))) (by omega) (by omega)
theorem gL_law_1771 {l : Launch} {G : xG} (hl : l.stackTraces = false) (tab : List ExceptionTableEntry) (nm : String) (sl : Nat) (sx : Nat → Int32) (hS : G.2.2.2.1.2 = (sl, sx)) (hsl : sl ≤ 2147483647) (k s : Nat) (rc28 : Int → xM → xO) (x1 : Nat) (h1 : xOb 11 x1) (x2 : Nat) (h2 : xOb 12 x2) (x3 : Nat) (h3 : xAn 1 1 x3) (x4 : Nat) (h4 : xAn 2 1 x4) (x5 : Int) (h5 : R32 x5) (hr28 : ∀ w5 : Int, R32 w5 → ∀ M : xM, xcan M → Gv l G (uL_law tab nm) 21 1 k s 28 [some (.ref xSCR), some (.ref x1), some (.ref x2), some (.ref x3), some (.ref x4), some (iv w5), none, none, none] [] M (rc28 w5 M)) (M : xM) (hM : xcan M) : Gv l G (uL_law tab nm) 21 1 (k + 11) (s + 66) 1771 [some (.ref xSCR), some (.ref x1), some (.ref x2), some (.ref x3), some (.ref x4), some (iv x5), none, none, none] [] M (fL_law_1771 sl sx rc28 x1 x2 x3 x4 x5 M) := by
  unfold fL_law_1771
  refine xg_aload_n dL_law_1771 (Eq.refl 1772) rfl ?_
  refine xg_aload_n dL_law_1772 (Eq.refl 1773) rfl ?_
  refine xg_iload dL_law_1773 (Eq.refl 1775) rfl ?_
  refine xg_iconst dL_law_1775 (Eq.refl 1776) ?_
  refine xg_iadd dL_law_1776 (Eq.refl 1777) ?_
  refine xg_sld hS hsl dL_law_1777 (Eq.refl 1778) ?_
  refine xg_aload_n dL_law_1778 (Eq.refl 1779) rfl ?_
  refine xg_iload dL_law_1779 (Eq.refl 1781) rfl ?_
  refine xg_iconst dL_law_1781 (Eq.refl 1782) ?_
  refine xg_iadd dL_law_1782 (Eq.refl 1783) ?_
  refine xg_sld hS hsl dL_law_1783 (Eq.refl 1784) ?_
  refine xg_aload_n dL_law_1784 (Eq.refl 1785) rfl ?_
  refine xg_callWC_I (kc := k) (ks := s) (st := []) (mL_entitled hl x1 h1 (sx (w32 (x5 + 1)).toNat).toInt (xsx_r _) (sx (w32 (x5 + 2)).toNat).toInt (xsx_r _) x3 (xAn.l h3) M hM) bL_entitled xq_1345 rfl (by decide) (by decide) dL_law_1785 (Eq.refl 1788) rfl (by omega) (by omega) ?_
  intro z1 M2 hz1 hM2
  refine xg_istore (ls2 := [some (.ref xSCR), some (.ref x1), some (.ref x2), some (.ref x3), some (.ref x4), some (iv x5), some (iv z1), none, none]) dL_law_1788 (Eq.refl 1790) (show 6 < 9 by decide) rfl ?_
  refine xg_aload_n dL_law_1790 (Eq.refl 1791) rfl ?_
  refine xg_aload_n dL_law_1791 (Eq.refl 1792) rfl ?_
  refine xg_iload dL_law_1792 (Eq.refl 1794) rfl ?_
  refine xg_iconst dL_law_1794 (Eq.refl 1795) ?_
  refine xg_iadd dL_law_1795 (Eq.refl 1796) ?_
  refine xg_sld hS hsl dL_law_1796 (Eq.refl 1797) ?_
  refine xg_aload_n dL_law_1797 (Eq.refl 1798) rfl ?_
  refine xg_iload dL_law_1798 (Eq.refl 1800) rfl ?_
  refine xg_iconst dL_law_1800 (Eq.refl 1801) ?_
  refine xg_iadd dL_law_1801 (Eq.refl 1802) ?_
  refine xg_sld hS hsl dL_law_1802 (Eq.refl 1803) ?_
  refine xg_callVC_J (kc := k) (ks := s) (st := []) (mX12_entitled hl x2 h2 (sx (w32 (x5 + 1)).toNat).toInt (xsx_r _) (sx (w32 (x5 + 2)).toNat).toInt (xsx_r _) M2 hM2) bX12_entitled xcl12 h2 rfl xq_1353 rfl (by decide) (by decide) dL_law_1803 (Eq.refl 1806) rfl (by omega) (by omega) ?_ ?_
  · intro z3 M4 hz3 hM4
    refine xg_lstore (ls2 := [some (.ref xSCR), some (.ref x1), some (.ref x2), some (.ref x3), some (.ref x4), some (iv x5), some (iv z1), some (jv z3), none]) dL_law_1806 (Eq.refl 1808) (show 7 + 1 < 9 by decide) rfl ?_
    refine xg_aload_n dL_law_1808 (Eq.refl 1809) rfl ?_
    refine xg_callVC_I (kc := k) (ks := s) (st := []) (mX12_thrown hl x2 h2 M4 hM4) bX12_thrown xcl12 h2 rfl xq_192 rfl (by decide) (by decide) dL_law_1809 (Eq.refl 1812) rfl (by omega) (by omega) ?_ ?_
    · intro z5 M6 hz5 hM6
      refine xg_iload dL_law_1812 (Eq.refl 1814) rfl ?_
      refine xg_icmp_eq (tgt := 1819) dL_law_1814 (Eq.refl 1817) (by decide) hz5 hz1 ?_ ?_
      · refine xg_iload dL_law_1819 (Eq.refl 1821) rfl ?_
        refine xg_if_ne (tgt := 1835) dL_law_1821 (Eq.refl 1824) (by decide) hz1 ?_ ?_
        · refine xg_aload_n dL_law_1824 (Eq.refl 1825) rfl ?_
          refine xg_iconst dL_law_1825 (Eq.refl 1826) ?_
          refine xg_laldk (k := 0) h3 dL_law_1826 (Eq.refl 1827) rfl (by decide) ?_
          refine xg_lload dL_law_1827 (Eq.refl 1829) rfl ?_
          refine xg_lif_eq (tgt := 1835) dL_law_1829 (Eq.refl 1830) dL_law_1830 (Eq.refl 1833) (by decide) (hM6.aj h3) hz3 ?_ ?_
          · exact xg_jump (gL_law_1835 hl tab nm sl sx hS hsl k s rc28 x1 h1 x2 h2 x3 h3 x4 h4 x5 h5 hr28 M6 hM6) (xsb_s (xsb_s (xsb_s (xsb_s (xsb_s (xsb_s (xsb_n (xsb_n (xsb_n xsb_0))))))))) (by omega) (by omega)
          · refine xg_iconst dL_law_1833 (Eq.refl 1834) ?_
            exact xg_zret rfl dL_law_1834 rfl hM6 (by decide)
        · exact xg_jump (gL_law_1835 hl tab nm sl sx hS hsl k s rc28 x1 h1 x2 h2 x3 h3 x4 h4 x5 h5 hr28 M6 hM6) (xsb_s (xsb_s (xsb_s (xsb_s (xsb_s (xsb_s (xsb_n (xsb_n (xsb_n xsb_0))))))))) (by omega) (by omega)
      · refine xg_iconst dL_law_1817 (Eq.refl 1818) ?_
        exact xg_zret rfl dL_law_1818 rfl hM6 (by decide)
    · intro e M9 he hM9
      exact xgx_none
  · intro e M9 he hM9
    exact xgx_none
theorem gL_law_1768 {l : Launch} {G : xG} (hl : l.stackTraces = false) (tab : List ExceptionTableEntry) (nm : String) (sl : Nat) (sx : Nat → Int32) (hS : G.2.2.2.1.2 = (sl, sx)) (hsl : sl ≤ 2147483647) (k s : Nat) (rc28 : Int → xM → xO) (x1 : Nat) (h1 : xOb 11 x1) (x2 : Nat) (h2 : xOb 12 x2) (x3 : Nat) (h3 : xAn 1 1 x3) (x4 : Nat) (h4 : xAn 2 1 x4) (x5 : Int) (h5 : R32 x5) (hr28 : ∀ w5 : Int, R32 w5 → ∀ M : xM, xcan M → Gv l G (uL_law tab nm) 21 1 k s 28 [some (.ref xSCR), some (.ref x1), some (.ref x2), some (.ref x3), some (.ref x4), some (iv w5), none, none, none] [] M (rc28 w5 M)) (M : xM) (hM : xcan M) : Gv l G (uL_law tab nm) 21 1 k s 1768 [some (.ref xSCR), some (.ref x1), some (.ref x2), some (.ref x3), some (.ref x4), some (iv x5), none, none, none] [] M (fL_law_1768 sl sx rc28 x1 x2 x3 x4 x5 M) := by
  unfold fL_law_1768
  refine xg_goto (tgt := 3031) dL_law_1768 (by decide) ?_
  exact xg_jump (gL_law_3031 hl tab nm sl sx hS hsl k s rc28 x1 h1 x2 h2 x3 h3 x4 h4 x5 h5 hr28 M hM) (xsb_s (xsb_s (xsb_s (xsb_s (xsb_s (xsb_s (xsb_n (xsb_n (xsb_n xsb_0))))))))) (by omega) (by omega)
theorem gL_law_1692 {l : Launch} {G : xG} (hl : l.stackTraces = false) (tab : List ExceptionTableEntry) (nm : String) (sl : Nat) (sx : Nat → Int32) (hS : G.2.2.2.1.2 = (sl, sx)) (hsl : sl ≤ 2147483647) (k s : Nat) (rc28 : Int → xM → xO) (x1 : Nat) (h1 : xOb 11 x1) (x2 : Nat) (h2 : xOb 12 x2) (x3 : Nat) (h3 : xAn 1 1 x3) (x4 : Nat) (h4 : xAn 2 1 x4) (x5 : Int) (h5 : R32 x5) (hr28 : ∀ w5 : Int, R32 w5 → ∀ M : xM, xcan M → Gv l G (uL_law tab nm) 21 1 k s 28 [some (.ref xSCR), some (.ref x1), some (.ref x2), some (.ref x3), some (.ref x4), some (iv w5), none, none, none] [] M (rc28 w5 M)) (M : xM) (hM : xcan M) : Gv l G (uL_law tab nm) 21 1 (k + 11) (s + 66) 1692 [some (.ref xSCR), some (.ref x1), some (.ref x2), some (.ref x3), some (.ref x4), some (iv x5), none, none, none] [] M (fL_law_1692 sl sx rc28 x1 x2 x3 x4 x5 M) := by
  unfold fL_law_1692
  refine xg_aload_n dL_law_1692 (Eq.refl 1693) rfl ?_
  refine xg_aload_n dL_law_1693 (Eq.refl 1694) rfl ?_
  refine xg_iload dL_law_1694 (Eq.refl 1696) rfl ?_
  refine xg_iconst dL_law_1696 (Eq.refl 1697) ?_
  refine xg_iadd dL_law_1697 (Eq.refl 1698) ?_
  refine xg_sld hS hsl dL_law_1698 (Eq.refl 1699) ?_
  refine xg_aload_n dL_law_1699 (Eq.refl 1700) rfl ?_
  refine xg_iload dL_law_1700 (Eq.refl 1702) rfl ?_
  refine xg_iconst dL_law_1702 (Eq.refl 1703) ?_
  refine xg_iadd dL_law_1703 (Eq.refl 1704) ?_
  refine xg_sld hS hsl dL_law_1704 (Eq.refl 1705) ?_
  refine xg_aload_n dL_law_1705 (Eq.refl 1706) rfl ?_
  refine xg_iload dL_law_1706 (Eq.refl 1708) rfl ?_
  refine xg_iconst dL_law_1708 (Eq.refl 1709) ?_
  refine xg_iadd dL_law_1709 (Eq.refl 1710) ?_
  refine xg_sld hS hsl dL_law_1710 (Eq.refl 1711) ?_
  refine xg_aload_n dL_law_1711 (Eq.refl 1712) rfl ?_
  refine xg_callWC_I (kc := k) (ks := s) (st := []) (mL_elect hl x1 h1 (sx (w32 (x5 + 1)).toNat).toInt (xsx_r _) (sx (w32 (x5 + 2)).toNat).toInt (xsx_r _) (sx (w32 (x5 + 3)).toNat).toInt (xsx_r _) x3 (xAn.l h3) M hM) bL_elect xq_1318 rfl (by decide) (by decide) dL_law_1712 (Eq.refl 1715) rfl (by omega) (by omega) ?_
  intro z1 M2 hz1 hM2
  refine xg_istore (ls2 := [some (.ref xSCR), some (.ref x1), some (.ref x2), some (.ref x3), some (.ref x4), some (iv x5), some (iv z1), none, none]) dL_law_1715 (Eq.refl 1717) (show 6 < 9 by decide) rfl ?_
  refine xg_aload_n dL_law_1717 (Eq.refl 1718) rfl ?_
  refine xg_aload_n dL_law_1718 (Eq.refl 1719) rfl ?_
  refine xg_iload dL_law_1719 (Eq.refl 1721) rfl ?_
  refine xg_iconst dL_law_1721 (Eq.refl 1722) ?_
  refine xg_iadd dL_law_1722 (Eq.refl 1723) ?_
  refine xg_sld hS hsl dL_law_1723 (Eq.refl 1724) ?_
  refine xg_aload_n dL_law_1724 (Eq.refl 1725) rfl ?_
  refine xg_iload dL_law_1725 (Eq.refl 1727) rfl ?_
  refine xg_iconst dL_law_1727 (Eq.refl 1728) ?_
  refine xg_iadd dL_law_1728 (Eq.refl 1729) ?_
  refine xg_sld hS hsl dL_law_1729 (Eq.refl 1730) ?_
  refine xg_aload_n dL_law_1730 (Eq.refl 1731) rfl ?_
  refine xg_iload dL_law_1731 (Eq.refl 1733) rfl ?_
  refine xg_iconst dL_law_1733 (Eq.refl 1734) ?_
  refine xg_iadd dL_law_1734 (Eq.refl 1735) ?_
  refine xg_sld hS hsl dL_law_1735 (Eq.refl 1736) ?_
  refine xg_callVC_J (kc := k) (ks := s) (st := []) (mX12_elect hl x2 h2 (sx (w32 (x5 + 1)).toNat).toInt (xsx_r _) (sx (w32 (x5 + 2)).toNat).toInt (xsx_r _) (sx (w32 (x5 + 3)).toNat).toInt (xsx_r _) M2 hM2) bX12_elect xcl12 h2 rfl xq_1337 rfl (by decide) (by decide) dL_law_1736 (Eq.refl 1739) rfl (by omega) (by omega) ?_ ?_
  · intro z3 M4 hz3 hM4
    refine xg_lstore (ls2 := [some (.ref xSCR), some (.ref x1), some (.ref x2), some (.ref x3), some (.ref x4), some (iv x5), some (iv z1), some (jv z3), none]) dL_law_1739 (Eq.refl 1741) (show 7 + 1 < 9 by decide) rfl ?_
    refine xg_aload_n dL_law_1741 (Eq.refl 1742) rfl ?_
    refine xg_callVC_I (kc := k) (ks := s) (st := []) (mX12_thrown hl x2 h2 M4 hM4) bX12_thrown xcl12 h2 rfl xq_192 rfl (by decide) (by decide) dL_law_1742 (Eq.refl 1745) rfl (by omega) (by omega) ?_ ?_
    · intro z5 M6 hz5 hM6
      refine xg_iload dL_law_1745 (Eq.refl 1747) rfl ?_
      refine xg_icmp_eq (tgt := 1752) dL_law_1747 (Eq.refl 1750) (by decide) hz5 hz1 ?_ ?_
      · refine xg_iload dL_law_1752 (Eq.refl 1754) rfl ?_
        refine xg_if_ne (tgt := 1768) dL_law_1754 (Eq.refl 1757) (by decide) hz1 ?_ ?_
        · refine xg_aload_n dL_law_1757 (Eq.refl 1758) rfl ?_
          refine xg_iconst dL_law_1758 (Eq.refl 1759) ?_
          refine xg_laldk (k := 0) h3 dL_law_1759 (Eq.refl 1760) rfl (by decide) ?_
          refine xg_lload dL_law_1760 (Eq.refl 1762) rfl ?_
          refine xg_lif_eq (tgt := 1768) dL_law_1762 (Eq.refl 1763) dL_law_1763 (Eq.refl 1766) (by decide) (hM6.aj h3) hz3 ?_ ?_
          · exact xg_jump (gL_law_1768 hl tab nm sl sx hS hsl k s rc28 x1 h1 x2 h2 x3 h3 x4 h4 x5 h5 hr28 M6 hM6) (xsb_s (xsb_s (xsb_s (xsb_s (xsb_s (xsb_s (xsb_n (xsb_n (xsb_n xsb_0))))))))) (by omega) (by omega)
          · refine xg_iconst dL_law_1766 (Eq.refl 1767) ?_
            exact xg_zret rfl dL_law_1767 rfl hM6 (by decide)
        · exact xg_jump (gL_law_1768 hl tab nm sl sx hS hsl k s rc28 x1 h1 x2 h2 x3 h3 x4 h4 x5 h5 hr28 M6 hM6) (xsb_s (xsb_s (xsb_s (xsb_s (xsb_s (xsb_s (xsb_n (xsb_n (xsb_n xsb_0))))))))) (by omega) (by omega)
      · refine xg_iconst dL_law_1750 (Eq.refl 1751) ?_
        exact xg_zret rfl dL_law_1751 rfl hM6 (by decide)
    · intro e M9 he hM9
      exact xgx_none
  · intro e M9 he hM9
    exact xgx_none
theorem gL_law_1689 {l : Launch} {G : xG} (hl : l.stackTraces = false) (tab : List ExceptionTableEntry) (nm : String) (sl : Nat) (sx : Nat → Int32) (hS : G.2.2.2.1.2 = (sl, sx)) (hsl : sl ≤ 2147483647) (k s : Nat) (rc28 : Int → xM → xO) (x1 : Nat) (h1 : xOb 11 x1) (x2 : Nat) (h2 : xOb 12 x2) (x3 : Nat) (h3 : xAn 1 1 x3) (x4 : Nat) (h4 : xAn 2 1 x4) (x5 : Int) (h5 : R32 x5) (hr28 : ∀ w5 : Int, R32 w5 → ∀ M : xM, xcan M → Gv l G (uL_law tab nm) 21 1 k s 28 [some (.ref xSCR), some (.ref x1), some (.ref x2), some (.ref x3), some (.ref x4), some (iv w5), none, none, none] [] M (rc28 w5 M)) (M : xM) (hM : xcan M) : Gv l G (uL_law tab nm) 21 1 k s 1689 [some (.ref xSCR), some (.ref x1), some (.ref x2), some (.ref x3), some (.ref x4), some (iv x5), none, none, none] [] M (fL_law_1689 sl sx rc28 x1 x2 x3 x4 x5 M) := by
  unfold fL_law_1689
  refine xg_goto (tgt := 3031) dL_law_1689 (by decide) ?_
  exact xg_jump (gL_law_3031 hl tab nm sl sx hS hsl k s rc28 x1 h1 x2 h2 x3 h3 x4 h4 x5 h5 hr28 M hM) (xsb_s (xsb_s (xsb_s (xsb_s (xsb_s (xsb_s (xsb_n (xsb_n (xsb_n xsb_0))))))))) (by omega) (by omega)
theorem gL_law_1560 {l : Launch} {G : xG} (hl : l.stackTraces = false) (tab : List ExceptionTableEntry) (nm : String) (sl : Nat) (sx : Nat → Int32) (hS : G.2.2.2.1.2 = (sl, sx)) (hsl : sl ≤ 2147483647) (k s : Nat) (rc28 : Int → xM → xO) (x1 : Nat) (h1 : xOb 11 x1) (x2 : Nat) (h2 : xOb 12 x2) (x3 : Nat) (h3 : xAn 1 1 x3) (x4 : Nat) (h4 : xAn 2 1 x4) (x5 : Int) (h5 : R32 x5) (hr28 : ∀ w5 : Int, R32 w5 → ∀ M : xM, xcan M → Gv l G (uL_law tab nm) 21 1 k s 28 [some (.ref xSCR), some (.ref x1), some (.ref x2), some (.ref x3), some (.ref x4), some (iv w5), none, none, none] [] M (rc28 w5 M)) (M : xM) (hM : xcan M) : Gv l G (uL_law tab nm) 21 1 (k + 11) (s + 66) 1560 [some (.ref xSCR), some (.ref x1), some (.ref x2), some (.ref x3), some (.ref x4), some (iv x5), none, none, none] [] M (fL_law_1560 sl sx rc28 x1 x2 x3 x4 x5 M) := by
  unfold fL_law_1560
  refine xg_aload_n dL_law_1560 (Eq.refl 1561) rfl ?_
  refine xg_aload_n dL_law_1561 (Eq.refl 1562) rfl ?_
  refine xg_iload dL_law_1562 (Eq.refl 1564) rfl ?_
  refine xg_iconst dL_law_1564 (Eq.refl 1565) ?_
  refine xg_iadd dL_law_1565 (Eq.refl 1566) ?_
  refine xg_sld hS hsl dL_law_1566 (Eq.refl 1567) ?_
  refine xg_aload_n dL_law_1567 (Eq.refl 1568) rfl ?_
  refine xg_iload dL_law_1568 (Eq.refl 1570) rfl ?_
  refine xg_iconst dL_law_1570 (Eq.refl 1571) ?_
  refine xg_iadd dL_law_1571 (Eq.refl 1572) ?_
  refine xg_sld hS hsl dL_law_1572 (Eq.refl 1573) ?_
  refine xg_aload_n dL_law_1573 (Eq.refl 1574) rfl ?_
  refine xg_iload dL_law_1574 (Eq.refl 1576) rfl ?_
  refine xg_iconst dL_law_1576 (Eq.refl 1577) ?_
  refine xg_iadd dL_law_1577 (Eq.refl 1578) ?_
  refine xg_sld hS hsl dL_law_1578 (Eq.refl 1579) ?_
  refine xg_aload_n dL_law_1579 (Eq.refl 1580) rfl ?_
  refine xg_iload dL_law_1580 (Eq.refl 1582) rfl ?_
  refine xg_iconst dL_law_1582 (Eq.refl 1583) ?_
  refine xg_iadd dL_law_1583 (Eq.refl 1584) ?_
  refine xg_sld hS hsl dL_law_1584 (Eq.refl 1585) ?_
  refine xg_aload_n dL_law_1585 (Eq.refl 1586) rfl ?_
  refine xg_iload dL_law_1586 (Eq.refl 1588) rfl ?_
  refine xg_iconst dL_law_1588 (Eq.refl 1589) ?_
  refine xg_iadd dL_law_1589 (Eq.refl 1590) ?_
  refine xg_sld hS hsl dL_law_1590 (Eq.refl 1591) ?_
  refine xg_aload_n dL_law_1591 (Eq.refl 1592) rfl ?_
  refine xg_iload dL_law_1592 (Eq.refl 1594) rfl ?_
  refine xg_bipush dL_law_1594 (Eq.refl 1596) (by decide +kernel) ?_
  refine xg_iadd dL_law_1596 (Eq.refl 1597) ?_
  refine xg_sld hS hsl dL_law_1597 (Eq.refl 1598) ?_
  refine xg_aload_n dL_law_1598 (Eq.refl 1599) rfl ?_
  refine xg_iload dL_law_1599 (Eq.refl 1601) rfl ?_
  refine xg_bipush dL_law_1601 (Eq.refl 1603) (by decide +kernel) ?_
  refine xg_iadd dL_law_1603 (Eq.refl 1604) ?_
  refine xg_sld hS hsl dL_law_1604 (Eq.refl 1605) ?_
  refine xg_aload_n dL_law_1605 (Eq.refl 1606) rfl ?_
  refine xg_callWC_I (kc := k) (ks := s) (st := []) (mL_announce hl x1 h1 (sx (w32 (x5 + 1)).toNat).toInt (xsx_r _) (sx (w32 (x5 + 2)).toNat).toInt (xsx_r _) (sx (w32 (x5 + 3)).toNat).toInt (xsx_r _) (sx (w32 (x5 + 4)).toNat).toInt (xsx_r _) (sx (w32 (x5 + 5)).toNat).toInt (xsx_r _) (sx (w32 (x5 + 6)).toNat).toInt (xsx_r _) (sx (w32 (x5 + 7)).toNat).toInt (xsx_r _) x3 (xAn.l h3) M hM) bL_announce xq_1298 rfl (by decide) (by decide) dL_law_1606 (Eq.refl 1609) rfl (by omega) (by omega) ?_
  intro z1 M2 hz1 hM2
  refine xg_istore (ls2 := [some (.ref xSCR), some (.ref x1), some (.ref x2), some (.ref x3), some (.ref x4), some (iv x5), some (iv z1), none, none]) dL_law_1609 (Eq.refl 1611) (show 6 < 9 by decide) rfl ?_
  refine xg_aload_n dL_law_1611 (Eq.refl 1612) rfl ?_
  refine xg_aload_n dL_law_1612 (Eq.refl 1613) rfl ?_
  refine xg_iload dL_law_1613 (Eq.refl 1615) rfl ?_
  refine xg_iconst dL_law_1615 (Eq.refl 1616) ?_
  refine xg_iadd dL_law_1616 (Eq.refl 1617) ?_
  refine xg_sld hS hsl dL_law_1617 (Eq.refl 1618) ?_
  refine xg_aload_n dL_law_1618 (Eq.refl 1619) rfl ?_
  refine xg_iload dL_law_1619 (Eq.refl 1621) rfl ?_
  refine xg_iconst dL_law_1621 (Eq.refl 1622) ?_
  refine xg_iadd dL_law_1622 (Eq.refl 1623) ?_
  refine xg_sld hS hsl dL_law_1623 (Eq.refl 1624) ?_
  refine xg_aload_n dL_law_1624 (Eq.refl 1625) rfl ?_
  refine xg_iload dL_law_1625 (Eq.refl 1627) rfl ?_
  refine xg_iconst dL_law_1627 (Eq.refl 1628) ?_
  refine xg_iadd dL_law_1628 (Eq.refl 1629) ?_
  refine xg_sld hS hsl dL_law_1629 (Eq.refl 1630) ?_
  refine xg_aload_n dL_law_1630 (Eq.refl 1631) rfl ?_
  refine xg_iload dL_law_1631 (Eq.refl 1633) rfl ?_
  refine xg_iconst dL_law_1633 (Eq.refl 1634) ?_
  refine xg_iadd dL_law_1634 (Eq.refl 1635) ?_
  refine xg_sld hS hsl dL_law_1635 (Eq.refl 1636) ?_
  refine xg_aload_n dL_law_1636 (Eq.refl 1637) rfl ?_
  refine xg_iload dL_law_1637 (Eq.refl 1639) rfl ?_
  refine xg_iconst dL_law_1639 (Eq.refl 1640) ?_
  refine xg_iadd dL_law_1640 (Eq.refl 1641) ?_
  refine xg_sld hS hsl dL_law_1641 (Eq.refl 1642) ?_
  refine xg_aload_n dL_law_1642 (Eq.refl 1643) rfl ?_
  refine xg_iload dL_law_1643 (Eq.refl 1645) rfl ?_
  refine xg_bipush dL_law_1645 (Eq.refl 1647) (by decide +kernel) ?_
  refine xg_iadd dL_law_1647 (Eq.refl 1648) ?_
  refine xg_sld hS hsl dL_law_1648 (Eq.refl 1649) ?_
  refine xg_aload_n dL_law_1649 (Eq.refl 1650) rfl ?_
  refine xg_iload dL_law_1650 (Eq.refl 1652) rfl ?_
  refine xg_bipush dL_law_1652 (Eq.refl 1654) (by decide +kernel) ?_
  refine xg_iadd dL_law_1654 (Eq.refl 1655) ?_
  refine xg_sld hS hsl dL_law_1655 (Eq.refl 1656) ?_
  refine xg_callVC_I (kc := k) (ks := s) (st := []) (mX12_announce hl x2 h2 (sx (w32 (x5 + 1)).toNat).toInt (xsx_r _) (sx (w32 (x5 + 2)).toNat).toInt (xsx_r _) (sx (w32 (x5 + 3)).toNat).toInt (xsx_r _) (sx (w32 (x5 + 4)).toNat).toInt (xsx_r _) (sx (w32 (x5 + 5)).toNat).toInt (xsx_r _) (sx (w32 (x5 + 6)).toNat).toInt (xsx_r _) (sx (w32 (x5 + 7)).toNat).toInt (xsx_r _) M2 hM2) bX12_announce xcl12 h2 rfl xq_1314 rfl (by decide) (by decide) dL_law_1656 (Eq.refl 1659) rfl (by omega) (by omega) ?_ ?_
  · intro z3 M4 hz3 hM4
    refine xg_istore (ls2 := [some (.ref xSCR), some (.ref x1), some (.ref x2), some (.ref x3), some (.ref x4), some (iv x5), some (iv z1), some (iv z3), none]) dL_law_1659 (Eq.refl 1661) (show 7 < 9 by decide) rfl ?_
    refine xg_aload_n dL_law_1661 (Eq.refl 1662) rfl ?_
    refine xg_callVC_I (kc := k) (ks := s) (st := []) (mX12_thrown hl x2 h2 M4 hM4) bX12_thrown xcl12 h2 rfl xq_192 rfl (by decide) (by decide) dL_law_1662 (Eq.refl 1665) rfl (by omega) (by omega) ?_ ?_
    · intro z5 M6 hz5 hM6
      refine xg_iload dL_law_1665 (Eq.refl 1667) rfl ?_
      refine xg_icmp_eq (tgt := 1672) dL_law_1667 (Eq.refl 1670) (by decide) hz5 hz1 ?_ ?_
      · refine xg_iload dL_law_1672 (Eq.refl 1674) rfl ?_
        refine xg_if_ne (tgt := 1689) dL_law_1674 (Eq.refl 1677) (by decide) hz1 ?_ ?_
        · refine xg_aload_n dL_law_1677 (Eq.refl 1678) rfl ?_
          refine xg_iconst dL_law_1678 (Eq.refl 1679) ?_
          refine xg_laldk (k := 0) h3 dL_law_1679 (Eq.refl 1680) rfl (by decide) ?_
          refine xg_iload dL_law_1680 (Eq.refl 1682) rfl ?_
          refine xg_i2l dL_law_1682 (Eq.refl 1683) hz3 ?_
          refine xg_lif_eq (tgt := 1689) dL_law_1683 (Eq.refl 1684) dL_law_1684 (Eq.refl 1687) (by decide) (hM6.aj h3) (R32.j hz3) ?_ ?_
          · exact xg_jump (gL_law_1689 hl tab nm sl sx hS hsl k s rc28 x1 h1 x2 h2 x3 h3 x4 h4 x5 h5 hr28 M6 hM6) (xsb_s (xsb_s (xsb_s (xsb_s (xsb_s (xsb_s (xsb_n (xsb_n (xsb_n xsb_0))))))))) (by omega) (by omega)
          · refine xg_iconst dL_law_1687 (Eq.refl 1688) ?_
            exact xg_zret rfl dL_law_1688 rfl hM6 (by decide)
        · exact xg_jump (gL_law_1689 hl tab nm sl sx hS hsl k s rc28 x1 h1 x2 h2 x3 h3 x4 h4 x5 h5 hr28 M6 hM6) (xsb_s (xsb_s (xsb_s (xsb_s (xsb_s (xsb_s (xsb_n (xsb_n (xsb_n xsb_0))))))))) (by omega) (by omega)
      · refine xg_iconst dL_law_1670 (Eq.refl 1671) ?_
        exact xg_zret rfl dL_law_1671 rfl hM6 (by decide)
    · intro e M9 he hM9
      exact xgx_none
  · intro e M9 he hM9
    exact xgx_none
theorem gL_law_1557 {l : Launch} {G : xG} (hl : l.stackTraces = false) (tab : List ExceptionTableEntry) (nm : String) (sl : Nat) (sx : Nat → Int32) (hS : G.2.2.2.1.2 = (sl, sx)) (hsl : sl ≤ 2147483647) (k s : Nat) (rc28 : Int → xM → xO) (x1 : Nat) (h1 : xOb 11 x1) (x2 : Nat) (h2 : xOb 12 x2) (x3 : Nat) (h3 : xAn 1 1 x3) (x4 : Nat) (h4 : xAn 2 1 x4) (x5 : Int) (h5 : R32 x5) (hr28 : ∀ w5 : Int, R32 w5 → ∀ M : xM, xcan M → Gv l G (uL_law tab nm) 21 1 k s 28 [some (.ref xSCR), some (.ref x1), some (.ref x2), some (.ref x3), some (.ref x4), some (iv w5), none, none, none] [] M (rc28 w5 M)) (M : xM) (hM : xcan M) : Gv l G (uL_law tab nm) 21 1 k s 1557 [some (.ref xSCR), some (.ref x1), some (.ref x2), some (.ref x3), some (.ref x4), some (iv x5), none, none, none] [] M (fL_law_1557 sl sx rc28 x1 x2 x3 x4 x5 M) := by
  unfold fL_law_1557
  refine xg_goto (tgt := 3031) dL_law_1557 (by decide) ?_
  exact xg_jump (gL_law_3031 hl tab nm sl sx hS hsl k s rc28 x1 h1 x2 h2 x3 h3 x4 h4 x5 h5 hr28 M hM) (xsb_s (xsb_s (xsb_s (xsb_s (xsb_s (xsb_s (xsb_n (xsb_n (xsb_n xsb_0))))))))) (by omega) (by omega)
theorem gL_law_1516 {l : Launch} {G : xG} (hl : l.stackTraces = false) (tab : List ExceptionTableEntry) (nm : String) (sl : Nat) (sx : Nat → Int32) (hS : G.2.2.2.1.2 = (sl, sx)) (hsl : sl ≤ 2147483647) (k s : Nat) (rc28 : Int → xM → xO) (x1 : Nat) (h1 : xOb 11 x1) (x2 : Nat) (h2 : xOb 12 x2) (x3 : Nat) (h3 : xAn 1 1 x3) (x4 : Nat) (h4 : xAn 2 1 x4) (x5 : Int) (h5 : R32 x5) (hr28 : ∀ w5 : Int, R32 w5 → ∀ M : xM, xcan M → Gv l G (uL_law tab nm) 21 1 k s 28 [some (.ref xSCR), some (.ref x1), some (.ref x2), some (.ref x3), some (.ref x4), some (iv w5), none, none, none] [] M (rc28 w5 M)) (M : xM) (hM : xcan M) : Gv l G (uL_law tab nm) 21 1 (k + 11) (s + 66) 1516 [some (.ref xSCR), some (.ref x1), some (.ref x2), some (.ref x3), some (.ref x4), some (iv x5), none, none, none] [] M (fL_law_1516 sl sx rc28 x1 x2 x3 x4 x5 M) := by
  unfold fL_law_1516
  refine xg_aload_n dL_law_1516 (Eq.refl 1517) rfl ?_
  refine xg_aload_n dL_law_1517 (Eq.refl 1518) rfl ?_
  refine xg_callWC_I (kc := k) (ks := s) (st := []) (mL_goBack hl x1 h1 x3 (xAn.l h3) M hM) bL_goBack xq_1287 rfl (by decide) (by decide) dL_law_1518 (Eq.refl 1521) rfl (by omega) (by omega) ?_
  intro z1 M2 hz1 hM2
  refine xg_istore (ls2 := [some (.ref xSCR), some (.ref x1), some (.ref x2), some (.ref x3), some (.ref x4), some (iv x5), some (iv z1), none, none]) dL_law_1521 (Eq.refl 1523) (show 6 < 9 by decide) rfl ?_
  refine xg_aload_n dL_law_1523 (Eq.refl 1524) rfl ?_
  refine xg_callVC_I (kc := k) (ks := s) (st := []) (mX12_goBack hl x2 h2 M2 hM2) bX12_goBack xcl12 h2 rfl xq_1294 rfl (by decide) (by decide) dL_law_1524 (Eq.refl 1527) rfl (by omega) (by omega) ?_ ?_
  · intro z3 M4 hz3 hM4
    refine xg_istore (ls2 := [some (.ref xSCR), some (.ref x1), some (.ref x2), some (.ref x3), some (.ref x4), some (iv x5), some (iv z1), some (iv z3), none]) dL_law_1527 (Eq.refl 1529) (show 7 < 9 by decide) rfl ?_
    refine xg_aload_n dL_law_1529 (Eq.refl 1530) rfl ?_
    refine xg_callVC_I (kc := k) (ks := s) (st := []) (mX12_thrown hl x2 h2 M4 hM4) bX12_thrown xcl12 h2 rfl xq_192 rfl (by decide) (by decide) dL_law_1530 (Eq.refl 1533) rfl (by omega) (by omega) ?_ ?_
    · intro z5 M6 hz5 hM6
      refine xg_iload dL_law_1533 (Eq.refl 1535) rfl ?_
      refine xg_icmp_eq (tgt := 1540) dL_law_1535 (Eq.refl 1538) (by decide) hz5 hz1 ?_ ?_
      · refine xg_iload dL_law_1540 (Eq.refl 1542) rfl ?_
        refine xg_if_ne (tgt := 1557) dL_law_1542 (Eq.refl 1545) (by decide) hz1 ?_ ?_
        · refine xg_aload_n dL_law_1545 (Eq.refl 1546) rfl ?_
          refine xg_iconst dL_law_1546 (Eq.refl 1547) ?_
          refine xg_laldk (k := 0) h3 dL_law_1547 (Eq.refl 1548) rfl (by decide) ?_
          refine xg_iload dL_law_1548 (Eq.refl 1550) rfl ?_
          refine xg_i2l dL_law_1550 (Eq.refl 1551) hz3 ?_
          refine xg_lif_eq (tgt := 1557) dL_law_1551 (Eq.refl 1552) dL_law_1552 (Eq.refl 1555) (by decide) (hM6.aj h3) (R32.j hz3) ?_ ?_
          · exact xg_jump (gL_law_1557 hl tab nm sl sx hS hsl k s rc28 x1 h1 x2 h2 x3 h3 x4 h4 x5 h5 hr28 M6 hM6) (xsb_s (xsb_s (xsb_s (xsb_s (xsb_s (xsb_s (xsb_n (xsb_n (xsb_n xsb_0))))))))) (by omega) (by omega)
          · refine xg_iconst dL_law_1555 (Eq.refl 1556) ?_
            exact xg_zret rfl dL_law_1556 rfl hM6 (by decide)
        · exact xg_jump (gL_law_1557 hl tab nm sl sx hS hsl k s rc28 x1 h1 x2 h2 x3 h3 x4 h4 x5 h5 hr28 M6 hM6) (xsb_s (xsb_s (xsb_s (xsb_s (xsb_s (xsb_s (xsb_n (xsb_n (xsb_n xsb_0))))))))) (by omega) (by omega)
      · refine xg_iconst dL_law_1538 (Eq.refl 1539) ?_
        exact xg_zret rfl dL_law_1539 rfl hM6 (by decide)
    · intro e M9 he hM9
      exact xgx_none
  · intro e M9 he hM9
    exact xgx_none
theorem gL_law_1503 {l : Launch} {G : xG} (hl : l.stackTraces = false) (tab : List ExceptionTableEntry) (nm : String) (sl : Nat) (sx : Nat → Int32) (hS : G.2.2.2.1.2 = (sl, sx)) (hsl : sl ≤ 2147483647) (k s : Nat) (rc28 : Int → xM → xO) (x1 : Nat) (h1 : xOb 11 x1) (x2 : Nat) (h2 : xOb 12 x2) (x3 : Nat) (h3 : xAn 1 1 x3) (x4 : Nat) (h4 : xAn 2 1 x4) (x5 : Int) (h5 : R32 x5) (hr28 : ∀ w5 : Int, R32 w5 → ∀ M : xM, xcan M → Gv l G (uL_law tab nm) 21 1 k s 28 [some (.ref xSCR), some (.ref x1), some (.ref x2), some (.ref x3), some (.ref x4), some (iv w5), none, none, none] [] M (rc28 w5 M)) (M : xM) (hM : xcan M) : Gv l G (uL_law tab nm) 21 1 k s 1503 [some (.ref xSCR), some (.ref x1), some (.ref x2), some (.ref x3), some (.ref x4), some (iv x5), none, none, none] [] M (fL_law_1503 sl sx rc28 x1 x2 x3 x4 x5 M) := by
  unfold fL_law_1503
  refine xg_aload_n dL_law_1503 (Eq.refl 1504) rfl ?_
  refine xg_callVC_I (kc := k) (ks := s) (st := []) (mX11_keep hl x1 h1 M hM) bX11_keep xcl11 h1 rfl xq_1194 rfl (by decide) (by decide) dL_law_1504 (Eq.refl 1507) rfl (by omega) (by omega) ?_ ?_
  · intro z1 M2 hz1 hM2
    refine xg_aload_n dL_law_1507 (Eq.refl 1508) rfl ?_
    refine xg_callVC_I (kc := k) (ks := s) (st := [iv z1]) (mX12_keep hl x2 h2 M2 hM2) bX12_keep xcl12 h2 rfl xq_1282 rfl (by decide) (Nat.le_of_ble_eq_true rfl) dL_law_1508 (Eq.refl 1511) rfl (by omega) (by omega) ?_ ?_
    · intro z3 M4 hz3 hM4
      refine xg_icmp_eq (tgt := 3031) dL_law_1511 (Eq.refl 1514) (by decide) hz1 hz3 ?_ ?_
      · exact xg_jump (gL_law_3031 hl tab nm sl sx hS hsl k s rc28 x1 h1 x2 h2 x3 h3 x4 h4 x5 h5 hr28 M4 hM4) (xsb_s (xsb_s (xsb_s (xsb_s (xsb_s (xsb_s (xsb_n (xsb_n (xsb_n xsb_0))))))))) (by omega) (by omega)
      · refine xg_iconst dL_law_1514 (Eq.refl 1515) ?_
        exact xg_zret rfl dL_law_1515 rfl hM4 (by decide)
    · intro e M9 he hM9
      exact xgx_none
  · intro e M9 he hM9
    exact xgx_none
theorem gL_law_1500 {l : Launch} {G : xG} (hl : l.stackTraces = false) (tab : List ExceptionTableEntry) (nm : String) (sl : Nat) (sx : Nat → Int32) (hS : G.2.2.2.1.2 = (sl, sx)) (hsl : sl ≤ 2147483647) (k s : Nat) (rc28 : Int → xM → xO) (x1 : Nat) (h1 : xOb 11 x1) (x2 : Nat) (h2 : xOb 12 x2) (x3 : Nat) (h3 : xAn 1 1 x3) (x4 : Nat) (h4 : xAn 2 1 x4) (x5 : Int) (h5 : R32 x5) (hr28 : ∀ w5 : Int, R32 w5 → ∀ M : xM, xcan M → Gv l G (uL_law tab nm) 21 1 k s 28 [some (.ref xSCR), some (.ref x1), some (.ref x2), some (.ref x3), some (.ref x4), some (iv w5), none, none, none] [] M (rc28 w5 M)) (M : xM) (hM : xcan M) : Gv l G (uL_law tab nm) 21 1 k s 1500 [some (.ref xSCR), some (.ref x1), some (.ref x2), some (.ref x3), some (.ref x4), some (iv x5), none, none, none] [] M (fL_law_1500 sl sx rc28 x1 x2 x3 x4 x5 M) := by
  unfold fL_law_1500
  refine xg_goto (tgt := 3031) dL_law_1500 (by decide) ?_
  exact xg_jump (gL_law_3031 hl tab nm sl sx hS hsl k s rc28 x1 h1 x2 h2 x3 h3 x4 h4 x5 h5 hr28 M hM) (xsb_s (xsb_s (xsb_s (xsb_s (xsb_s (xsb_s (xsb_n (xsb_n (xsb_n xsb_0))))))))) (by omega) (by omega)
theorem gL_law_1448 {l : Launch} {G : xG} (hl : l.stackTraces = false) (tab : List ExceptionTableEntry) (nm : String) (sl : Nat) (sx : Nat → Int32) (hS : G.2.2.2.1.2 = (sl, sx)) (hsl : sl ≤ 2147483647) (k s : Nat) (rc28 : Int → xM → xO) (x1 : Nat) (h1 : xOb 11 x1) (x2 : Nat) (h2 : xOb 12 x2) (x3 : Nat) (h3 : xAn 1 1 x3) (x4 : Nat) (h4 : xAn 2 1 x4) (x5 : Int) (h5 : R32 x5) (hr28 : ∀ w5 : Int, R32 w5 → ∀ M : xM, xcan M → Gv l G (uL_law tab nm) 21 1 k s 28 [some (.ref xSCR), some (.ref x1), some (.ref x2), some (.ref x3), some (.ref x4), some (iv w5), none, none, none] [] M (rc28 w5 M)) (M : xM) (hM : xcan M) : Gv l G (uL_law tab nm) 21 1 (k + 11) (s + 66) 1448 [some (.ref xSCR), some (.ref x1), some (.ref x2), some (.ref x3), some (.ref x4), some (iv x5), none, none, none] [] M (fL_law_1448 sl sx rc28 x1 x2 x3 x4 x5 M) := by
  unfold fL_law_1448
  refine xg_aload_n dL_law_1448 (Eq.refl 1449) rfl ?_
  refine xg_aload_n dL_law_1449 (Eq.refl 1450) rfl ?_
  refine xg_iload dL_law_1450 (Eq.refl 1452) rfl ?_
  refine xg_iconst dL_law_1452 (Eq.refl 1453) ?_
  refine xg_iadd dL_law_1453 (Eq.refl 1454) ?_
  refine xg_sld hS hsl dL_law_1454 (Eq.refl 1455) ?_
  refine xg_aload_n dL_law_1455 (Eq.refl 1456) rfl ?_
  refine xg_callWC_I (kc := k) (ks := s) (st := []) (mL_recall hl x1 h1 (sx (w32 (x5 + 1)).toNat).toInt (xsx_r _) x3 (xAn.l h3) M hM) bL_recall xq_1170 rfl (by decide) (by decide) dL_law_1456 (Eq.refl 1459) rfl (by omega) (by omega) ?_
  intro z1 M2 hz1 hM2
  refine xg_istore (ls2 := [some (.ref xSCR), some (.ref x1), some (.ref x2), some (.ref x3), some (.ref x4), some (iv x5), some (iv z1), none, none]) dL_law_1459 (Eq.refl 1461) (show 6 < 9 by decide) rfl ?_
  refine xg_aload_n dL_law_1461 (Eq.refl 1462) rfl ?_
  refine xg_aload_n dL_law_1462 (Eq.refl 1463) rfl ?_
  refine xg_iload dL_law_1463 (Eq.refl 1465) rfl ?_
  refine xg_iconst dL_law_1465 (Eq.refl 1466) ?_
  refine xg_iadd dL_law_1466 (Eq.refl 1467) ?_
  refine xg_sld hS hsl dL_law_1467 (Eq.refl 1468) ?_
  refine xg_callVC_J (kc := k) (ks := s) (st := []) (mX12_recall hl x2 h2 (sx (w32 (x5 + 1)).toNat).toInt (xsx_r _) M2 hM2) bX12_recall xcl12 h2 rfl xq_1186 rfl (by decide) (by decide) dL_law_1468 (Eq.refl 1471) rfl (by omega) (by omega) ?_ ?_
  · intro z3 M4 hz3 hM4
    refine xg_lstore (ls2 := [some (.ref xSCR), some (.ref x1), some (.ref x2), some (.ref x3), some (.ref x4), some (iv x5), some (iv z1), some (jv z3), none]) dL_law_1471 (Eq.refl 1473) (show 7 + 1 < 9 by decide) rfl ?_
    refine xg_aload_n dL_law_1473 (Eq.refl 1474) rfl ?_
    refine xg_callVC_I (kc := k) (ks := s) (st := []) (mX12_thrown hl x2 h2 M4 hM4) bX12_thrown xcl12 h2 rfl xq_192 rfl (by decide) (by decide) dL_law_1474 (Eq.refl 1477) rfl (by omega) (by omega) ?_ ?_
    · intro z5 M6 hz5 hM6
      refine xg_iload dL_law_1477 (Eq.refl 1479) rfl ?_
      refine xg_icmp_eq (tgt := 1484) dL_law_1479 (Eq.refl 1482) (by decide) hz5 hz1 ?_ ?_
      · refine xg_iload dL_law_1484 (Eq.refl 1486) rfl ?_
        refine xg_if_ne (tgt := 1500) dL_law_1486 (Eq.refl 1489) (by decide) hz1 ?_ ?_
        · refine xg_aload_n dL_law_1489 (Eq.refl 1490) rfl ?_
          refine xg_iconst dL_law_1490 (Eq.refl 1491) ?_
          refine xg_laldk (k := 0) h3 dL_law_1491 (Eq.refl 1492) rfl (by decide) ?_
          refine xg_lload dL_law_1492 (Eq.refl 1494) rfl ?_
          refine xg_lif_eq (tgt := 1500) dL_law_1494 (Eq.refl 1495) dL_law_1495 (Eq.refl 1498) (by decide) (hM6.aj h3) hz3 ?_ ?_
          · exact xg_jump (gL_law_1500 hl tab nm sl sx hS hsl k s rc28 x1 h1 x2 h2 x3 h3 x4 h4 x5 h5 hr28 M6 hM6) (xsb_s (xsb_s (xsb_s (xsb_s (xsb_s (xsb_s (xsb_n (xsb_n (xsb_n xsb_0))))))))) (by omega) (by omega)
          · refine xg_iconst dL_law_1498 (Eq.refl 1499) ?_
            exact xg_zret rfl dL_law_1499 rfl hM6 (by decide)
        · exact xg_jump (gL_law_1500 hl tab nm sl sx hS hsl k s rc28 x1 h1 x2 h2 x3 h3 x4 h4 x5 h5 hr28 M6 hM6) (xsb_s (xsb_s (xsb_s (xsb_s (xsb_s (xsb_s (xsb_n (xsb_n (xsb_n xsb_0))))))))) (by omega) (by omega)
      · refine xg_iconst dL_law_1482 (Eq.refl 1483) ?_
        exact xg_zret rfl dL_law_1483 rfl hM6 (by decide)
    · intro e M9 he hM9
      exact xgx_none
  · intro e M9 he hM9
    exact xgx_none
theorem gL_law_1435 {l : Launch} {G : xG} (hl : l.stackTraces = false) (tab : List ExceptionTableEntry) (nm : String) (sl : Nat) (sx : Nat → Int32) (hS : G.2.2.2.1.2 = (sl, sx)) (hsl : sl ≤ 2147483647) (k s : Nat) (rc28 : Int → xM → xO) (x1 : Nat) (h1 : xOb 11 x1) (x2 : Nat) (h2 : xOb 12 x2) (x3 : Nat) (h3 : xAn 1 1 x3) (x4 : Nat) (h4 : xAn 2 1 x4) (x5 : Int) (h5 : R32 x5) (hr28 : ∀ w5 : Int, R32 w5 → ∀ M : xM, xcan M → Gv l G (uL_law tab nm) 21 1 k s 28 [some (.ref xSCR), some (.ref x1), some (.ref x2), some (.ref x3), some (.ref x4), some (iv w5), none, none, none] [] M (rc28 w5 M)) (M : xM) (hM : xcan M) : Gv l G (uL_law tab nm) 21 1 k s 1435 [some (.ref xSCR), some (.ref x1), some (.ref x2), some (.ref x3), some (.ref x4), some (iv x5), none, none, none] [] M (fL_law_1435 sl sx rc28 x1 x2 x3 x4 x5 M) := by
  unfold fL_law_1435
  refine xg_aload_n dL_law_1435 (Eq.refl 1436) rfl ?_
  refine xg_callVC_I (kc := k) (ks := s) (st := []) (mX11_today hl x1 h1 M hM) bX11_today xcl11 h1 rfl xq_1162 rfl (by decide) (by decide) dL_law_1436 (Eq.refl 1439) rfl (by omega) (by omega) ?_ ?_
  · intro z1 M2 hz1 hM2
    refine xg_aload_n dL_law_1439 (Eq.refl 1440) rfl ?_
    refine xg_callVC_I (kc := k) (ks := s) (st := [iv z1]) (mX12_today hl x2 h2 M2 hM2) bX12_today xcl12 h2 rfl xq_1166 rfl (by decide) (Nat.le_of_ble_eq_true rfl) dL_law_1440 (Eq.refl 1443) rfl (by omega) (by omega) ?_ ?_
    · intro z3 M4 hz3 hM4
      refine xg_icmp_eq (tgt := 3031) dL_law_1443 (Eq.refl 1446) (by decide) hz1 hz3 ?_ ?_
      · exact xg_jump (gL_law_3031 hl tab nm sl sx hS hsl k s rc28 x1 h1 x2 h2 x3 h3 x4 h4 x5 h5 hr28 M4 hM4) (xsb_s (xsb_s (xsb_s (xsb_s (xsb_s (xsb_s (xsb_n (xsb_n (xsb_n xsb_0))))))))) (by omega) (by omega)
      · refine xg_iconst dL_law_1446 (Eq.refl 1447) ?_
        exact xg_zret rfl dL_law_1447 rfl hM4 (by decide)
    · intro e M9 he hM9
      exact xgx_none
  · intro e M9 he hM9
    exact xgx_none
theorem gL_law_1432 {l : Launch} {G : xG} (hl : l.stackTraces = false) (tab : List ExceptionTableEntry) (nm : String) (sl : Nat) (sx : Nat → Int32) (hS : G.2.2.2.1.2 = (sl, sx)) (hsl : sl ≤ 2147483647) (k s : Nat) (rc28 : Int → xM → xO) (x1 : Nat) (h1 : xOb 11 x1) (x2 : Nat) (h2 : xOb 12 x2) (x3 : Nat) (h3 : xAn 1 1 x3) (x4 : Nat) (h4 : xAn 2 1 x4) (x5 : Int) (h5 : R32 x5) (hr28 : ∀ w5 : Int, R32 w5 → ∀ M : xM, xcan M → Gv l G (uL_law tab nm) 21 1 k s 28 [some (.ref xSCR), some (.ref x1), some (.ref x2), some (.ref x3), some (.ref x4), some (iv w5), none, none, none] [] M (rc28 w5 M)) (M : xM) (hM : xcan M) : Gv l G (uL_law tab nm) 21 1 k s 1432 [some (.ref xSCR), some (.ref x1), some (.ref x2), some (.ref x3), some (.ref x4), some (iv x5), none, none, none] [] M (fL_law_1432 sl sx rc28 x1 x2 x3 x4 x5 M) := by
  unfold fL_law_1432
  refine xg_goto (tgt := 3031) dL_law_1432 (by decide) ?_
  exact xg_jump (gL_law_3031 hl tab nm sl sx hS hsl k s rc28 x1 h1 x2 h2 x3 h3 x4 h4 x5 h5 hr28 M hM) (xsb_s (xsb_s (xsb_s (xsb_s (xsb_s (xsb_s (xsb_n (xsb_n (xsb_n xsb_0))))))))) (by omega) (by omega)
theorem gL_law_1391 {l : Launch} {G : xG} (hl : l.stackTraces = false) (tab : List ExceptionTableEntry) (nm : String) (sl : Nat) (sx : Nat → Int32) (hS : G.2.2.2.1.2 = (sl, sx)) (hsl : sl ≤ 2147483647) (k s : Nat) (rc28 : Int → xM → xO) (x1 : Nat) (h1 : xOb 11 x1) (x2 : Nat) (h2 : xOb 12 x2) (x3 : Nat) (h3 : xAn 1 1 x3) (x4 : Nat) (h4 : xAn 2 1 x4) (x5 : Int) (h5 : R32 x5) (hr28 : ∀ w5 : Int, R32 w5 → ∀ M : xM, xcan M → Gv l G (uL_law tab nm) 21 1 k s 28 [some (.ref xSCR), some (.ref x1), some (.ref x2), some (.ref x3), some (.ref x4), some (iv w5), none, none, none] [] M (rc28 w5 M)) (M : xM) (hM : xcan M) : Gv l G (uL_law tab nm) 21 1 (k + 11) (s + 66) 1391 [some (.ref xSCR), some (.ref x1), some (.ref x2), some (.ref x3), some (.ref x4), some (iv x5), none, none, none] [] M (fL_law_1391 sl sx rc28 x1 x2 x3 x4 x5 M) := by
  unfold fL_law_1391
  refine xg_aload_n dL_law_1391 (Eq.refl 1392) rfl ?_
  refine xg_aload_n dL_law_1392 (Eq.refl 1393) rfl ?_
  refine xg_callWC_I (kc := k) (ks := s) (st := []) (mL_endDay hl x1 h1 x3 (xAn.l h3) M hM) bL_endDay xq_915 rfl (by decide) (by decide) dL_law_1393 (Eq.refl 1396) rfl (by omega) (by omega) ?_
  intro z1 M2 hz1 hM2
  refine xg_istore (ls2 := [some (.ref xSCR), some (.ref x1), some (.ref x2), some (.ref x3), some (.ref x4), some (iv x5), some (iv z1), none, none]) dL_law_1396 (Eq.refl 1398) (show 6 < 9 by decide) rfl ?_
  refine xg_aload_n dL_law_1398 (Eq.refl 1399) rfl ?_
  refine xg_callVC_I (kc := k) (ks := s) (st := []) (mX12_endDay hl x2 h2 M2 hM2) bX12_endDay xcl12 h2 rfl xq_1103 rfl (by decide) (by decide) dL_law_1399 (Eq.refl 1402) rfl (by omega) (by omega) ?_ ?_
  · intro z3 M4 hz3 hM4
    refine xg_istore (ls2 := [some (.ref xSCR), some (.ref x1), some (.ref x2), some (.ref x3), some (.ref x4), some (iv x5), some (iv z1), some (iv z3), none]) dL_law_1402 (Eq.refl 1404) (show 7 < 9 by decide) rfl ?_
    refine xg_aload_n dL_law_1404 (Eq.refl 1405) rfl ?_
    refine xg_callVC_I (kc := k) (ks := s) (st := []) (mX12_thrown hl x2 h2 M4 hM4) bX12_thrown xcl12 h2 rfl xq_192 rfl (by decide) (by decide) dL_law_1405 (Eq.refl 1408) rfl (by omega) (by omega) ?_ ?_
    · intro z5 M6 hz5 hM6
      refine xg_iload dL_law_1408 (Eq.refl 1410) rfl ?_
      refine xg_icmp_eq (tgt := 1415) dL_law_1410 (Eq.refl 1413) (by decide) hz5 hz1 ?_ ?_
      · refine xg_iload dL_law_1415 (Eq.refl 1417) rfl ?_
        refine xg_if_ne (tgt := 1432) dL_law_1417 (Eq.refl 1420) (by decide) hz1 ?_ ?_
        · refine xg_aload_n dL_law_1420 (Eq.refl 1421) rfl ?_
          refine xg_iconst dL_law_1421 (Eq.refl 1422) ?_
          refine xg_laldk (k := 0) h3 dL_law_1422 (Eq.refl 1423) rfl (by decide) ?_
          refine xg_iload dL_law_1423 (Eq.refl 1425) rfl ?_
          refine xg_i2l dL_law_1425 (Eq.refl 1426) hz3 ?_
          refine xg_lif_eq (tgt := 1432) dL_law_1426 (Eq.refl 1427) dL_law_1427 (Eq.refl 1430) (by decide) (hM6.aj h3) (R32.j hz3) ?_ ?_
          · exact xg_jump (gL_law_1432 hl tab nm sl sx hS hsl k s rc28 x1 h1 x2 h2 x3 h3 x4 h4 x5 h5 hr28 M6 hM6) (xsb_s (xsb_s (xsb_s (xsb_s (xsb_s (xsb_s (xsb_n (xsb_n (xsb_n xsb_0))))))))) (by omega) (by omega)
          · refine xg_iconst dL_law_1430 (Eq.refl 1431) ?_
            exact xg_zret rfl dL_law_1431 rfl hM6 (by decide)
        · exact xg_jump (gL_law_1432 hl tab nm sl sx hS hsl k s rc28 x1 h1 x2 h2 x3 h3 x4 h4 x5 h5 hr28 M6 hM6) (xsb_s (xsb_s (xsb_s (xsb_s (xsb_s (xsb_s (xsb_n (xsb_n (xsb_n xsb_0))))))))) (by omega) (by omega)
      · refine xg_iconst dL_law_1413 (Eq.refl 1414) ?_
        exact xg_zret rfl dL_law_1414 rfl hM6 (by decide)
    · intro e M9 he hM9
      exact xgx_none
  · intro e M9 he hM9
    exact xgx_none
theorem gL_law_1377 {l : Launch} {G : xG} (hl : l.stackTraces = false) (tab : List ExceptionTableEntry) (nm : String) (sl : Nat) (sx : Nat → Int32) (hS : G.2.2.2.1.2 = (sl, sx)) (hsl : sl ≤ 2147483647) (k s : Nat) (rc28 : Int → xM → xO) (x1 : Nat) (h1 : xOb 11 x1) (x2 : Nat) (h2 : xOb 12 x2) (x3 : Nat) (h3 : xAn 1 1 x3) (x4 : Nat) (h4 : xAn 2 1 x4) (x5 : Int) (h5 : R32 x5) (hr28 : ∀ w5 : Int, R32 w5 → ∀ M : xM, xcan M → Gv l G (uL_law tab nm) 21 1 k s 28 [some (.ref xSCR), some (.ref x1), some (.ref x2), some (.ref x3), some (.ref x4), some (iv w5), none, none, none] [] M (rc28 w5 M)) (M : xM) (hM : xcan M) : Gv l G (uL_law tab nm) 21 1 k s 1377 [some (.ref xSCR), some (.ref x1), some (.ref x2), some (.ref x3), some (.ref x4), some (iv x5), none, none, none] [] M (fL_law_1377 sl sx rc28 x1 x2 x3 x4 x5 M) := by
  unfold fL_law_1377
  refine xg_aload_n dL_law_1377 (Eq.refl 1378) rfl ?_
  refine xg_callVC_J (kc := k) (ks := s) (st := []) (mX11_bestByAll hl x1 h1 M hM) bX11_bestByAll xcl11 h1 rfl xq_902 rfl (by decide) (by decide) dL_law_1378 (Eq.refl 1381) rfl (by omega) (by omega) ?_ ?_
  · intro z1 M2 hz1 hM2
    refine xg_aload_n dL_law_1381 (Eq.refl 1382) rfl ?_
    refine xg_callVC_J (kc := k) (ks := s) (st := [jv z1]) (mX12_bestByAll hl x2 h2 M2 hM2) bX12_bestByAll xcl12 h2 rfl xq_910 rfl (by decide) (Nat.le_of_ble_eq_true rfl) dL_law_1382 (Eq.refl 1385) rfl (by omega) (by omega) ?_ ?_
    · intro z3 M4 hz3 hM4
      refine xg_lif_eq (tgt := 3031) dL_law_1385 (Eq.refl 1386) dL_law_1386 (Eq.refl 1389) (by decide) hz1 hz3 ?_ ?_
      · exact xg_jump (gL_law_3031 hl tab nm sl sx hS hsl k s rc28 x1 h1 x2 h2 x3 h3 x4 h4 x5 h5 hr28 M4 hM4) (xsb_s (xsb_s (xsb_s (xsb_s (xsb_s (xsb_s (xsb_n (xsb_n (xsb_n xsb_0))))))))) (by omega) (by omega)
      · refine xg_iconst dL_law_1389 (Eq.refl 1390) ?_
        exact xg_zret rfl dL_law_1390 rfl hM4 (by decide)
    · intro e M9 he hM9
      exact xgx_none
  · intro e M9 he hM9
    exact xgx_none
theorem gL_law_1363 {l : Launch} {G : xG} (hl : l.stackTraces = false) (tab : List ExceptionTableEntry) (nm : String) (sl : Nat) (sx : Nat → Int32) (hS : G.2.2.2.1.2 = (sl, sx)) (hsl : sl ≤ 2147483647) (k s : Nat) (rc28 : Int → xM → xO) (x1 : Nat) (h1 : xOb 11 x1) (x2 : Nat) (h2 : xOb 12 x2) (x3 : Nat) (h3 : xAn 1 1 x3) (x4 : Nat) (h4 : xAn 2 1 x4) (x5 : Int) (h5 : R32 x5) (hr28 : ∀ w5 : Int, R32 w5 → ∀ M : xM, xcan M → Gv l G (uL_law tab nm) 21 1 k s 28 [some (.ref xSCR), some (.ref x1), some (.ref x2), some (.ref x3), some (.ref x4), some (iv w5), none, none, none] [] M (rc28 w5 M)) (M : xM) (hM : xcan M) : Gv l G (uL_law tab nm) 21 1 k s 1363 [some (.ref xSCR), some (.ref x1), some (.ref x2), some (.ref x3), some (.ref x4), some (iv x5), none, none, none] [] M (fL_law_1363 sl sx rc28 x1 x2 x3 x4 x5 M) := by
  unfold fL_law_1363
  refine xg_aload_n dL_law_1363 (Eq.refl 1364) rfl ?_
  refine xg_callVC_J (kc := k) (ks := s) (st := []) (mX11_best hl x1 h1 M hM) bX11_best xcl11 h1 rfl xq_894 rfl (by decide) (by decide) dL_law_1364 (Eq.refl 1367) rfl (by omega) (by omega) ?_ ?_
  · intro z1 M2 hz1 hM2
    refine xg_aload_n dL_law_1367 (Eq.refl 1368) rfl ?_
    refine xg_callVC_J (kc := k) (ks := s) (st := [jv z1]) (mX12_best hl x2 h2 M2 hM2) bX12_best xcl12 h2 rfl xq_898 rfl (by decide) (Nat.le_of_ble_eq_true rfl) dL_law_1368 (Eq.refl 1371) rfl (by omega) (by omega) ?_ ?_
    · intro z3 M4 hz3 hM4
      refine xg_lif_eq (tgt := 3031) dL_law_1371 (Eq.refl 1372) dL_law_1372 (Eq.refl 1375) (by decide) hz1 hz3 ?_ ?_
      · exact xg_jump (gL_law_3031 hl tab nm sl sx hS hsl k s rc28 x1 h1 x2 h2 x3 h3 x4 h4 x5 h5 hr28 M4 hM4) (xsb_s (xsb_s (xsb_s (xsb_s (xsb_s (xsb_s (xsb_n (xsb_n (xsb_n xsb_0))))))))) (by omega) (by omega)
      · refine xg_iconst dL_law_1375 (Eq.refl 1376) ?_
        exact xg_zret rfl dL_law_1376 rfl hM4 (by decide)
    · intro e M9 he hM9
      exact xgx_none
  · intro e M9 he hM9
    exact xgx_none
theorem gL_law_1350 {l : Launch} {G : xG} (hl : l.stackTraces = false) (tab : List ExceptionTableEntry) (nm : String) (sl : Nat) (sx : Nat → Int32) (hS : G.2.2.2.1.2 = (sl, sx)) (hsl : sl ≤ 2147483647) (k s : Nat) (rc28 : Int → xM → xO) (x1 : Nat) (h1 : xOb 11 x1) (x2 : Nat) (h2 : xOb 12 x2) (x3 : Nat) (h3 : xAn 1 1 x3) (x4 : Nat) (h4 : xAn 2 1 x4) (x5 : Int) (h5 : R32 x5) (hr28 : ∀ w5 : Int, R32 w5 → ∀ M : xM, xcan M → Gv l G (uL_law tab nm) 21 1 k s 28 [some (.ref xSCR), some (.ref x1), some (.ref x2), some (.ref x3), some (.ref x4), some (iv w5), none, none, none] [] M (rc28 w5 M)) (M : xM) (hM : xcan M) : Gv l G (uL_law tab nm) 21 1 k s 1350 [some (.ref xSCR), some (.ref x1), some (.ref x2), some (.ref x3), some (.ref x4), some (iv x5), none, none, none] [] M (fL_law_1350 sl sx rc28 x1 x2 x3 x4 x5 M) := by
  unfold fL_law_1350
  refine xg_aload_n dL_law_1350 (Eq.refl 1351) rfl ?_
  refine xg_callVC_I (kc := k) (ks := s) (st := []) (mX11_cycle hl x1 h1 M hM) bX11_cycle xcl11 h1 rfl xq_611 rfl (by decide) (by decide) dL_law_1351 (Eq.refl 1354) rfl (by omega) (by omega) ?_ ?_
  · intro z1 M2 hz1 hM2
    refine xg_aload_n dL_law_1354 (Eq.refl 1355) rfl ?_
    refine xg_callVC_I (kc := k) (ks := s) (st := [iv z1]) (mX12_cycle hl x2 h2 M2 hM2) bX12_cycle xcl12 h2 rfl xq_809 rfl (by decide) (Nat.le_of_ble_eq_true rfl) dL_law_1355 (Eq.refl 1358) rfl (by omega) (by omega) ?_ ?_
    · intro z3 M4 hz3 hM4
      refine xg_icmp_eq (tgt := 3031) dL_law_1358 (Eq.refl 1361) (by decide) hz1 hz3 ?_ ?_
      · exact xg_jump (gL_law_3031 hl tab nm sl sx hS hsl k s rc28 x1 h1 x2 h2 x3 h3 x4 h4 x5 h5 hr28 M4 hM4) (xsb_s (xsb_s (xsb_s (xsb_s (xsb_s (xsb_s (xsb_n (xsb_n (xsb_n xsb_0))))))))) (by omega) (by omega)
      · refine xg_iconst dL_law_1361 (Eq.refl 1362) ?_
        exact xg_zret rfl dL_law_1362 rfl hM4 (by decide)
    · intro e M9 he hM9
      exact xgx_none
  · intro e M9 he hM9
    exact xgx_none
theorem gL_law_1347 {l : Launch} {G : xG} (hl : l.stackTraces = false) (tab : List ExceptionTableEntry) (nm : String) (sl : Nat) (sx : Nat → Int32) (hS : G.2.2.2.1.2 = (sl, sx)) (hsl : sl ≤ 2147483647) (k s : Nat) (rc28 : Int → xM → xO) (x1 : Nat) (h1 : xOb 11 x1) (x2 : Nat) (h2 : xOb 12 x2) (x3 : Nat) (h3 : xAn 1 1 x3) (x4 : Nat) (h4 : xAn 2 1 x4) (x5 : Int) (h5 : R32 x5) (hr28 : ∀ w5 : Int, R32 w5 → ∀ M : xM, xcan M → Gv l G (uL_law tab nm) 21 1 k s 28 [some (.ref xSCR), some (.ref x1), some (.ref x2), some (.ref x3), some (.ref x4), some (iv w5), none, none, none] [] M (rc28 w5 M)) (M : xM) (hM : xcan M) : Gv l G (uL_law tab nm) 21 1 k s 1347 [some (.ref xSCR), some (.ref x1), some (.ref x2), some (.ref x3), some (.ref x4), some (iv x5), none, none, none] [] M (fL_law_1347 sl sx rc28 x1 x2 x3 x4 x5 M) := by
  unfold fL_law_1347
  refine xg_goto (tgt := 3031) dL_law_1347 (by decide) ?_
  exact xg_jump (gL_law_3031 hl tab nm sl sx hS hsl k s rc28 x1 h1 x2 h2 x3 h3 x4 h4 x5 h5 hr28 M hM) (xsb_s (xsb_s (xsb_s (xsb_s (xsb_s (xsb_s (xsb_n (xsb_n (xsb_n xsb_0))))))))) (by omega) (by omega)
theorem gL_law_1314 {l : Launch} {G : xG} (hl : l.stackTraces = false) (tab : List ExceptionTableEntry) (nm : String) (sl : Nat) (sx : Nat → Int32) (hS : G.2.2.2.1.2 = (sl, sx)) (hsl : sl ≤ 2147483647) (k s : Nat) (rc28 : Int → xM → xO) (x1 : Nat) (h1 : xOb 11 x1) (x2 : Nat) (h2 : xOb 12 x2) (x3 : Nat) (h3 : xAn 1 1 x3) (x4 : Nat) (h4 : xAn 2 1 x4) (x5 : Int) (h5 : R32 x5) (x6 : Int) (h6 : R32 x6) (s0 : Int) (hs0 : B01 s0) (s1 : Int) (hs1 : R32 s1) (s2 : Int) (hs2 : R32 s2) (s3 : Nat) (hs3 : xOb 12 s3) (hr28 : ∀ w5 : Int, R32 w5 → ∀ M : xM, xcan M → Gv l G (uL_law tab nm) 21 1 k s 28 [some (.ref xSCR), some (.ref x1), some (.ref x2), some (.ref x3), some (.ref x4), some (iv w5), none, none, none] [] M (rc28 w5 M)) (M : xM) (hM : xcan M) : Gv l G (uL_law tab nm) 21 1 k s 1314 [some (.ref xSCR), some (.ref x1), some (.ref x2), some (.ref x3), some (.ref x4), some (iv x5), some (iv x6), none, none] [iv s0, iv s1, iv s2, .ref s3] M (fL_law_1314 sl sx rc28 x1 x2 x3 x4 x5 x6 s0 s1 s2 s3 M) := by
  unfold fL_law_1314
  refine xg_callVC_I (kc := k) (ks := s) (st := []) (mX12_link hl s3 hs3 s2 hs2 s1 hs1 s0 hs0 M hM) bX12_link xcl12 hs3 rfl xq_603 rfl (by decide) (by decide) dL_law_1314 (Eq.refl 1317) rfl (by omega) (by omega) ?_ ?_
  · intro z1 M2 hz1 hM2
    refine xg_istore (ls2 := [some (.ref xSCR), some (.ref x1), some (.ref x2), some (.ref x3), some (.ref x4), some (iv x5), some (iv x6), some (iv z1), none]) dL_law_1317 (Eq.refl 1319) (show 7 < 9 by decide) rfl ?_
    refine xg_aload_n dL_law_1319 (Eq.refl 1320) rfl ?_
    refine xg_callVC_I (kc := k) (ks := s) (st := []) (mX12_thrown hl x2 h2 M2 hM2) bX12_thrown xcl12 h2 rfl xq_192 rfl (by decide) (by decide) dL_law_1320 (Eq.refl 1323) rfl (by omega) (by omega) ?_ ?_
    · intro z3 M4 hz3 hM4
      refine xg_iload dL_law_1323 (Eq.refl 1325) rfl ?_
      refine xg_icmp_eq (tgt := 1330) dL_law_1325 (Eq.refl 1328) (by decide) hz3 h6 ?_ ?_
      · refine xg_iload dL_law_1330 (Eq.refl 1332) rfl ?_
        refine xg_if_ne (tgt := 1347) dL_law_1332 (Eq.refl 1335) (by decide) h6 ?_ ?_
        · refine xg_aload_n dL_law_1335 (Eq.refl 1336) rfl ?_
          refine xg_iconst dL_law_1336 (Eq.refl 1337) ?_
          refine xg_laldk (k := 0) h3 dL_law_1337 (Eq.refl 1338) rfl (by decide) ?_
          refine xg_iload dL_law_1338 (Eq.refl 1340) rfl ?_
          refine xg_i2l dL_law_1340 (Eq.refl 1341) hz1 ?_
          refine xg_lif_eq (tgt := 1347) dL_law_1341 (Eq.refl 1342) dL_law_1342 (Eq.refl 1345) (by decide) (hM4.aj h3) (R32.j hz1) ?_ ?_
          · exact xg_jump (gL_law_1347 hl tab nm sl sx hS hsl k s rc28 x1 h1 x2 h2 x3 h3 x4 h4 x5 h5 hr28 M4 hM4) (xsb_s (xsb_s (xsb_s (xsb_s (xsb_s (xsb_s (xsb_n (xsb_n (xsb_n xsb_0))))))))) (by omega) (by omega)
          · refine xg_iconst dL_law_1345 (Eq.refl 1346) ?_
            exact xg_zret rfl dL_law_1346 rfl hM4 (by decide)
        · exact xg_jump (gL_law_1347 hl tab nm sl sx hS hsl k s rc28 x1 h1 x2 h2 x3 h3 x4 h4 x5 h5 hr28 M4 hM4) (xsb_s (xsb_s (xsb_s (xsb_s (xsb_s (xsb_s (xsb_n (xsb_n (xsb_n xsb_0))))))))) (by omega) (by omega)
      · refine xg_iconst dL_law_1328 (Eq.refl 1329) ?_
        exact xg_zret rfl dL_law_1329 rfl hM4 (by decide)
    · intro e M9 he hM9
      exact xgx_none
  · intro e M9 he hM9
    exact xgx_none
theorem gL_law_1281 {l : Launch} {G : xG} (hl : l.stackTraces = false) (tab : List ExceptionTableEntry) (nm : String) (sl : Nat) (sx : Nat → Int32) (hS : G.2.2.2.1.2 = (sl, sx)) (hsl : sl ≤ 2147483647) (k s : Nat) (rc28 : Int → xM → xO) (x1 : Nat) (h1 : xOb 11 x1) (x2 : Nat) (h2 : xOb 12 x2) (x3 : Nat) (h3 : xAn 1 1 x3) (x4 : Nat) (h4 : xAn 2 1 x4) (x5 : Int) (h5 : R32 x5) (s0 : Int) (hs0 : B01 s0) (s1 : Int) (hs1 : R32 s1) (s2 : Int) (hs2 : R32 s2) (s3 : Nat) (hs3 : xOb 11 s3) (hr28 : ∀ w5 : Int, R32 w5 → ∀ M : xM, xcan M → Gv l G (uL_law tab nm) 21 1 k s 28 [some (.ref xSCR), some (.ref x1), some (.ref x2), some (.ref x3), some (.ref x4), some (iv w5), none, none, none] [] M (rc28 w5 M)) (M : xM) (hM : xcan M) : Gv l G (uL_law tab nm) 21 1 (k + 11) (s + 66) 1281 [some (.ref xSCR), some (.ref x1), some (.ref x2), some (.ref x3), some (.ref x4), some (iv x5), none, none, none] [iv s0, iv s1, iv s2, .ref s3] M (fL_law_1281 sl sx rc28 x1 x2 x3 x4 x5 s0 s1 s2 s3 M) := by
  unfold fL_law_1281
  refine xg_aload_n dL_law_1281 (Eq.refl 1282) rfl ?_
  refine xg_callWC_I (kc := k) (ks := s) (st := []) (mL_link hl s3 hs3 s2 hs2 s1 hs1 s0 hs0 x3 (xAn.l h3) M hM) bL_link xq_582 rfl (by decide) (by decide) dL_law_1282 (Eq.refl 1285) rfl (by omega) (by omega) ?_
  intro z1 M2 hz1 hM2
  refine xg_istore (ls2 := [some (.ref xSCR), some (.ref x1), some (.ref x2), some (.ref x3), some (.ref x4), some (iv x5), some (iv z1), none, none]) dL_law_1285 (Eq.refl 1287) (show 6 < 9 by decide) rfl ?_
  refine xg_aload_n dL_law_1287 (Eq.refl 1288) rfl ?_
  refine xg_aload_n dL_law_1288 (Eq.refl 1289) rfl ?_
  refine xg_iload dL_law_1289 (Eq.refl 1291) rfl ?_
  refine xg_iconst dL_law_1291 (Eq.refl 1292) ?_
  refine xg_iadd dL_law_1292 (Eq.refl 1293) ?_
  refine xg_sld hS hsl dL_law_1293 (Eq.refl 1294) ?_
  refine xg_aload_n dL_law_1294 (Eq.refl 1295) rfl ?_
  refine xg_iload dL_law_1295 (Eq.refl 1297) rfl ?_
  refine xg_iconst dL_law_1297 (Eq.refl 1298) ?_
  refine xg_iadd dL_law_1298 (Eq.refl 1299) ?_
  refine xg_sld hS hsl dL_law_1299 (Eq.refl 1300) ?_
  refine xg_aload_n dL_law_1300 (Eq.refl 1301) rfl ?_
  refine xg_iload dL_law_1301 (Eq.refl 1303) rfl ?_
  refine xg_iconst dL_law_1303 (Eq.refl 1304) ?_
  refine xg_iadd dL_law_1304 (Eq.refl 1305) ?_
  refine xg_sld hS hsl dL_law_1305 (Eq.refl 1306) ?_
  refine xg_if_eq (tgt := 1313) dL_law_1306 (Eq.refl 1309) (by decide) (xsx_r _) ?_ ?_
  · refine xg_iconst dL_law_1313 (Eq.refl 1314) ?_
    exact xg_jump (gL_law_1314 hl tab nm sl sx hS hsl k s rc28 x1 h1 x2 h2 x3 h3 x4 h4 x5 h5 z1 hz1 0 (by decide) (sx (w32 (x5 + 2)).toNat).toInt (xsx_r _) (sx (w32 (x5 + 1)).toNat).toInt (xsx_r _) x2 h2 hr28 M2 hM2) (xsb_s (xsb_s (xsb_s (xsb_s (xsb_s (xsb_s (xsb_s (xsb_n (xsb_n xsb_0))))))))) (by omega) (by omega)
  · refine xg_iconst dL_law_1309 (Eq.refl 1310) ?_
    refine xg_goto (tgt := 1314) dL_law_1310 (by decide) ?_
    exact xg_jump (gL_law_1314 hl tab nm sl sx hS hsl k s rc28 x1 h1 x2 h2 x3 h3 x4 h4 x5 h5 z1 hz1 1 (by decide) (sx (w32 (x5 + 2)).toNat).toInt (xsx_r _) (sx (w32 (x5 + 1)).toNat).toInt (xsx_r _) x2 h2 hr28 M2 hM2) (xsb_s (xsb_s (xsb_s (xsb_s (xsb_s (xsb_s (xsb_s (xsb_n (xsb_n xsb_0))))))))) (by omega) (by omega)
theorem gL_law_1254 {l : Launch} {G : xG} (hl : l.stackTraces = false) (tab : List ExceptionTableEntry) (nm : String) (sl : Nat) (sx : Nat → Int32) (hS : G.2.2.2.1.2 = (sl, sx)) (hsl : sl ≤ 2147483647) (k s : Nat) (rc28 : Int → xM → xO) (x1 : Nat) (h1 : xOb 11 x1) (x2 : Nat) (h2 : xOb 12 x2) (x3 : Nat) (h3 : xAn 1 1 x3) (x4 : Nat) (h4 : xAn 2 1 x4) (x5 : Int) (h5 : R32 x5) (hr28 : ∀ w5 : Int, R32 w5 → ∀ M : xM, xcan M → Gv l G (uL_law tab nm) 21 1 k s 28 [some (.ref xSCR), some (.ref x1), some (.ref x2), some (.ref x3), some (.ref x4), some (iv w5), none, none, none] [] M (rc28 w5 M)) (M : xM) (hM : xcan M) : Gv l G (uL_law tab nm) 21 1 (k + 11) (s + 66) 1254 [some (.ref xSCR), some (.ref x1), some (.ref x2), some (.ref x3), some (.ref x4), some (iv x5), none, none, none] [] M (fL_law_1254 sl sx rc28 x1 x2 x3 x4 x5 M) := by
  unfold fL_law_1254
  refine xg_aload_n dL_law_1254 (Eq.refl 1255) rfl ?_
  refine xg_aload_n dL_law_1255 (Eq.refl 1256) rfl ?_
  refine xg_iload dL_law_1256 (Eq.refl 1258) rfl ?_
  refine xg_iconst dL_law_1258 (Eq.refl 1259) ?_
  refine xg_iadd dL_law_1259 (Eq.refl 1260) ?_
  refine xg_sld hS hsl dL_law_1260 (Eq.refl 1261) ?_
  refine xg_aload_n dL_law_1261 (Eq.refl 1262) rfl ?_
  refine xg_iload dL_law_1262 (Eq.refl 1264) rfl ?_
  refine xg_iconst dL_law_1264 (Eq.refl 1265) ?_
  refine xg_iadd dL_law_1265 (Eq.refl 1266) ?_
  refine xg_sld hS hsl dL_law_1266 (Eq.refl 1267) ?_
  refine xg_aload_n dL_law_1267 (Eq.refl 1268) rfl ?_
  refine xg_iload dL_law_1268 (Eq.refl 1270) rfl ?_
  refine xg_iconst dL_law_1270 (Eq.refl 1271) ?_
  refine xg_iadd dL_law_1271 (Eq.refl 1272) ?_
  refine xg_sld hS hsl dL_law_1272 (Eq.refl 1273) ?_
  refine xg_if_eq (tgt := 1280) dL_law_1273 (Eq.refl 1276) (by decide) (xsx_r _) ?_ ?_
  · refine xg_iconst dL_law_1280 (Eq.refl 1281) ?_
    exact xg_jump (gL_law_1281 hl tab nm sl sx hS hsl k s rc28 x1 h1 x2 h2 x3 h3 x4 h4 x5 h5 0 (by decide) (sx (w32 (x5 + 2)).toNat).toInt (xsx_r _) (sx (w32 (x5 + 1)).toNat).toInt (xsx_r _) x1 h1 hr28 M hM) (xsb_s (xsb_s (xsb_s (xsb_s (xsb_s (xsb_s (xsb_n (xsb_n (xsb_n xsb_0))))))))) (by omega) (by omega)
  · refine xg_iconst dL_law_1276 (Eq.refl 1277) ?_
    refine xg_goto (tgt := 1281) dL_law_1277 (by decide) ?_
    exact xg_jump (gL_law_1281 hl tab nm sl sx hS hsl k s rc28 x1 h1 x2 h2 x3 h3 x4 h4 x5 h5 1 (by decide) (sx (w32 (x5 + 2)).toNat).toInt (xsx_r _) (sx (w32 (x5 + 1)).toNat).toInt (xsx_r _) x1 h1 hr28 M hM) (xsb_s (xsb_s (xsb_s (xsb_s (xsb_s (xsb_s (xsb_n (xsb_n (xsb_n xsb_0))))))))) (by omega) (by omega)
theorem gL_law_1251 {l : Launch} {G : xG} (hl : l.stackTraces = false) (tab : List ExceptionTableEntry) (nm : String) (sl : Nat) (sx : Nat → Int32) (hS : G.2.2.2.1.2 = (sl, sx)) (hsl : sl ≤ 2147483647) (k s : Nat) (rc28 : Int → xM → xO) (x1 : Nat) (h1 : xOb 11 x1) (x2 : Nat) (h2 : xOb 12 x2) (x3 : Nat) (h3 : xAn 1 1 x3) (x4 : Nat) (h4 : xAn 2 1 x4) (x5 : Int) (h5 : R32 x5) (hr28 : ∀ w5 : Int, R32 w5 → ∀ M : xM, xcan M → Gv l G (uL_law tab nm) 21 1 k s 28 [some (.ref xSCR), some (.ref x1), some (.ref x2), some (.ref x3), some (.ref x4), some (iv w5), none, none, none] [] M (rc28 w5 M)) (M : xM) (hM : xcan M) : Gv l G (uL_law tab nm) 21 1 k s 1251 [some (.ref xSCR), some (.ref x1), some (.ref x2), some (.ref x3), some (.ref x4), some (iv x5), none, none, none] [] M (fL_law_1251 sl sx rc28 x1 x2 x3 x4 x5 M) := by
  unfold fL_law_1251
  refine xg_goto (tgt := 3031) dL_law_1251 (by decide) ?_
  exact xg_jump (gL_law_3031 hl tab nm sl sx hS hsl k s rc28 x1 h1 x2 h2 x3 h3 x4 h4 x5 h5 hr28 M hM) (xsb_s (xsb_s (xsb_s (xsb_s (xsb_s (xsb_s (xsb_n (xsb_n (xsb_n xsb_0))))))))) (by omega) (by omega)
theorem gL_law_1245 {l : Launch} {G : xG} (hl : l.stackTraces = false) (tab : List ExceptionTableEntry) (nm : String) (sl : Nat) (sx : Nat → Int32) (hS : G.2.2.2.1.2 = (sl, sx)) (hsl : sl ≤ 2147483647) (k s : Nat) (rc28 : Int → xM → xO) (x1 : Nat) (h1 : xOb 11 x1) (x2 : Nat) (h2 : xOb 12 x2) (x3 : Nat) (h3 : xAn 1 1 x3) (x4 : Nat) (h4 : xAn 2 1 x4) (x5 : Int) (h5 : R32 x5) (s0 : Int) (hs0 : R64 s0) (s1 : Int) (hs1 : R64 s1) (hr28 : ∀ w5 : Int, R32 w5 → ∀ M : xM, xcan M → Gv l G (uL_law tab nm) 21 1 k s 28 [some (.ref xSCR), some (.ref x1), some (.ref x2), some (.ref x3), some (.ref x4), some (iv w5), none, none, none] [] M (rc28 w5 M)) (M : xM) (hM : xcan M) : Gv l G (uL_law tab nm) 21 1 k s 1245 [some (.ref xSCR), some (.ref x1), some (.ref x2), some (.ref x3), some (.ref x4), some (iv x5), none, none, none] [jv s0, jv s1] M (fL_law_1245 sl sx rc28 x1 x2 x3 x4 x5 s0 s1 M) := by
  unfold fL_law_1245
  refine xg_lif_eq (tgt := 1251) dL_law_1245 (Eq.refl 1246) dL_law_1246 (Eq.refl 1249) (by decide) hs1 hs0 ?_ ?_
  · exact xg_jump (gL_law_1251 hl tab nm sl sx hS hsl k s rc28 x1 h1 x2 h2 x3 h3 x4 h4 x5 h5 hr28 M hM) (xsb_s (xsb_s (xsb_s (xsb_s (xsb_s (xsb_s (xsb_n (xsb_n (xsb_n xsb_0))))))))) (by omega) (by omega)
  · refine xg_iconst dL_law_1249 (Eq.refl 1250) ?_
    exact xg_zret rfl dL_law_1250 rfl hM (by decide)
theorem gL_law_1191 {l : Launch} {G : xG} (hl : l.stackTraces = false) (tab : List ExceptionTableEntry) (nm : String) (sl : Nat) (sx : Nat → Int32) (hS : G.2.2.2.1.2 = (sl, sx)) (hsl : sl ≤ 2147483647) (k s : Nat) (rc28 : Int → xM → xO) (x1 : Nat) (h1 : xOb 11 x1) (x2 : Nat) (h2 : xOb 12 x2) (x3 : Nat) (h3 : xAn 1 1 x3) (x4 : Nat) (h4 : xAn 2 1 x4) (x5 : Int) (h5 : R32 x5) (hr28 : ∀ w5 : Int, R32 w5 → ∀ M : xM, xcan M → Gv l G (uL_law tab nm) 21 1 k s 28 [some (.ref xSCR), some (.ref x1), some (.ref x2), some (.ref x3), some (.ref x4), some (iv w5), none, none, none] [] M (rc28 w5 M)) (M : xM) (hM : xcan M) : Gv l G (uL_law tab nm) 21 1 (k + 11) (s + 66) 1191 [some (.ref xSCR), some (.ref x1), some (.ref x2), some (.ref x3), some (.ref x4), some (iv x5), none, none, none] [] M (fL_law_1191 sl sx rc28 x1 x2 x3 x4 x5 M) := by
  unfold fL_law_1191
  refine xg_aload_n dL_law_1191 (Eq.refl 1192) rfl ?_
  refine xg_aload_n dL_law_1192 (Eq.refl 1193) rfl ?_
  refine xg_iload dL_law_1193 (Eq.refl 1195) rfl ?_
  refine xg_iconst dL_law_1195 (Eq.refl 1196) ?_
  refine xg_iadd dL_law_1196 (Eq.refl 1197) ?_
  refine xg_sld hS hsl dL_law_1197 (Eq.refl 1198) ?_
  refine xg_aload_n dL_law_1198 (Eq.refl 1199) rfl ?_
  refine xg_callWC_I (kc := k) (ks := s) (st := []) (mL_hold hl x1 h1 (sx (w32 (x5 + 1)).toNat).toInt (xsx_r _) x3 (xAn.l h3) M hM) bL_hold xq_570 rfl (by decide) (by decide) dL_law_1199 (Eq.refl 1202) rfl (by omega) (by omega) ?_
  intro z1 M2 hz1 hM2
  refine xg_istore (ls2 := [some (.ref xSCR), some (.ref x1), some (.ref x2), some (.ref x3), some (.ref x4), some (iv x5), some (iv z1), none, none]) dL_law_1202 (Eq.refl 1204) (show 6 < 9 by decide) rfl ?_
  refine xg_aload_n dL_law_1204 (Eq.refl 1205) rfl ?_
  refine xg_aload_n dL_law_1205 (Eq.refl 1206) rfl ?_
  refine xg_iload dL_law_1206 (Eq.refl 1208) rfl ?_
  refine xg_iconst dL_law_1208 (Eq.refl 1209) ?_
  refine xg_iadd dL_law_1209 (Eq.refl 1210) ?_
  refine xg_sld hS hsl dL_law_1210 (Eq.refl 1211) ?_
  refine xg_callVC_Z (kc := k) (ks := s) (st := []) (mX12_hold hl x2 h2 (sx (w32 (x5 + 1)).toNat).toInt (xsx_r _) M2 hM2) bX12_hold xcl12 h2 rfl xq_578 rfl (by decide) (by decide) dL_law_1211 (Eq.refl 1214) rfl (by omega) (by omega) ?_ ?_
  · intro z3 M4 hz3 hM4
    refine xg_istore (ls2 := [some (.ref xSCR), some (.ref x1), some (.ref x2), some (.ref x3), some (.ref x4), some (iv x5), some (iv z1), some (iv z3), none]) dL_law_1214 (Eq.refl 1216) (show 7 < 9 by decide) rfl ?_
    refine xg_aload_n dL_law_1216 (Eq.refl 1217) rfl ?_
    refine xg_callVC_I (kc := k) (ks := s) (st := []) (mX12_thrown hl x2 h2 M4 hM4) bX12_thrown xcl12 h2 rfl xq_192 rfl (by decide) (by decide) dL_law_1217 (Eq.refl 1220) rfl (by omega) (by omega) ?_ ?_
    · intro z5 M6 hz5 hM6
      refine xg_iload dL_law_1220 (Eq.refl 1222) rfl ?_
      refine xg_icmp_eq (tgt := 1227) dL_law_1222 (Eq.refl 1225) (by decide) hz5 hz1 ?_ ?_
      · refine xg_iload dL_law_1227 (Eq.refl 1229) rfl ?_
        refine xg_if_ne (tgt := 1251) dL_law_1229 (Eq.refl 1232) (by decide) hz1 ?_ ?_
        · refine xg_aload_n dL_law_1232 (Eq.refl 1233) rfl ?_
          refine xg_iconst dL_law_1233 (Eq.refl 1234) ?_
          refine xg_laldk (k := 0) h3 dL_law_1234 (Eq.refl 1235) rfl (by decide) ?_
          refine xg_iload dL_law_1235 (Eq.refl 1237) rfl ?_
          refine xg_if_eq (tgt := 1244) dL_law_1237 (Eq.refl 1240) (by decide) (B01.r hz3) ?_ ?_
          · refine xg_lconst (z := 0) dL_law_1244 (Eq.refl 1245) rfl ?_
            exact xg_jump (gL_law_1245 hl tab nm sl sx hS hsl k s rc28 x1 h1 x2 h2 x3 h3 x4 h4 x5 h5 0 (by decide) (M6 x3 0) (hM6.aj h3) hr28 M6 hM6) (xsb_s (xsb_s (xsb_s (xsb_s (xsb_s (xsb_s (xsb_n (xsb_n (xsb_n xsb_0))))))))) (by omega) (by omega)
          · refine xg_lconst (z := 1) dL_law_1240 (Eq.refl 1241) rfl ?_
            refine xg_goto (tgt := 1245) dL_law_1241 (by decide) ?_
            exact xg_jump (gL_law_1245 hl tab nm sl sx hS hsl k s rc28 x1 h1 x2 h2 x3 h3 x4 h4 x5 h5 1 (by decide) (M6 x3 0) (hM6.aj h3) hr28 M6 hM6) (xsb_s (xsb_s (xsb_s (xsb_s (xsb_s (xsb_s (xsb_n (xsb_n (xsb_n xsb_0))))))))) (by omega) (by omega)
        · exact xg_jump (gL_law_1251 hl tab nm sl sx hS hsl k s rc28 x1 h1 x2 h2 x3 h3 x4 h4 x5 h5 hr28 M6 hM6) (xsb_s (xsb_s (xsb_s (xsb_s (xsb_s (xsb_s (xsb_n (xsb_n (xsb_n xsb_0))))))))) (by omega) (by omega)
      · refine xg_iconst dL_law_1225 (Eq.refl 1226) ?_
        exact xg_zret rfl dL_law_1226 rfl hM6 (by decide)
    · intro e M9 he hM9
      exact xgx_none
  · intro e M9 he hM9
    exact xgx_none
theorem gL_law_1188 {l : Launch} {G : xG} (hl : l.stackTraces = false) (tab : List ExceptionTableEntry) (nm : String) (sl : Nat) (sx : Nat → Int32) (hS : G.2.2.2.1.2 = (sl, sx)) (hsl : sl ≤ 2147483647) (k s : Nat) (rc28 : Int → xM → xO) (x1 : Nat) (h1 : xOb 11 x1) (x2 : Nat) (h2 : xOb 12 x2) (x3 : Nat) (h3 : xAn 1 1 x3) (x4 : Nat) (h4 : xAn 2 1 x4) (x5 : Int) (h5 : R32 x5) (hr28 : ∀ w5 : Int, R32 w5 → ∀ M : xM, xcan M → Gv l G (uL_law tab nm) 21 1 k s 28 [some (.ref xSCR), some (.ref x1), some (.ref x2), some (.ref x3), some (.ref x4), some (iv w5), none, none, none] [] M (rc28 w5 M)) (M : xM) (hM : xcan M) : Gv l G (uL_law tab nm) 21 1 k s 1188 [some (.ref xSCR), some (.ref x1), some (.ref x2), some (.ref x3), some (.ref x4), some (iv x5), none, none, none] [] M (fL_law_1188 sl sx rc28 x1 x2 x3 x4 x5 M) := by
  unfold fL_law_1188
  refine xg_goto (tgt := 3031) dL_law_1188 (by decide) ?_
  exact xg_jump (gL_law_3031 hl tab nm sl sx hS hsl k s rc28 x1 h1 x2 h2 x3 h3 x4 h4 x5 h5 hr28 M hM) (xsb_s (xsb_s (xsb_s (xsb_s (xsb_s (xsb_s (xsb_n (xsb_n (xsb_n xsb_0))))))))) (by omega) (by omega)
theorem gL_law_1182 {l : Launch} {G : xG} (hl : l.stackTraces = false) (tab : List ExceptionTableEntry) (nm : String) (sl : Nat) (sx : Nat → Int32) (hS : G.2.2.2.1.2 = (sl, sx)) (hsl : sl ≤ 2147483647) (k s : Nat) (rc28 : Int → xM → xO) (x1 : Nat) (h1 : xOb 11 x1) (x2 : Nat) (h2 : xOb 12 x2) (x3 : Nat) (h3 : xAn 1 1 x3) (x4 : Nat) (h4 : xAn 2 1 x4) (x5 : Int) (h5 : R32 x5) (s0 : Int) (hs0 : R64 s0) (s1 : Int) (hs1 : R64 s1) (hr28 : ∀ w5 : Int, R32 w5 → ∀ M : xM, xcan M → Gv l G (uL_law tab nm) 21 1 k s 28 [some (.ref xSCR), some (.ref x1), some (.ref x2), some (.ref x3), some (.ref x4), some (iv w5), none, none, none] [] M (rc28 w5 M)) (M : xM) (hM : xcan M) : Gv l G (uL_law tab nm) 21 1 k s 1182 [some (.ref xSCR), some (.ref x1), some (.ref x2), some (.ref x3), some (.ref x4), some (iv x5), none, none, none] [jv s0, jv s1] M (fL_law_1182 sl sx rc28 x1 x2 x3 x4 x5 s0 s1 M) := by
  unfold fL_law_1182
  refine xg_lif_eq (tgt := 1188) dL_law_1182 (Eq.refl 1183) dL_law_1183 (Eq.refl 1186) (by decide) hs1 hs0 ?_ ?_
  · exact xg_jump (gL_law_1188 hl tab nm sl sx hS hsl k s rc28 x1 h1 x2 h2 x3 h3 x4 h4 x5 h5 hr28 M hM) (xsb_s (xsb_s (xsb_s (xsb_s (xsb_s (xsb_s (xsb_n (xsb_n (xsb_n xsb_0))))))))) (by omega) (by omega)
  · refine xg_iconst dL_law_1186 (Eq.refl 1187) ?_
    exact xg_zret rfl dL_law_1187 rfl hM (by decide)
theorem gL_law_1128 {l : Launch} {G : xG} (hl : l.stackTraces = false) (tab : List ExceptionTableEntry) (nm : String) (sl : Nat) (sx : Nat → Int32) (hS : G.2.2.2.1.2 = (sl, sx)) (hsl : sl ≤ 2147483647) (k s : Nat) (rc28 : Int → xM → xO) (x1 : Nat) (h1 : xOb 11 x1) (x2 : Nat) (h2 : xOb 12 x2) (x3 : Nat) (h3 : xAn 1 1 x3) (x4 : Nat) (h4 : xAn 2 1 x4) (x5 : Int) (h5 : R32 x5) (hr28 : ∀ w5 : Int, R32 w5 → ∀ M : xM, xcan M → Gv l G (uL_law tab nm) 21 1 k s 28 [some (.ref xSCR), some (.ref x1), some (.ref x2), some (.ref x3), some (.ref x4), some (iv w5), none, none, none] [] M (rc28 w5 M)) (M : xM) (hM : xcan M) : Gv l G (uL_law tab nm) 21 1 (k + 11) (s + 66) 1128 [some (.ref xSCR), some (.ref x1), some (.ref x2), some (.ref x3), some (.ref x4), some (iv x5), none, none, none] [] M (fL_law_1128 sl sx rc28 x1 x2 x3 x4 x5 M) := by
  unfold fL_law_1128
  refine xg_aload_n dL_law_1128 (Eq.refl 1129) rfl ?_
  refine xg_aload_n dL_law_1129 (Eq.refl 1130) rfl ?_
  refine xg_iload dL_law_1130 (Eq.refl 1132) rfl ?_
  refine xg_iconst dL_law_1132 (Eq.refl 1133) ?_
  refine xg_iadd dL_law_1133 (Eq.refl 1134) ?_
  refine xg_sld hS hsl dL_law_1134 (Eq.refl 1135) ?_
  refine xg_aload_n dL_law_1135 (Eq.refl 1136) rfl ?_
  refine xg_callWC_I (kc := k) (ks := s) (st := []) (mL_cancel hl x1 h1 (sx (w32 (x5 + 1)).toNat).toInt (xsx_r _) x3 (xAn.l h3) M hM) bL_cancel xq_521 rfl (by decide) (by decide) dL_law_1136 (Eq.refl 1139) rfl (by omega) (by omega) ?_
  intro z1 M2 hz1 hM2
  refine xg_istore (ls2 := [some (.ref xSCR), some (.ref x1), some (.ref x2), some (.ref x3), some (.ref x4), some (iv x5), some (iv z1), none, none]) dL_law_1139 (Eq.refl 1141) (show 6 < 9 by decide) rfl ?_
  refine xg_aload_n dL_law_1141 (Eq.refl 1142) rfl ?_
  refine xg_aload_n dL_law_1142 (Eq.refl 1143) rfl ?_
  refine xg_iload dL_law_1143 (Eq.refl 1145) rfl ?_
  refine xg_iconst dL_law_1145 (Eq.refl 1146) ?_
  refine xg_iadd dL_law_1146 (Eq.refl 1147) ?_
  refine xg_sld hS hsl dL_law_1147 (Eq.refl 1148) ?_
  refine xg_callVC_Z (kc := k) (ks := s) (st := []) (mX12_cancel hl x2 h2 (sx (w32 (x5 + 1)).toNat).toInt (xsx_r _) M2 hM2) bX12_cancel xcl12 h2 rfl xq_562 rfl (by decide) (by decide) dL_law_1148 (Eq.refl 1151) rfl (by omega) (by omega) ?_ ?_
  · intro z3 M4 hz3 hM4
    refine xg_istore (ls2 := [some (.ref xSCR), some (.ref x1), some (.ref x2), some (.ref x3), some (.ref x4), some (iv x5), some (iv z1), some (iv z3), none]) dL_law_1151 (Eq.refl 1153) (show 7 < 9 by decide) rfl ?_
    refine xg_aload_n dL_law_1153 (Eq.refl 1154) rfl ?_
    refine xg_callVC_I (kc := k) (ks := s) (st := []) (mX12_thrown hl x2 h2 M4 hM4) bX12_thrown xcl12 h2 rfl xq_192 rfl (by decide) (by decide) dL_law_1154 (Eq.refl 1157) rfl (by omega) (by omega) ?_ ?_
    · intro z5 M6 hz5 hM6
      refine xg_iload dL_law_1157 (Eq.refl 1159) rfl ?_
      refine xg_icmp_eq (tgt := 1164) dL_law_1159 (Eq.refl 1162) (by decide) hz5 hz1 ?_ ?_
      · refine xg_iload dL_law_1164 (Eq.refl 1166) rfl ?_
        refine xg_if_ne (tgt := 1188) dL_law_1166 (Eq.refl 1169) (by decide) hz1 ?_ ?_
        · refine xg_aload_n dL_law_1169 (Eq.refl 1170) rfl ?_
          refine xg_iconst dL_law_1170 (Eq.refl 1171) ?_
          refine xg_laldk (k := 0) h3 dL_law_1171 (Eq.refl 1172) rfl (by decide) ?_
          refine xg_iload dL_law_1172 (Eq.refl 1174) rfl ?_
          refine xg_if_eq (tgt := 1181) dL_law_1174 (Eq.refl 1177) (by decide) (B01.r hz3) ?_ ?_
          · refine xg_lconst (z := 0) dL_law_1181 (Eq.refl 1182) rfl ?_
            exact xg_jump (gL_law_1182 hl tab nm sl sx hS hsl k s rc28 x1 h1 x2 h2 x3 h3 x4 h4 x5 h5 0 (by decide) (M6 x3 0) (hM6.aj h3) hr28 M6 hM6) (xsb_s (xsb_s (xsb_s (xsb_s (xsb_s (xsb_s (xsb_n (xsb_n (xsb_n xsb_0))))))))) (by omega) (by omega)
          · refine xg_lconst (z := 1) dL_law_1177 (Eq.refl 1178) rfl ?_
            refine xg_goto (tgt := 1182) dL_law_1178 (by decide) ?_
            exact xg_jump (gL_law_1182 hl tab nm sl sx hS hsl k s rc28 x1 h1 x2 h2 x3 h3 x4 h4 x5 h5 1 (by decide) (M6 x3 0) (hM6.aj h3) hr28 M6 hM6) (xsb_s (xsb_s (xsb_s (xsb_s (xsb_s (xsb_s (xsb_n (xsb_n (xsb_n xsb_0))))))))) (by omega) (by omega)
        · exact xg_jump (gL_law_1188 hl tab nm sl sx hS hsl k s rc28 x1 h1 x2 h2 x3 h3 x4 h4 x5 h5 hr28 M6 hM6) (xsb_s (xsb_s (xsb_s (xsb_s (xsb_s (xsb_s (xsb_n (xsb_n (xsb_n xsb_0))))))))) (by omega) (by omega)
      · refine xg_iconst dL_law_1162 (Eq.refl 1163) ?_
        exact xg_zret rfl dL_law_1163 rfl hM6 (by decide)
    · intro e M9 he hM9
      exact xgx_none
  · intro e M9 he hM9
    exact xgx_none
theorem gL_law_1125 {l : Launch} {G : xG} (hl : l.stackTraces = false) (tab : List ExceptionTableEntry) (nm : String) (sl : Nat) (sx : Nat → Int32) (hS : G.2.2.2.1.2 = (sl, sx)) (hsl : sl ≤ 2147483647) (k s : Nat) (rc28 : Int → xM → xO) (x1 : Nat) (h1 : xOb 11 x1) (x2 : Nat) (h2 : xOb 12 x2) (x3 : Nat) (h3 : xAn 1 1 x3) (x4 : Nat) (h4 : xAn 2 1 x4) (x5 : Int) (h5 : R32 x5) (hr28 : ∀ w5 : Int, R32 w5 → ∀ M : xM, xcan M → Gv l G (uL_law tab nm) 21 1 k s 28 [some (.ref xSCR), some (.ref x1), some (.ref x2), some (.ref x3), some (.ref x4), some (iv w5), none, none, none] [] M (rc28 w5 M)) (M : xM) (hM : xcan M) : Gv l G (uL_law tab nm) 21 1 k s 1125 [some (.ref xSCR), some (.ref x1), some (.ref x2), some (.ref x3), some (.ref x4), some (iv x5), none, none, none] [] M (fL_law_1125 sl sx rc28 x1 x2 x3 x4 x5 M) := by
  unfold fL_law_1125
  refine xg_goto (tgt := 3031) dL_law_1125 (by decide) ?_
  exact xg_jump (gL_law_3031 hl tab nm sl sx hS hsl k s rc28 x1 h1 x2 h2 x3 h3 x4 h4 x5 h5 hr28 M hM) (xsb_s (xsb_s (xsb_s (xsb_s (xsb_s (xsb_s (xsb_n (xsb_n (xsb_n xsb_0))))))))) (by omega) (by omega)
theorem gL_law_1060 {l : Launch} {G : xG} (hl : l.stackTraces = false) (tab : List ExceptionTableEntry) (nm : String) (sl : Nat) (sx : Nat → Int32) (hS : G.2.2.2.1.2 = (sl, sx)) (hsl : sl ≤ 2147483647) (k s : Nat) (rc28 : Int → xM → xO) (x1 : Nat) (h1 : xOb 11 x1) (x2 : Nat) (h2 : xOb 12 x2) (x3 : Nat) (h3 : xAn 1 1 x3) (x4 : Nat) (h4 : xAn 2 1 x4) (x5 : Int) (h5 : R32 x5) (hr28 : ∀ w5 : Int, R32 w5 → ∀ M : xM, xcan M → Gv l G (uL_law tab nm) 21 1 k s 28 [some (.ref xSCR), some (.ref x1), some (.ref x2), some (.ref x3), some (.ref x4), some (iv w5), none, none, none] [] M (rc28 w5 M)) (M : xM) (hM : xcan M) : Gv l G (uL_law tab nm) 21 1 (k + 11) (s + 66) 1060 [some (.ref xSCR), some (.ref x1), some (.ref x2), some (.ref x3), some (.ref x4), some (iv x5), none, none, none] [] M (fL_law_1060 sl sx rc28 x1 x2 x3 x4 x5 M) := by
  unfold fL_law_1060
  refine xg_aload_n dL_law_1060 (Eq.refl 1061) rfl ?_
  refine xg_aload_n dL_law_1061 (Eq.refl 1062) rfl ?_
  refine xg_iload dL_law_1062 (Eq.refl 1064) rfl ?_
  refine xg_iconst dL_law_1064 (Eq.refl 1065) ?_
  refine xg_iadd dL_law_1065 (Eq.refl 1066) ?_
  refine xg_sld hS hsl dL_law_1066 (Eq.refl 1067) ?_
  refine xg_aload_n dL_law_1067 (Eq.refl 1068) rfl ?_
  refine xg_iload dL_law_1068 (Eq.refl 1070) rfl ?_
  refine xg_iconst dL_law_1070 (Eq.refl 1071) ?_
  refine xg_iadd dL_law_1071 (Eq.refl 1072) ?_
  refine xg_sld hS hsl dL_law_1072 (Eq.refl 1073) ?_
  refine xg_aload_n dL_law_1073 (Eq.refl 1074) rfl ?_
  refine xg_callWC_I (kc := k) (ks := s) (st := []) (mL_amend hl x1 h1 (sx (w32 (x5 + 1)).toNat).toInt (xsx_r _) (sx (w32 (x5 + 2)).toNat).toInt (xsx_r _) x3 (xAn.l h3) M hM) bL_amend xq_501 rfl (by decide) (by decide) dL_law_1074 (Eq.refl 1077) rfl (by omega) (by omega) ?_
  intro z1 M2 hz1 hM2
  refine xg_istore (ls2 := [some (.ref xSCR), some (.ref x1), some (.ref x2), some (.ref x3), some (.ref x4), some (iv x5), some (iv z1), none, none]) dL_law_1077 (Eq.refl 1079) (show 6 < 9 by decide) rfl ?_
  refine xg_aload_n dL_law_1079 (Eq.refl 1080) rfl ?_
  refine xg_aload_n dL_law_1080 (Eq.refl 1081) rfl ?_
  refine xg_iload dL_law_1081 (Eq.refl 1083) rfl ?_
  refine xg_iconst dL_law_1083 (Eq.refl 1084) ?_
  refine xg_iadd dL_law_1084 (Eq.refl 1085) ?_
  refine xg_sld hS hsl dL_law_1085 (Eq.refl 1086) ?_
  refine xg_aload_n dL_law_1086 (Eq.refl 1087) rfl ?_
  refine xg_iload dL_law_1087 (Eq.refl 1089) rfl ?_
  refine xg_iconst dL_law_1089 (Eq.refl 1090) ?_
  refine xg_iadd dL_law_1090 (Eq.refl 1091) ?_
  refine xg_sld hS hsl dL_law_1091 (Eq.refl 1092) ?_
  refine xg_callVC_I (kc := k) (ks := s) (st := []) (mX12_amend hl x2 h2 (sx (w32 (x5 + 1)).toNat).toInt (xsx_r _) (sx (w32 (x5 + 2)).toNat).toInt (xsx_r _) M2 hM2) bX12_amend xcl12 h2 rfl xq_513 rfl (by decide) (by decide) dL_law_1092 (Eq.refl 1095) rfl (by omega) (by omega) ?_ ?_
  · intro z3 M4 hz3 hM4
    refine xg_istore (ls2 := [some (.ref xSCR), some (.ref x1), some (.ref x2), some (.ref x3), some (.ref x4), some (iv x5), some (iv z1), some (iv z3), none]) dL_law_1095 (Eq.refl 1097) (show 7 < 9 by decide) rfl ?_
    refine xg_aload_n dL_law_1097 (Eq.refl 1098) rfl ?_
    refine xg_callVC_I (kc := k) (ks := s) (st := []) (mX12_thrown hl x2 h2 M4 hM4) bX12_thrown xcl12 h2 rfl xq_192 rfl (by decide) (by decide) dL_law_1098 (Eq.refl 1101) rfl (by omega) (by omega) ?_ ?_
    · intro z5 M6 hz5 hM6
      refine xg_iload dL_law_1101 (Eq.refl 1103) rfl ?_
      refine xg_icmp_eq (tgt := 1108) dL_law_1103 (Eq.refl 1106) (by decide) hz5 hz1 ?_ ?_
      · refine xg_iload dL_law_1108 (Eq.refl 1110) rfl ?_
        refine xg_if_ne (tgt := 1125) dL_law_1110 (Eq.refl 1113) (by decide) hz1 ?_ ?_
        · refine xg_aload_n dL_law_1113 (Eq.refl 1114) rfl ?_
          refine xg_iconst dL_law_1114 (Eq.refl 1115) ?_
          refine xg_laldk (k := 0) h3 dL_law_1115 (Eq.refl 1116) rfl (by decide) ?_
          refine xg_iload dL_law_1116 (Eq.refl 1118) rfl ?_
          refine xg_i2l dL_law_1118 (Eq.refl 1119) hz3 ?_
          refine xg_lif_eq (tgt := 1125) dL_law_1119 (Eq.refl 1120) dL_law_1120 (Eq.refl 1123) (by decide) (hM6.aj h3) (R32.j hz3) ?_ ?_
          · exact xg_jump (gL_law_1125 hl tab nm sl sx hS hsl k s rc28 x1 h1 x2 h2 x3 h3 x4 h4 x5 h5 hr28 M6 hM6) (xsb_s (xsb_s (xsb_s (xsb_s (xsb_s (xsb_s (xsb_n (xsb_n (xsb_n xsb_0))))))))) (by omega) (by omega)
          · refine xg_iconst dL_law_1123 (Eq.refl 1124) ?_
            exact xg_zret rfl dL_law_1124 rfl hM6 (by decide)
        · exact xg_jump (gL_law_1125 hl tab nm sl sx hS hsl k s rc28 x1 h1 x2 h2 x3 h3 x4 h4 x5 h5 hr28 M6 hM6) (xsb_s (xsb_s (xsb_s (xsb_s (xsb_s (xsb_s (xsb_n (xsb_n (xsb_n xsb_0))))))))) (by omega) (by omega)
      · refine xg_iconst dL_law_1106 (Eq.refl 1107) ?_
        exact xg_zret rfl dL_law_1107 rfl hM6 (by decide)
    · intro e M9 he hM9
      exact xgx_none
  · intro e M9 he hM9
    exact xgx_none
theorem gL_law_1057 {l : Launch} {G : xG} (hl : l.stackTraces = false) (tab : List ExceptionTableEntry) (nm : String) (sl : Nat) (sx : Nat → Int32) (hS : G.2.2.2.1.2 = (sl, sx)) (hsl : sl ≤ 2147483647) (k s : Nat) (rc28 : Int → xM → xO) (x1 : Nat) (h1 : xOb 11 x1) (x2 : Nat) (h2 : xOb 12 x2) (x3 : Nat) (h3 : xAn 1 1 x3) (x4 : Nat) (h4 : xAn 2 1 x4) (x5 : Int) (h5 : R32 x5) (hr28 : ∀ w5 : Int, R32 w5 → ∀ M : xM, xcan M → Gv l G (uL_law tab nm) 21 1 k s 28 [some (.ref xSCR), some (.ref x1), some (.ref x2), some (.ref x3), some (.ref x4), some (iv w5), none, none, none] [] M (rc28 w5 M)) (M : xM) (hM : xcan M) : Gv l G (uL_law tab nm) 21 1 k s 1057 [some (.ref xSCR), some (.ref x1), some (.ref x2), some (.ref x3), some (.ref x4), some (iv x5), none, none, none] [] M (fL_law_1057 sl sx rc28 x1 x2 x3 x4 x5 M) := by
  unfold fL_law_1057
  refine xg_goto (tgt := 3031) dL_law_1057 (by decide) ?_
  exact xg_jump (gL_law_3031 hl tab nm sl sx hS hsl k s rc28 x1 h1 x2 h2 x3 h3 x4 h4 x5 h5 hr28 M hM) (xsb_s (xsb_s (xsb_s (xsb_s (xsb_s (xsb_s (xsb_n (xsb_n (xsb_n xsb_0))))))))) (by omega) (by omega)
theorem gL_law_984 {l : Launch} {G : xG} (hl : l.stackTraces = false) (tab : List ExceptionTableEntry) (nm : String) (sl : Nat) (sx : Nat → Int32) (hS : G.2.2.2.1.2 = (sl, sx)) (hsl : sl ≤ 2147483647) (k s : Nat) (rc28 : Int → xM → xO) (x1 : Nat) (h1 : xOb 11 x1) (x2 : Nat) (h2 : xOb 12 x2) (x3 : Nat) (h3 : xAn 1 1 x3) (x4 : Nat) (h4 : xAn 2 1 x4) (x5 : Int) (h5 : R32 x5) (x6 : Int) (h6 : R32 x6) (s0 : Int) (hs0 : B01 s0) (s1 : Int) (hs1 : R32 s1) (s2 : Int) (hs2 : R32 s2) (s3 : Nat) (hs3 : xOb 12 s3) (hr28 : ∀ w5 : Int, R32 w5 → ∀ M : xM, xcan M → Gv l G (uL_law tab nm) 21 1 k s 28 [some (.ref xSCR), some (.ref x1), some (.ref x2), some (.ref x3), some (.ref x4), some (iv w5), none, none, none] [] M (rc28 w5 M)) (M : xM) (hM : xcan M) : Gv l G (uL_law tab nm) 21 1 k s 984 [some (.ref xSCR), some (.ref x1), some (.ref x2), some (.ref x3), some (.ref x4), some (iv x5), some (iv x6), none, none] [iv s0, iv s1, iv s2, .ref s3] M (fL_law_984 sl sx rc28 x1 x2 x3 x4 x5 x6 s0 s1 s2 s3 M) := by
  unfold fL_law_984
  refine xg_aload_n dL_law_984 (Eq.refl 985) rfl ?_
  refine xg_iload dL_law_985 (Eq.refl 987) rfl ?_
  refine xg_iconst dL_law_987 (Eq.refl 988) ?_
  refine xg_iadd dL_law_988 (Eq.refl 989) ?_
  refine xg_sld hS hsl dL_law_989 (Eq.refl 990) ?_
  refine xg_aload_n dL_law_990 (Eq.refl 991) rfl ?_
  refine xg_iload dL_law_991 (Eq.refl 993) rfl ?_
  refine xg_iconst dL_law_993 (Eq.refl 994) ?_
  refine xg_iadd dL_law_994 (Eq.refl 995) ?_
  refine xg_sld hS hsl dL_law_995 (Eq.refl 996) ?_
  refine xg_aload_n dL_law_996 (Eq.refl 997) rfl ?_
  refine xg_iload dL_law_997 (Eq.refl 999) rfl ?_
  refine xg_bipush dL_law_999 (Eq.refl 1001) (by decide +kernel) ?_
  refine xg_iadd dL_law_1001 (Eq.refl 1002) ?_
  refine xg_sld hS hsl dL_law_1002 (Eq.refl 1003) ?_
  refine xg_aload_n dL_law_1003 (Eq.refl 1004) rfl ?_
  refine xg_iload dL_law_1004 (Eq.refl 1006) rfl ?_
  refine xg_bipush dL_law_1006 (Eq.refl 1008) (by decide +kernel) ?_
  refine xg_iadd dL_law_1008 (Eq.refl 1009) ?_
  refine xg_sld hS hsl dL_law_1009 (Eq.refl 1010) ?_
  refine xg_aload_n dL_law_1010 (Eq.refl 1011) rfl ?_
  refine xg_iload dL_law_1011 (Eq.refl 1013) rfl ?_
  refine xg_bipush dL_law_1013 (Eq.refl 1015) (by decide +kernel) ?_
  refine xg_iadd dL_law_1015 (Eq.refl 1016) ?_
  refine xg_sld hS hsl dL_law_1016 (Eq.refl 1017) ?_
  refine xg_aload_n dL_law_1017 (Eq.refl 1018) rfl ?_
  refine xg_iload dL_law_1018 (Eq.refl 1020) rfl ?_
  refine xg_bipush dL_law_1020 (Eq.refl 1022) (by decide +kernel) ?_
  refine xg_iadd dL_law_1022 (Eq.refl 1023) ?_
  refine xg_sld hS hsl dL_law_1023 (Eq.refl 1024) ?_
  refine xg_callVC_I (kc := k) (ks := s) (st := []) (mX12_instruct hl s3 hs3 s2 hs2 s1 hs1 s0 hs0 (sx (w32 (x5 + 4)).toNat).toInt (xsx_r _) (sx (w32 (x5 + 5)).toNat).toInt (xsx_r _) (sx (w32 (x5 + 6)).toNat).toInt (xsx_r _) (sx (w32 (x5 + 7)).toNat).toInt (xsx_r _) (sx (w32 (x5 + 8)).toNat).toInt (xsx_r _) (sx (w32 (x5 + 9)).toNat).toInt (xsx_r _) M hM) bX12_instruct xcl12 hs3 rfl xq_472 rfl (by decide) (by decide) dL_law_1024 (Eq.refl 1027) rfl (by omega) (by omega) ?_ ?_
  · intro z1 M2 hz1 hM2
    refine xg_istore (ls2 := [some (.ref xSCR), some (.ref x1), some (.ref x2), some (.ref x3), some (.ref x4), some (iv x5), some (iv x6), some (iv z1), none]) dL_law_1027 (Eq.refl 1029) (show 7 < 9 by decide) rfl ?_
    refine xg_aload_n dL_law_1029 (Eq.refl 1030) rfl ?_
    refine xg_callVC_I (kc := k) (ks := s) (st := []) (mX12_thrown hl x2 h2 M2 hM2) bX12_thrown xcl12 h2 rfl xq_192 rfl (by decide) (by decide) dL_law_1030 (Eq.refl 1033) rfl (by omega) (by omega) ?_ ?_
    · intro z3 M4 hz3 hM4
      refine xg_iload dL_law_1033 (Eq.refl 1035) rfl ?_
      refine xg_icmp_eq (tgt := 1040) dL_law_1035 (Eq.refl 1038) (by decide) hz3 h6 ?_ ?_
      · refine xg_iload dL_law_1040 (Eq.refl 1042) rfl ?_
        refine xg_if_ne (tgt := 1057) dL_law_1042 (Eq.refl 1045) (by decide) h6 ?_ ?_
        · refine xg_aload_n dL_law_1045 (Eq.refl 1046) rfl ?_
          refine xg_iconst dL_law_1046 (Eq.refl 1047) ?_
          refine xg_laldk (k := 0) h3 dL_law_1047 (Eq.refl 1048) rfl (by decide) ?_
          refine xg_iload dL_law_1048 (Eq.refl 1050) rfl ?_
          refine xg_i2l dL_law_1050 (Eq.refl 1051) hz1 ?_
          refine xg_lif_eq (tgt := 1057) dL_law_1051 (Eq.refl 1052) dL_law_1052 (Eq.refl 1055) (by decide) (hM4.aj h3) (R32.j hz1) ?_ ?_
          · exact xg_jump (gL_law_1057 hl tab nm sl sx hS hsl k s rc28 x1 h1 x2 h2 x3 h3 x4 h4 x5 h5 hr28 M4 hM4) (xsb_s (xsb_s (xsb_s (xsb_s (xsb_s (xsb_s (xsb_n (xsb_n (xsb_n xsb_0))))))))) (by omega) (by omega)
          · refine xg_iconst dL_law_1055 (Eq.refl 1056) ?_
            exact xg_zret rfl dL_law_1056 rfl hM4 (by decide)
        · exact xg_jump (gL_law_1057 hl tab nm sl sx hS hsl k s rc28 x1 h1 x2 h2 x3 h3 x4 h4 x5 h5 hr28 M4 hM4) (xsb_s (xsb_s (xsb_s (xsb_s (xsb_s (xsb_s (xsb_n (xsb_n (xsb_n xsb_0))))))))) (by omega) (by omega)
      · refine xg_iconst dL_law_1038 (Eq.refl 1039) ?_
        exact xg_zret rfl dL_law_1039 rfl hM4 (by decide)
    · intro e M9 he hM9
      exact xgx_none
  · intro e M9 he hM9
    exact xgx_none
theorem gL_law_911 {l : Launch} {G : xG} (hl : l.stackTraces = false) (tab : List ExceptionTableEntry) (nm : String) (sl : Nat) (sx : Nat → Int32) (hS : G.2.2.2.1.2 = (sl, sx)) (hsl : sl ≤ 2147483647) (k s : Nat) (rc28 : Int → xM → xO) (x1 : Nat) (h1 : xOb 11 x1) (x2 : Nat) (h2 : xOb 12 x2) (x3 : Nat) (h3 : xAn 1 1 x3) (x4 : Nat) (h4 : xAn 2 1 x4) (x5 : Int) (h5 : R32 x5) (s0 : Int) (hs0 : B01 s0) (s1 : Int) (hs1 : R32 s1) (s2 : Int) (hs2 : R32 s2) (s3 : Nat) (hs3 : xOb 11 s3) (hr28 : ∀ w5 : Int, R32 w5 → ∀ M : xM, xcan M → Gv l G (uL_law tab nm) 21 1 k s 28 [some (.ref xSCR), some (.ref x1), some (.ref x2), some (.ref x3), some (.ref x4), some (iv w5), none, none, none] [] M (rc28 w5 M)) (M : xM) (hM : xcan M) : Gv l G (uL_law tab nm) 21 1 (k + 11) (s + 66) 911 [some (.ref xSCR), some (.ref x1), some (.ref x2), some (.ref x3), some (.ref x4), some (iv x5), none, none, none] [iv s0, iv s1, iv s2, .ref s3] M (fL_law_911 sl sx rc28 x1 x2 x3 x4 x5 s0 s1 s2 s3 M) := by
  unfold fL_law_911
  refine xg_aload_n dL_law_911 (Eq.refl 912) rfl ?_
  refine xg_iload dL_law_912 (Eq.refl 914) rfl ?_
  refine xg_iconst dL_law_914 (Eq.refl 915) ?_
  refine xg_iadd dL_law_915 (Eq.refl 916) ?_
  refine xg_sld hS hsl dL_law_916 (Eq.refl 917) ?_
  refine xg_aload_n dL_law_917 (Eq.refl 918) rfl ?_
  refine xg_iload dL_law_918 (Eq.refl 920) rfl ?_
  refine xg_iconst dL_law_920 (Eq.refl 921) ?_
  refine xg_iadd dL_law_921 (Eq.refl 922) ?_
  refine xg_sld hS hsl dL_law_922 (Eq.refl 923) ?_
  refine xg_aload_n dL_law_923 (Eq.refl 924) rfl ?_
  refine xg_iload dL_law_924 (Eq.refl 926) rfl ?_
  refine xg_bipush dL_law_926 (Eq.refl 928) (by decide +kernel) ?_
  refine xg_iadd dL_law_928 (Eq.refl 929) ?_
  refine xg_sld hS hsl dL_law_929 (Eq.refl 930) ?_
  refine xg_aload_n dL_law_930 (Eq.refl 931) rfl ?_
  refine xg_iload dL_law_931 (Eq.refl 933) rfl ?_
  refine xg_bipush dL_law_933 (Eq.refl 935) (by decide +kernel) ?_
  refine xg_iadd dL_law_935 (Eq.refl 936) ?_
  refine xg_sld hS hsl dL_law_936 (Eq.refl 937) ?_
  refine xg_aload_n dL_law_937 (Eq.refl 938) rfl ?_
  refine xg_iload dL_law_938 (Eq.refl 940) rfl ?_
  refine xg_bipush dL_law_940 (Eq.refl 942) (by decide +kernel) ?_
  refine xg_iadd dL_law_942 (Eq.refl 943) ?_
  refine xg_sld hS hsl dL_law_943 (Eq.refl 944) ?_
  refine xg_aload_n dL_law_944 (Eq.refl 945) rfl ?_
  refine xg_iload dL_law_945 (Eq.refl 947) rfl ?_
  refine xg_bipush dL_law_947 (Eq.refl 949) (by decide +kernel) ?_
  refine xg_iadd dL_law_949 (Eq.refl 950) ?_
  refine xg_sld hS hsl dL_law_950 (Eq.refl 951) ?_
  refine xg_aload_n dL_law_951 (Eq.refl 952) rfl ?_
  refine xg_callWC_I (kc := k) (ks := s) (st := []) (mL_instruct hl s3 hs3 s2 hs2 s1 hs1 s0 hs0 (sx (w32 (x5 + 4)).toNat).toInt (xsx_r _) (sx (w32 (x5 + 5)).toNat).toInt (xsx_r _) (sx (w32 (x5 + 6)).toNat).toInt (xsx_r _) (sx (w32 (x5 + 7)).toNat).toInt (xsx_r _) (sx (w32 (x5 + 8)).toNat).toInt (xsx_r _) (sx (w32 (x5 + 9)).toNat).toInt (xsx_r _) x3 (xAn.l h3) M hM) bL_instruct xq_378 rfl (by decide) (by decide) dL_law_952 (Eq.refl 955) rfl (by omega) (by omega) ?_
  intro z1 M2 hz1 hM2
  refine xg_istore (ls2 := [some (.ref xSCR), some (.ref x1), some (.ref x2), some (.ref x3), some (.ref x4), some (iv x5), some (iv z1), none, none]) dL_law_955 (Eq.refl 957) (show 6 < 9 by decide) rfl ?_
  refine xg_aload_n dL_law_957 (Eq.refl 958) rfl ?_
  refine xg_aload_n dL_law_958 (Eq.refl 959) rfl ?_
  refine xg_iload dL_law_959 (Eq.refl 961) rfl ?_
  refine xg_iconst dL_law_961 (Eq.refl 962) ?_
  refine xg_iadd dL_law_962 (Eq.refl 963) ?_
  refine xg_sld hS hsl dL_law_963 (Eq.refl 964) ?_
  refine xg_aload_n dL_law_964 (Eq.refl 965) rfl ?_
  refine xg_iload dL_law_965 (Eq.refl 967) rfl ?_
  refine xg_iconst dL_law_967 (Eq.refl 968) ?_
  refine xg_iadd dL_law_968 (Eq.refl 969) ?_
  refine xg_sld hS hsl dL_law_969 (Eq.refl 970) ?_
  refine xg_aload_n dL_law_970 (Eq.refl 971) rfl ?_
  refine xg_iload dL_law_971 (Eq.refl 973) rfl ?_
  refine xg_iconst dL_law_973 (Eq.refl 974) ?_
  refine xg_iadd dL_law_974 (Eq.refl 975) ?_
  refine xg_sld hS hsl dL_law_975 (Eq.refl 976) ?_
  refine xg_if_eq (tgt := 983) dL_law_976 (Eq.refl 979) (by decide) (xsx_r _) ?_ ?_
  · refine xg_iconst dL_law_983 (Eq.refl 984) ?_
    exact xg_jump (gL_law_984 hl tab nm sl sx hS hsl k s rc28 x1 h1 x2 h2 x3 h3 x4 h4 x5 h5 z1 hz1 0 (by decide) (sx (w32 (x5 + 2)).toNat).toInt (xsx_r _) (sx (w32 (x5 + 1)).toNat).toInt (xsx_r _) x2 h2 hr28 M2 hM2) (xsb_s (xsb_s (xsb_s (xsb_s (xsb_s (xsb_s (xsb_s (xsb_n (xsb_n xsb_0))))))))) (by omega) (by omega)
  · refine xg_iconst dL_law_979 (Eq.refl 980) ?_
    refine xg_goto (tgt := 984) dL_law_980 (by decide) ?_
    exact xg_jump (gL_law_984 hl tab nm sl sx hS hsl k s rc28 x1 h1 x2 h2 x3 h3 x4 h4 x5 h5 z1 hz1 1 (by decide) (sx (w32 (x5 + 2)).toNat).toInt (xsx_r _) (sx (w32 (x5 + 1)).toNat).toInt (xsx_r _) x2 h2 hr28 M2 hM2) (xsb_s (xsb_s (xsb_s (xsb_s (xsb_s (xsb_s (xsb_s (xsb_n (xsb_n xsb_0))))))))) (by omega) (by omega)
theorem gL_law_884 {l : Launch} {G : xG} (hl : l.stackTraces = false) (tab : List ExceptionTableEntry) (nm : String) (sl : Nat) (sx : Nat → Int32) (hS : G.2.2.2.1.2 = (sl, sx)) (hsl : sl ≤ 2147483647) (k s : Nat) (rc28 : Int → xM → xO) (x1 : Nat) (h1 : xOb 11 x1) (x2 : Nat) (h2 : xOb 12 x2) (x3 : Nat) (h3 : xAn 1 1 x3) (x4 : Nat) (h4 : xAn 2 1 x4) (x5 : Int) (h5 : R32 x5) (hr28 : ∀ w5 : Int, R32 w5 → ∀ M : xM, xcan M → Gv l G (uL_law tab nm) 21 1 k s 28 [some (.ref xSCR), some (.ref x1), some (.ref x2), some (.ref x3), some (.ref x4), some (iv w5), none, none, none] [] M (rc28 w5 M)) (M : xM) (hM : xcan M) : Gv l G (uL_law tab nm) 21 1 (k + 11) (s + 66) 884 [some (.ref xSCR), some (.ref x1), some (.ref x2), some (.ref x3), some (.ref x4), some (iv x5), none, none, none] [] M (fL_law_884 sl sx rc28 x1 x2 x3 x4 x5 M) := by
  unfold fL_law_884
  refine xg_aload_n dL_law_884 (Eq.refl 885) rfl ?_
  refine xg_aload_n dL_law_885 (Eq.refl 886) rfl ?_
  refine xg_iload dL_law_886 (Eq.refl 888) rfl ?_
  refine xg_iconst dL_law_888 (Eq.refl 889) ?_
  refine xg_iadd dL_law_889 (Eq.refl 890) ?_
  refine xg_sld hS hsl dL_law_890 (Eq.refl 891) ?_
  refine xg_aload_n dL_law_891 (Eq.refl 892) rfl ?_
  refine xg_iload dL_law_892 (Eq.refl 894) rfl ?_
  refine xg_iconst dL_law_894 (Eq.refl 895) ?_
  refine xg_iadd dL_law_895 (Eq.refl 896) ?_
  refine xg_sld hS hsl dL_law_896 (Eq.refl 897) ?_
  refine xg_aload_n dL_law_897 (Eq.refl 898) rfl ?_
  refine xg_iload dL_law_898 (Eq.refl 900) rfl ?_
  refine xg_iconst dL_law_900 (Eq.refl 901) ?_
  refine xg_iadd dL_law_901 (Eq.refl 902) ?_
  refine xg_sld hS hsl dL_law_902 (Eq.refl 903) ?_
  refine xg_if_eq (tgt := 910) dL_law_903 (Eq.refl 906) (by decide) (xsx_r _) ?_ ?_
  · refine xg_iconst dL_law_910 (Eq.refl 911) ?_
    exact xg_jump (gL_law_911 hl tab nm sl sx hS hsl k s rc28 x1 h1 x2 h2 x3 h3 x4 h4 x5 h5 0 (by decide) (sx (w32 (x5 + 2)).toNat).toInt (xsx_r _) (sx (w32 (x5 + 1)).toNat).toInt (xsx_r _) x1 h1 hr28 M hM) (xsb_s (xsb_s (xsb_s (xsb_s (xsb_s (xsb_s (xsb_n (xsb_n (xsb_n xsb_0))))))))) (by omega) (by omega)
  · refine xg_iconst dL_law_906 (Eq.refl 907) ?_
    refine xg_goto (tgt := 911) dL_law_907 (by decide) ?_
    exact xg_jump (gL_law_911 hl tab nm sl sx hS hsl k s rc28 x1 h1 x2 h2 x3 h3 x4 h4 x5 h5 1 (by decide) (sx (w32 (x5 + 2)).toNat).toInt (xsx_r _) (sx (w32 (x5 + 1)).toNat).toInt (xsx_r _) x1 h1 hr28 M hM) (xsb_s (xsb_s (xsb_s (xsb_s (xsb_s (xsb_s (xsb_n (xsb_n (xsb_n xsb_0))))))))) (by omega) (by omega)
theorem gL_law_881 {l : Launch} {G : xG} (hl : l.stackTraces = false) (tab : List ExceptionTableEntry) (nm : String) (sl : Nat) (sx : Nat → Int32) (hS : G.2.2.2.1.2 = (sl, sx)) (hsl : sl ≤ 2147483647) (k s : Nat) (rc28 : Int → xM → xO) (x1 : Nat) (h1 : xOb 11 x1) (x2 : Nat) (h2 : xOb 12 x2) (x3 : Nat) (h3 : xAn 1 1 x3) (x4 : Nat) (h4 : xAn 2 1 x4) (x5 : Int) (h5 : R32 x5) (hr28 : ∀ w5 : Int, R32 w5 → ∀ M : xM, xcan M → Gv l G (uL_law tab nm) 21 1 k s 28 [some (.ref xSCR), some (.ref x1), some (.ref x2), some (.ref x3), some (.ref x4), some (iv w5), none, none, none] [] M (rc28 w5 M)) (M : xM) (hM : xcan M) : Gv l G (uL_law tab nm) 21 1 k s 881 [some (.ref xSCR), some (.ref x1), some (.ref x2), some (.ref x3), some (.ref x4), some (iv x5), none, none, none] [] M (fL_law_881 sl sx rc28 x1 x2 x3 x4 x5 M) := by
  unfold fL_law_881
  refine xg_goto (tgt := 3031) dL_law_881 (by decide) ?_
  exact xg_jump (gL_law_3031 hl tab nm sl sx hS hsl k s rc28 x1 h1 x2 h2 x3 h3 x4 h4 x5 h5 hr28 M hM) (xsb_s (xsb_s (xsb_s (xsb_s (xsb_s (xsb_s (xsb_n (xsb_n (xsb_n xsb_0))))))))) (by omega) (by omega)
theorem gL_law_817 {l : Launch} {G : xG} (hl : l.stackTraces = false) (tab : List ExceptionTableEntry) (nm : String) (sl : Nat) (sx : Nat → Int32) (hS : G.2.2.2.1.2 = (sl, sx)) (hsl : sl ≤ 2147483647) (k s : Nat) (rc28 : Int → xM → xO) (x1 : Nat) (h1 : xOb 11 x1) (x2 : Nat) (h2 : xOb 12 x2) (x3 : Nat) (h3 : xAn 1 1 x3) (x4 : Nat) (h4 : xAn 2 1 x4) (x5 : Int) (h5 : R32 x5) (hr28 : ∀ w5 : Int, R32 w5 → ∀ M : xM, xcan M → Gv l G (uL_law tab nm) 21 1 k s 28 [some (.ref xSCR), some (.ref x1), some (.ref x2), some (.ref x3), some (.ref x4), some (iv w5), none, none, none] [] M (rc28 w5 M)) (M : xM) (hM : xcan M) : Gv l G (uL_law tab nm) 21 1 (k + 11) (s + 66) 817 [some (.ref xSCR), some (.ref x1), some (.ref x2), some (.ref x3), some (.ref x4), some (iv x5), none, none, none] [] M (fL_law_817 sl sx rc28 x1 x2 x3 x4 x5 M) := by
  unfold fL_law_817
  refine xg_aload_n dL_law_817 (Eq.refl 818) rfl ?_
  refine xg_aload_n dL_law_818 (Eq.refl 819) rfl ?_
  refine xg_iload dL_law_819 (Eq.refl 821) rfl ?_
  refine xg_iconst dL_law_821 (Eq.refl 822) ?_
  refine xg_iadd dL_law_822 (Eq.refl 823) ?_
  refine xg_sld hS hsl dL_law_823 (Eq.refl 824) ?_
  refine xg_aload_n dL_law_824 (Eq.refl 825) rfl ?_
  refine xg_iload dL_law_825 (Eq.refl 827) rfl ?_
  refine xg_iconst dL_law_827 (Eq.refl 828) ?_
  refine xg_iadd dL_law_828 (Eq.refl 829) ?_
  refine xg_sld hS hsl dL_law_829 (Eq.refl 830) ?_
  refine xg_aload_n dL_law_830 (Eq.refl 831) rfl ?_
  refine xg_callWC_I (kc := k) (ks := s) (st := []) (mL_bring hl x1 h1 (sx (w32 (x5 + 1)).toNat).toInt (xsx_r _) (sx (w32 (x5 + 2)).toNat).toInt (xsx_r _) x3 (xAn.l h3) M hM) bL_bring xq_321 rfl (by decide) (by decide) dL_law_831 (Eq.refl 834) rfl (by omega) (by omega) ?_
  intro z1 M2 hz1 hM2
  refine xg_istore (ls2 := [some (.ref xSCR), some (.ref x1), some (.ref x2), some (.ref x3), some (.ref x4), some (iv x5), some (iv z1), none, none]) dL_law_834 (Eq.refl 836) (show 6 < 9 by decide) rfl ?_
  refine xg_aload_n dL_law_836 (Eq.refl 837) rfl ?_
  refine xg_aload_n dL_law_837 (Eq.refl 838) rfl ?_
  refine xg_iload dL_law_838 (Eq.refl 840) rfl ?_
  refine xg_iconst dL_law_840 (Eq.refl 841) ?_
  refine xg_iadd dL_law_841 (Eq.refl 842) ?_
  refine xg_sld hS hsl dL_law_842 (Eq.refl 843) ?_
  refine xg_aload_n dL_law_843 (Eq.refl 844) rfl ?_
  refine xg_iload dL_law_844 (Eq.refl 846) rfl ?_
  refine xg_iconst dL_law_846 (Eq.refl 847) ?_
  refine xg_iadd dL_law_847 (Eq.refl 848) ?_
  refine xg_sld hS hsl dL_law_848 (Eq.refl 849) ?_
  refine xg_callVC_J (kc := k) (ks := s) (st := []) (mX12_bring hl x2 h2 (sx (w32 (x5 + 1)).toNat).toInt (xsx_r _) (sx (w32 (x5 + 2)).toNat).toInt (xsx_r _) M2 hM2) bX12_bring xcl12 h2 rfl xq_353 rfl (by decide) (by decide) dL_law_849 (Eq.refl 852) rfl (by omega) (by omega) ?_ ?_
  · intro z3 M4 hz3 hM4
    refine xg_lstore (ls2 := [some (.ref xSCR), some (.ref x1), some (.ref x2), some (.ref x3), some (.ref x4), some (iv x5), some (iv z1), some (jv z3), none]) dL_law_852 (Eq.refl 854) (show 7 + 1 < 9 by decide) rfl ?_
    refine xg_aload_n dL_law_854 (Eq.refl 855) rfl ?_
    refine xg_callVC_I (kc := k) (ks := s) (st := []) (mX12_thrown hl x2 h2 M4 hM4) bX12_thrown xcl12 h2 rfl xq_192 rfl (by decide) (by decide) dL_law_855 (Eq.refl 858) rfl (by omega) (by omega) ?_ ?_
    · intro z5 M6 hz5 hM6
      refine xg_iload dL_law_858 (Eq.refl 860) rfl ?_
      refine xg_icmp_eq (tgt := 865) dL_law_860 (Eq.refl 863) (by decide) hz5 hz1 ?_ ?_
      · refine xg_iload dL_law_865 (Eq.refl 867) rfl ?_
        refine xg_if_ne (tgt := 881) dL_law_867 (Eq.refl 870) (by decide) hz1 ?_ ?_
        · refine xg_aload_n dL_law_870 (Eq.refl 871) rfl ?_
          refine xg_iconst dL_law_871 (Eq.refl 872) ?_
          refine xg_laldk (k := 0) h3 dL_law_872 (Eq.refl 873) rfl (by decide) ?_
          refine xg_lload dL_law_873 (Eq.refl 875) rfl ?_
          refine xg_lif_eq (tgt := 881) dL_law_875 (Eq.refl 876) dL_law_876 (Eq.refl 879) (by decide) (hM6.aj h3) hz3 ?_ ?_
          · exact xg_jump (gL_law_881 hl tab nm sl sx hS hsl k s rc28 x1 h1 x2 h2 x3 h3 x4 h4 x5 h5 hr28 M6 hM6) (xsb_s (xsb_s (xsb_s (xsb_s (xsb_s (xsb_s (xsb_n (xsb_n (xsb_n xsb_0))))))))) (by omega) (by omega)
          · refine xg_iconst dL_law_879 (Eq.refl 880) ?_
            exact xg_zret rfl dL_law_880 rfl hM6 (by decide)
        · exact xg_jump (gL_law_881 hl tab nm sl sx hS hsl k s rc28 x1 h1 x2 h2 x3 h3 x4 h4 x5 h5 hr28 M6 hM6) (xsb_s (xsb_s (xsb_s (xsb_s (xsb_s (xsb_s (xsb_n (xsb_n (xsb_n xsb_0))))))))) (by omega) (by omega)
      · refine xg_iconst dL_law_863 (Eq.refl 864) ?_
        exact xg_zret rfl dL_law_864 rfl hM6 (by decide)
    · intro e M9 he hM9
      exact xgx_none
  · intro e M9 he hM9
    exact xgx_none
theorem gL_law_814 {l : Launch} {G : xG} (hl : l.stackTraces = false) (tab : List ExceptionTableEntry) (nm : String) (sl : Nat) (sx : Nat → Int32) (hS : G.2.2.2.1.2 = (sl, sx)) (hsl : sl ≤ 2147483647) (k s : Nat) (rc28 : Int → xM → xO) (x1 : Nat) (h1 : xOb 11 x1) (x2 : Nat) (h2 : xOb 12 x2) (x3 : Nat) (h3 : xAn 1 1 x3) (x4 : Nat) (h4 : xAn 2 1 x4) (x5 : Int) (h5 : R32 x5) (hr28 : ∀ w5 : Int, R32 w5 → ∀ M : xM, xcan M → Gv l G (uL_law tab nm) 21 1 k s 28 [some (.ref xSCR), some (.ref x1), some (.ref x2), some (.ref x3), some (.ref x4), some (iv w5), none, none, none] [] M (rc28 w5 M)) (M : xM) (hM : xcan M) : Gv l G (uL_law tab nm) 21 1 k s 814 [some (.ref xSCR), some (.ref x1), some (.ref x2), some (.ref x3), some (.ref x4), some (iv x5), none, none, none] [] M (fL_law_814 sl sx rc28 x1 x2 x3 x4 x5 M) := by
  unfold fL_law_814
  refine xg_goto (tgt := 3031) dL_law_814 (by decide) ?_
  exact xg_jump (gL_law_3031 hl tab nm sl sx hS hsl k s rc28 x1 h1 x2 h2 x3 h3 x4 h4 x5 h5 hr28 M hM) (xsb_s (xsb_s (xsb_s (xsb_s (xsb_s (xsb_s (xsb_n (xsb_n (xsb_n xsb_0))))))))) (by omega) (by omega)
theorem gL_law_738 {l : Launch} {G : xG} (hl : l.stackTraces = false) (tab : List ExceptionTableEntry) (nm : String) (sl : Nat) (sx : Nat → Int32) (hS : G.2.2.2.1.2 = (sl, sx)) (hsl : sl ≤ 2147483647) (k s : Nat) (rc28 : Int → xM → xO) (x1 : Nat) (h1 : xOb 11 x1) (x2 : Nat) (h2 : xOb 12 x2) (x3 : Nat) (h3 : xAn 1 1 x3) (x4 : Nat) (h4 : xAn 2 1 x4) (x5 : Int) (h5 : R32 x5) (hr28 : ∀ w5 : Int, R32 w5 → ∀ M : xM, xcan M → Gv l G (uL_law tab nm) 21 1 k s 28 [some (.ref xSCR), some (.ref x1), some (.ref x2), some (.ref x3), some (.ref x4), some (iv w5), none, none, none] [] M (rc28 w5 M)) (M : xM) (hM : xcan M) : Gv l G (uL_law tab nm) 21 1 (k + 11) (s + 66) 738 [some (.ref xSCR), some (.ref x1), some (.ref x2), some (.ref x3), some (.ref x4), some (iv x5), none, none, none] [] M (fL_law_738 sl sx rc28 x1 x2 x3 x4 x5 M) := by
  unfold fL_law_738
  refine xg_aload_n dL_law_738 (Eq.refl 739) rfl ?_
  refine xg_aload_n dL_law_739 (Eq.refl 740) rfl ?_
  refine xg_iload dL_law_740 (Eq.refl 742) rfl ?_
  refine xg_iconst dL_law_742 (Eq.refl 743) ?_
  refine xg_iadd dL_law_743 (Eq.refl 744) ?_
  refine xg_sld hS hsl dL_law_744 (Eq.refl 745) ?_
  refine xg_aload_n dL_law_745 (Eq.refl 746) rfl ?_
  refine xg_iload dL_law_746 (Eq.refl 748) rfl ?_
  refine xg_iconst dL_law_748 (Eq.refl 749) ?_
  refine xg_iadd dL_law_749 (Eq.refl 750) ?_
  refine xg_sld hS hsl dL_law_750 (Eq.refl 751) ?_
  refine xg_aload_n dL_law_751 (Eq.refl 752) rfl ?_
  refine xg_iload dL_law_752 (Eq.refl 754) rfl ?_
  refine xg_iconst dL_law_754 (Eq.refl 755) ?_
  refine xg_iadd dL_law_755 (Eq.refl 756) ?_
  refine xg_sld hS hsl dL_law_756 (Eq.refl 757) ?_
  refine xg_aload_n dL_law_757 (Eq.refl 758) rfl ?_
  refine xg_callWC_I (kc := k) (ks := s) (st := []) (mL_block hl x1 h1 (sx (w32 (x5 + 1)).toNat).toInt (xsx_r _) (sx (w32 (x5 + 2)).toNat).toInt (xsx_r _) (sx (w32 (x5 + 3)).toNat).toInt (xsx_r _) x3 (xAn.l h3) M hM) bL_block xq_297 rfl (by decide) (by decide) dL_law_758 (Eq.refl 761) rfl (by omega) (by omega) ?_
  intro z1 M2 hz1 hM2
  refine xg_istore (ls2 := [some (.ref xSCR), some (.ref x1), some (.ref x2), some (.ref x3), some (.ref x4), some (iv x5), some (iv z1), none, none]) dL_law_761 (Eq.refl 763) (show 6 < 9 by decide) rfl ?_
  refine xg_aload_n dL_law_763 (Eq.refl 764) rfl ?_
  refine xg_aload_n dL_law_764 (Eq.refl 765) rfl ?_
  refine xg_iload dL_law_765 (Eq.refl 767) rfl ?_
  refine xg_iconst dL_law_767 (Eq.refl 768) ?_
  refine xg_iadd dL_law_768 (Eq.refl 769) ?_
  refine xg_sld hS hsl dL_law_769 (Eq.refl 770) ?_
  refine xg_aload_n dL_law_770 (Eq.refl 771) rfl ?_
  refine xg_iload dL_law_771 (Eq.refl 773) rfl ?_
  refine xg_iconst dL_law_773 (Eq.refl 774) ?_
  refine xg_iadd dL_law_774 (Eq.refl 775) ?_
  refine xg_sld hS hsl dL_law_775 (Eq.refl 776) ?_
  refine xg_aload_n dL_law_776 (Eq.refl 777) rfl ?_
  refine xg_iload dL_law_777 (Eq.refl 779) rfl ?_
  refine xg_iconst dL_law_779 (Eq.refl 780) ?_
  refine xg_iadd dL_law_780 (Eq.refl 781) ?_
  refine xg_sld hS hsl dL_law_781 (Eq.refl 782) ?_
  refine xg_callVC_J (kc := k) (ks := s) (st := []) (mX12_block hl x2 h2 (sx (w32 (x5 + 1)).toNat).toInt (xsx_r _) (sx (w32 (x5 + 2)).toNat).toInt (xsx_r _) (sx (w32 (x5 + 3)).toNat).toInt (xsx_r _) M2 hM2) bX12_block xcl12 h2 rfl xq_316 rfl (by decide) (by decide) dL_law_782 (Eq.refl 785) rfl (by omega) (by omega) ?_ ?_
  · intro z3 M4 hz3 hM4
    refine xg_lstore (ls2 := [some (.ref xSCR), some (.ref x1), some (.ref x2), some (.ref x3), some (.ref x4), some (iv x5), some (iv z1), some (jv z3), none]) dL_law_785 (Eq.refl 787) (show 7 + 1 < 9 by decide) rfl ?_
    refine xg_aload_n dL_law_787 (Eq.refl 788) rfl ?_
    refine xg_callVC_I (kc := k) (ks := s) (st := []) (mX12_thrown hl x2 h2 M4 hM4) bX12_thrown xcl12 h2 rfl xq_192 rfl (by decide) (by decide) dL_law_788 (Eq.refl 791) rfl (by omega) (by omega) ?_ ?_
    · intro z5 M6 hz5 hM6
      refine xg_iload dL_law_791 (Eq.refl 793) rfl ?_
      refine xg_icmp_eq (tgt := 798) dL_law_793 (Eq.refl 796) (by decide) hz5 hz1 ?_ ?_
      · refine xg_iload dL_law_798 (Eq.refl 800) rfl ?_
        refine xg_if_ne (tgt := 814) dL_law_800 (Eq.refl 803) (by decide) hz1 ?_ ?_
        · refine xg_aload_n dL_law_803 (Eq.refl 804) rfl ?_
          refine xg_iconst dL_law_804 (Eq.refl 805) ?_
          refine xg_laldk (k := 0) h3 dL_law_805 (Eq.refl 806) rfl (by decide) ?_
          refine xg_lload dL_law_806 (Eq.refl 808) rfl ?_
          refine xg_lif_eq (tgt := 814) dL_law_808 (Eq.refl 809) dL_law_809 (Eq.refl 812) (by decide) (hM6.aj h3) hz3 ?_ ?_
          · exact xg_jump (gL_law_814 hl tab nm sl sx hS hsl k s rc28 x1 h1 x2 h2 x3 h3 x4 h4 x5 h5 hr28 M6 hM6) (xsb_s (xsb_s (xsb_s (xsb_s (xsb_s (xsb_s (xsb_n (xsb_n (xsb_n xsb_0))))))))) (by omega) (by omega)
          · refine xg_iconst dL_law_812 (Eq.refl 813) ?_
            exact xg_zret rfl dL_law_813 rfl hM6 (by decide)
        · exact xg_jump (gL_law_814 hl tab nm sl sx hS hsl k s rc28 x1 h1 x2 h2 x3 h3 x4 h4 x5 h5 hr28 M6 hM6) (xsb_s (xsb_s (xsb_s (xsb_s (xsb_s (xsb_s (xsb_n (xsb_n (xsb_n xsb_0))))))))) (by omega) (by omega)
      · refine xg_iconst dL_law_796 (Eq.refl 797) ?_
        exact xg_zret rfl dL_law_797 rfl hM6 (by decide)
    · intro e M9 he hM9
      exact xgx_none
  · intro e M9 he hM9
    exact xgx_none
theorem gL_law_735 {l : Launch} {G : xG} (hl : l.stackTraces = false) (tab : List ExceptionTableEntry) (nm : String) (sl : Nat) (sx : Nat → Int32) (hS : G.2.2.2.1.2 = (sl, sx)) (hsl : sl ≤ 2147483647) (k s : Nat) (rc28 : Int → xM → xO) (x1 : Nat) (h1 : xOb 11 x1) (x2 : Nat) (h2 : xOb 12 x2) (x3 : Nat) (h3 : xAn 1 1 x3) (x4 : Nat) (h4 : xAn 2 1 x4) (x5 : Int) (h5 : R32 x5) (hr28 : ∀ w5 : Int, R32 w5 → ∀ M : xM, xcan M → Gv l G (uL_law tab nm) 21 1 k s 28 [some (.ref xSCR), some (.ref x1), some (.ref x2), some (.ref x3), some (.ref x4), some (iv w5), none, none, none] [] M (rc28 w5 M)) (M : xM) (hM : xcan M) : Gv l G (uL_law tab nm) 21 1 k s 735 [some (.ref xSCR), some (.ref x1), some (.ref x2), some (.ref x3), some (.ref x4), some (iv x5), none, none, none] [] M (fL_law_735 sl sx rc28 x1 x2 x3 x4 x5 M) := by
  unfold fL_law_735
  refine xg_goto (tgt := 3031) dL_law_735 (by decide) ?_
  exact xg_jump (gL_law_3031 hl tab nm sl sx hS hsl k s rc28 x1 h1 x2 h2 x3 h3 x4 h4 x5 h5 hr28 M hM) (xsb_s (xsb_s (xsb_s (xsb_s (xsb_s (xsb_s (xsb_n (xsb_n (xsb_n xsb_0))))))))) (by omega) (by omega)
theorem gL_law_670 {l : Launch} {G : xG} (hl : l.stackTraces = false) (tab : List ExceptionTableEntry) (nm : String) (sl : Nat) (sx : Nat → Int32) (hS : G.2.2.2.1.2 = (sl, sx)) (hsl : sl ≤ 2147483647) (k s : Nat) (rc28 : Int → xM → xO) (x1 : Nat) (h1 : xOb 11 x1) (x2 : Nat) (h2 : xOb 12 x2) (x3 : Nat) (h3 : xAn 1 1 x3) (x4 : Nat) (h4 : xAn 2 1 x4) (x5 : Int) (h5 : R32 x5) (hr28 : ∀ w5 : Int, R32 w5 → ∀ M : xM, xcan M → Gv l G (uL_law tab nm) 21 1 k s 28 [some (.ref xSCR), some (.ref x1), some (.ref x2), some (.ref x3), some (.ref x4), some (iv w5), none, none, none] [] M (rc28 w5 M)) (M : xM) (hM : xcan M) : Gv l G (uL_law tab nm) 21 1 (k + 11) (s + 66) 670 [some (.ref xSCR), some (.ref x1), some (.ref x2), some (.ref x3), some (.ref x4), some (iv x5), none, none, none] [] M (fL_law_670 sl sx rc28 x1 x2 x3 x4 x5 M) := by
  unfold fL_law_670
  refine xg_aload_n dL_law_670 (Eq.refl 671) rfl ?_
  refine xg_aload_n dL_law_671 (Eq.refl 672) rfl ?_
  refine xg_iload dL_law_672 (Eq.refl 674) rfl ?_
  refine xg_iconst dL_law_674 (Eq.refl 675) ?_
  refine xg_iadd dL_law_675 (Eq.refl 676) ?_
  refine xg_sld hS hsl dL_law_676 (Eq.refl 677) ?_
  refine xg_aload_n dL_law_677 (Eq.refl 678) rfl ?_
  refine xg_iload dL_law_678 (Eq.refl 680) rfl ?_
  refine xg_iconst dL_law_680 (Eq.refl 681) ?_
  refine xg_iadd dL_law_681 (Eq.refl 682) ?_
  refine xg_sld hS hsl dL_law_682 (Eq.refl 683) ?_
  refine xg_aload_n dL_law_683 (Eq.refl 684) rfl ?_
  refine xg_callWC_I (kc := k) (ks := s) (st := []) (mL_setPrice hl x1 h1 (sx (w32 (x5 + 1)).toNat).toInt (xsx_r _) (sx (w32 (x5 + 2)).toNat).toInt (xsx_r _) x3 (xAn.l h3) M hM) bL_setPrice xq_278 rfl (by decide) (by decide) dL_law_684 (Eq.refl 687) rfl (by omega) (by omega) ?_
  intro z1 M2 hz1 hM2
  refine xg_istore (ls2 := [some (.ref xSCR), some (.ref x1), some (.ref x2), some (.ref x3), some (.ref x4), some (iv x5), some (iv z1), none, none]) dL_law_687 (Eq.refl 689) (show 6 < 9 by decide) rfl ?_
  refine xg_aload_n dL_law_689 (Eq.refl 690) rfl ?_
  refine xg_aload_n dL_law_690 (Eq.refl 691) rfl ?_
  refine xg_iload dL_law_691 (Eq.refl 693) rfl ?_
  refine xg_iconst dL_law_693 (Eq.refl 694) ?_
  refine xg_iadd dL_law_694 (Eq.refl 695) ?_
  refine xg_sld hS hsl dL_law_695 (Eq.refl 696) ?_
  refine xg_aload_n dL_law_696 (Eq.refl 697) rfl ?_
  refine xg_iload dL_law_697 (Eq.refl 699) rfl ?_
  refine xg_iconst dL_law_699 (Eq.refl 700) ?_
  refine xg_iadd dL_law_700 (Eq.refl 701) ?_
  refine xg_sld hS hsl dL_law_701 (Eq.refl 702) ?_
  refine xg_callVC_I (kc := k) (ks := s) (st := []) (mX12_setPrice hl x2 h2 (sx (w32 (x5 + 1)).toNat).toInt (xsx_r _) (sx (w32 (x5 + 2)).toNat).toInt (xsx_r _) M2 hM2) bX12_setPrice xcl12 h2 rfl xq_289 rfl (by decide) (by decide) dL_law_702 (Eq.refl 705) rfl (by omega) (by omega) ?_ ?_
  · intro z3 M4 hz3 hM4
    refine xg_istore (ls2 := [some (.ref xSCR), some (.ref x1), some (.ref x2), some (.ref x3), some (.ref x4), some (iv x5), some (iv z1), some (iv z3), none]) dL_law_705 (Eq.refl 707) (show 7 < 9 by decide) rfl ?_
    refine xg_aload_n dL_law_707 (Eq.refl 708) rfl ?_
    refine xg_callVC_I (kc := k) (ks := s) (st := []) (mX12_thrown hl x2 h2 M4 hM4) bX12_thrown xcl12 h2 rfl xq_192 rfl (by decide) (by decide) dL_law_708 (Eq.refl 711) rfl (by omega) (by omega) ?_ ?_
    · intro z5 M6 hz5 hM6
      refine xg_iload dL_law_711 (Eq.refl 713) rfl ?_
      refine xg_icmp_eq (tgt := 718) dL_law_713 (Eq.refl 716) (by decide) hz5 hz1 ?_ ?_
      · refine xg_iload dL_law_718 (Eq.refl 720) rfl ?_
        refine xg_if_ne (tgt := 735) dL_law_720 (Eq.refl 723) (by decide) hz1 ?_ ?_
        · refine xg_aload_n dL_law_723 (Eq.refl 724) rfl ?_
          refine xg_iconst dL_law_724 (Eq.refl 725) ?_
          refine xg_laldk (k := 0) h3 dL_law_725 (Eq.refl 726) rfl (by decide) ?_
          refine xg_iload dL_law_726 (Eq.refl 728) rfl ?_
          refine xg_i2l dL_law_728 (Eq.refl 729) hz3 ?_
          refine xg_lif_eq (tgt := 735) dL_law_729 (Eq.refl 730) dL_law_730 (Eq.refl 733) (by decide) (hM6.aj h3) (R32.j hz3) ?_ ?_
          · exact xg_jump (gL_law_735 hl tab nm sl sx hS hsl k s rc28 x1 h1 x2 h2 x3 h3 x4 h4 x5 h5 hr28 M6 hM6) (xsb_s (xsb_s (xsb_s (xsb_s (xsb_s (xsb_s (xsb_n (xsb_n (xsb_n xsb_0))))))))) (by omega) (by omega)
          · refine xg_iconst dL_law_733 (Eq.refl 734) ?_
            exact xg_zret rfl dL_law_734 rfl hM6 (by decide)
        · exact xg_jump (gL_law_735 hl tab nm sl sx hS hsl k s rc28 x1 h1 x2 h2 x3 h3 x4 h4 x5 h5 hr28 M6 hM6) (xsb_s (xsb_s (xsb_s (xsb_s (xsb_s (xsb_s (xsb_n (xsb_n (xsb_n xsb_0))))))))) (by omega) (by omega)
      · refine xg_iconst dL_law_716 (Eq.refl 717) ?_
        exact xg_zret rfl dL_law_717 rfl hM6 (by decide)
    · intro e M9 he hM9
      exact xgx_none
  · intro e M9 he hM9
    exact xgx_none
theorem gL_law_667 {l : Launch} {G : xG} (hl : l.stackTraces = false) (tab : List ExceptionTableEntry) (nm : String) (sl : Nat) (sx : Nat → Int32) (hS : G.2.2.2.1.2 = (sl, sx)) (hsl : sl ≤ 2147483647) (k s : Nat) (rc28 : Int → xM → xO) (x1 : Nat) (h1 : xOb 11 x1) (x2 : Nat) (h2 : xOb 12 x2) (x3 : Nat) (h3 : xAn 1 1 x3) (x4 : Nat) (h4 : xAn 2 1 x4) (x5 : Int) (h5 : R32 x5) (hr28 : ∀ w5 : Int, R32 w5 → ∀ M : xM, xcan M → Gv l G (uL_law tab nm) 21 1 k s 28 [some (.ref xSCR), some (.ref x1), some (.ref x2), some (.ref x3), some (.ref x4), some (iv w5), none, none, none] [] M (rc28 w5 M)) (M : xM) (hM : xcan M) : Gv l G (uL_law tab nm) 21 1 k s 667 [some (.ref xSCR), some (.ref x1), some (.ref x2), some (.ref x3), some (.ref x4), some (iv x5), none, none, none] [] M (fL_law_667 sl sx rc28 x1 x2 x3 x4 x5 M) := by
  unfold fL_law_667
  refine xg_goto (tgt := 3031) dL_law_667 (by decide) ?_
  exact xg_jump (gL_law_3031 hl tab nm sl sx hS hsl k s rc28 x1 h1 x2 h2 x3 h3 x4 h4 x5 h5 hr28 M hM) (xsb_s (xsb_s (xsb_s (xsb_s (xsb_s (xsb_s (xsb_n (xsb_n (xsb_n xsb_0))))))))) (by omega) (by omega)
theorem gL_law_566 {l : Launch} {G : xG} (hl : l.stackTraces = false) (tab : List ExceptionTableEntry) (nm : String) (sl : Nat) (sx : Nat → Int32) (hS : G.2.2.2.1.2 = (sl, sx)) (hsl : sl ≤ 2147483647) (k s : Nat) (rc28 : Int → xM → xO) (x1 : Nat) (h1 : xOb 11 x1) (x2 : Nat) (h2 : xOb 12 x2) (x3 : Nat) (h3 : xAn 1 1 x3) (x4 : Nat) (h4 : xAn 2 1 x4) (x5 : Int) (h5 : R32 x5) (hr28 : ∀ w5 : Int, R32 w5 → ∀ M : xM, xcan M → Gv l G (uL_law tab nm) 21 1 k s 28 [some (.ref xSCR), some (.ref x1), some (.ref x2), some (.ref x3), some (.ref x4), some (iv w5), none, none, none] [] M (rc28 w5 M)) (M : xM) (hM : xcan M) : Gv l G (uL_law tab nm) 21 1 (k + 11) (s + 66) 566 [some (.ref xSCR), some (.ref x1), some (.ref x2), some (.ref x3), some (.ref x4), some (iv x5), none, none, none] [] M (fL_law_566 sl sx rc28 x1 x2 x3 x4 x5 M) := by
  unfold fL_law_566
  refine xg_aload_n dL_law_566 (Eq.refl 567) rfl ?_
  refine xg_aload_n dL_law_567 (Eq.refl 568) rfl ?_
  refine xg_iload dL_law_568 (Eq.refl 570) rfl ?_
  refine xg_iconst dL_law_570 (Eq.refl 571) ?_
  refine xg_iadd dL_law_571 (Eq.refl 572) ?_
  refine xg_sld hS hsl dL_law_572 (Eq.refl 573) ?_
  refine xg_aload_n dL_law_573 (Eq.refl 574) rfl ?_
  refine xg_iload dL_law_574 (Eq.refl 576) rfl ?_
  refine xg_iconst dL_law_576 (Eq.refl 577) ?_
  refine xg_iadd dL_law_577 (Eq.refl 578) ?_
  refine xg_sld hS hsl dL_law_578 (Eq.refl 579) ?_
  refine xg_aload_n dL_law_579 (Eq.refl 580) rfl ?_
  refine xg_iload dL_law_580 (Eq.refl 582) rfl ?_
  refine xg_iconst dL_law_582 (Eq.refl 583) ?_
  refine xg_iadd dL_law_583 (Eq.refl 584) ?_
  refine xg_sld hS hsl dL_law_584 (Eq.refl 585) ?_
  refine xg_aload_n dL_law_585 (Eq.refl 586) rfl ?_
  refine xg_iload dL_law_586 (Eq.refl 588) rfl ?_
  refine xg_iconst dL_law_588 (Eq.refl 589) ?_
  refine xg_iadd dL_law_589 (Eq.refl 590) ?_
  refine xg_sld hS hsl dL_law_590 (Eq.refl 591) ?_
  refine xg_aload_n dL_law_591 (Eq.refl 592) rfl ?_
  refine xg_iload dL_law_592 (Eq.refl 594) rfl ?_
  refine xg_iconst dL_law_594 (Eq.refl 595) ?_
  refine xg_iadd dL_law_595 (Eq.refl 596) ?_
  refine xg_sld hS hsl dL_law_596 (Eq.refl 597) ?_
  refine xg_aload_n dL_law_597 (Eq.refl 598) rfl ?_
  refine xg_callWC_I (kc := k) (ks := s) (st := []) (mL_issue hl x1 h1 (sx (w32 (x5 + 1)).toNat).toInt (xsx_r _) (sx (w32 (x5 + 2)).toNat).toInt (xsx_r _) (sx (w32 (x5 + 3)).toNat).toInt (xsx_r _) (sx (w32 (x5 + 4)).toNat).toInt (xsx_r _) (sx (w32 (x5 + 5)).toNat).toInt (xsx_r _) x3 (xAn.l h3) M hM) bL_issue xq_244 rfl (by decide) (by decide) dL_law_598 (Eq.refl 601) rfl (by omega) (by omega) ?_
  intro z1 M2 hz1 hM2
  refine xg_istore (ls2 := [some (.ref xSCR), some (.ref x1), some (.ref x2), some (.ref x3), some (.ref x4), some (iv x5), some (iv z1), none, none]) dL_law_601 (Eq.refl 603) (show 6 < 9 by decide) rfl ?_
  refine xg_aload_n dL_law_603 (Eq.refl 604) rfl ?_
  refine xg_aload_n dL_law_604 (Eq.refl 605) rfl ?_
  refine xg_iload dL_law_605 (Eq.refl 607) rfl ?_
  refine xg_iconst dL_law_607 (Eq.refl 608) ?_
  refine xg_iadd dL_law_608 (Eq.refl 609) ?_
  refine xg_sld hS hsl dL_law_609 (Eq.refl 610) ?_
  refine xg_aload_n dL_law_610 (Eq.refl 611) rfl ?_
  refine xg_iload dL_law_611 (Eq.refl 613) rfl ?_
  refine xg_iconst dL_law_613 (Eq.refl 614) ?_
  refine xg_iadd dL_law_614 (Eq.refl 615) ?_
  refine xg_sld hS hsl dL_law_615 (Eq.refl 616) ?_
  refine xg_aload_n dL_law_616 (Eq.refl 617) rfl ?_
  refine xg_iload dL_law_617 (Eq.refl 619) rfl ?_
  refine xg_iconst dL_law_619 (Eq.refl 620) ?_
  refine xg_iadd dL_law_620 (Eq.refl 621) ?_
  refine xg_sld hS hsl dL_law_621 (Eq.refl 622) ?_
  refine xg_aload_n dL_law_622 (Eq.refl 623) rfl ?_
  refine xg_iload dL_law_623 (Eq.refl 625) rfl ?_
  refine xg_iconst dL_law_625 (Eq.refl 626) ?_
  refine xg_iadd dL_law_626 (Eq.refl 627) ?_
  refine xg_sld hS hsl dL_law_627 (Eq.refl 628) ?_
  refine xg_aload_n dL_law_628 (Eq.refl 629) rfl ?_
  refine xg_iload dL_law_629 (Eq.refl 631) rfl ?_
  refine xg_iconst dL_law_631 (Eq.refl 632) ?_
  refine xg_iadd dL_law_632 (Eq.refl 633) ?_
  refine xg_sld hS hsl dL_law_633 (Eq.refl 634) ?_
  refine xg_callVC_I (kc := k) (ks := s) (st := []) (mX12_issue hl x2 h2 (sx (w32 (x5 + 1)).toNat).toInt (xsx_r _) (sx (w32 (x5 + 2)).toNat).toInt (xsx_r _) (sx (w32 (x5 + 3)).toNat).toInt (xsx_r _) (sx (w32 (x5 + 4)).toNat).toInt (xsx_r _) (sx (w32 (x5 + 5)).toNat).toInt (xsx_r _) M2 hM2) bX12_issue xcl12 h2 rfl xq_270 rfl (by decide) (by decide) dL_law_634 (Eq.refl 637) rfl (by omega) (by omega) ?_ ?_
  · intro z3 M4 hz3 hM4
    refine xg_istore (ls2 := [some (.ref xSCR), some (.ref x1), some (.ref x2), some (.ref x3), some (.ref x4), some (iv x5), some (iv z1), some (iv z3), none]) dL_law_637 (Eq.refl 639) (show 7 < 9 by decide) rfl ?_
    refine xg_aload_n dL_law_639 (Eq.refl 640) rfl ?_
    refine xg_callVC_I (kc := k) (ks := s) (st := []) (mX12_thrown hl x2 h2 M4 hM4) bX12_thrown xcl12 h2 rfl xq_192 rfl (by decide) (by decide) dL_law_640 (Eq.refl 643) rfl (by omega) (by omega) ?_ ?_
    · intro z5 M6 hz5 hM6
      refine xg_iload dL_law_643 (Eq.refl 645) rfl ?_
      refine xg_icmp_eq (tgt := 650) dL_law_645 (Eq.refl 648) (by decide) hz5 hz1 ?_ ?_
      · refine xg_iload dL_law_650 (Eq.refl 652) rfl ?_
        refine xg_if_ne (tgt := 667) dL_law_652 (Eq.refl 655) (by decide) hz1 ?_ ?_
        · refine xg_aload_n dL_law_655 (Eq.refl 656) rfl ?_
          refine xg_iconst dL_law_656 (Eq.refl 657) ?_
          refine xg_laldk (k := 0) h3 dL_law_657 (Eq.refl 658) rfl (by decide) ?_
          refine xg_iload dL_law_658 (Eq.refl 660) rfl ?_
          refine xg_i2l dL_law_660 (Eq.refl 661) hz3 ?_
          refine xg_lif_eq (tgt := 667) dL_law_661 (Eq.refl 662) dL_law_662 (Eq.refl 665) (by decide) (hM6.aj h3) (R32.j hz3) ?_ ?_
          · exact xg_jump (gL_law_667 hl tab nm sl sx hS hsl k s rc28 x1 h1 x2 h2 x3 h3 x4 h4 x5 h5 hr28 M6 hM6) (xsb_s (xsb_s (xsb_s (xsb_s (xsb_s (xsb_s (xsb_n (xsb_n (xsb_n xsb_0))))))))) (by omega) (by omega)
          · refine xg_iconst dL_law_665 (Eq.refl 666) ?_
            exact xg_zret rfl dL_law_666 rfl hM6 (by decide)
        · exact xg_jump (gL_law_667 hl tab nm sl sx hS hsl k s rc28 x1 h1 x2 h2 x3 h3 x4 h4 x5 h5 hr28 M6 hM6) (xsb_s (xsb_s (xsb_s (xsb_s (xsb_s (xsb_s (xsb_n (xsb_n (xsb_n xsb_0))))))))) (by omega) (by omega)
      · refine xg_iconst dL_law_648 (Eq.refl 649) ?_
        exact xg_zret rfl dL_law_649 rfl hM6 (by decide)
    · intro e M9 he hM9
      exact xgx_none
  · intro e M9 he hM9
    exact xgx_none
theorem gL_law_563 {l : Launch} {G : xG} (hl : l.stackTraces = false) (tab : List ExceptionTableEntry) (nm : String) (sl : Nat) (sx : Nat → Int32) (hS : G.2.2.2.1.2 = (sl, sx)) (hsl : sl ≤ 2147483647) (k s : Nat) (rc28 : Int → xM → xO) (x1 : Nat) (h1 : xOb 11 x1) (x2 : Nat) (h2 : xOb 12 x2) (x3 : Nat) (h3 : xAn 1 1 x3) (x4 : Nat) (h4 : xAn 2 1 x4) (x5 : Int) (h5 : R32 x5) (hr28 : ∀ w5 : Int, R32 w5 → ∀ M : xM, xcan M → Gv l G (uL_law tab nm) 21 1 k s 28 [some (.ref xSCR), some (.ref x1), some (.ref x2), some (.ref x3), some (.ref x4), some (iv w5), none, none, none] [] M (rc28 w5 M)) (M : xM) (hM : xcan M) : Gv l G (uL_law tab nm) 21 1 k s 563 [some (.ref xSCR), some (.ref x1), some (.ref x2), some (.ref x3), some (.ref x4), some (iv x5), none, none, none] [] M (fL_law_563 sl sx rc28 x1 x2 x3 x4 x5 M) := by
  unfold fL_law_563
  refine xg_goto (tgt := 3031) dL_law_563 (by decide) ?_
  exact xg_jump (gL_law_3031 hl tab nm sl sx hS hsl k s rc28 x1 h1 x2 h2 x3 h3 x4 h4 x5 h5 hr28 M hM) (xsb_s (xsb_s (xsb_s (xsb_s (xsb_s (xsb_s (xsb_n (xsb_n (xsb_n xsb_0))))))))) (by omega) (by omega)
theorem gL_law_486 {l : Launch} {G : xG} (hl : l.stackTraces = false) (tab : List ExceptionTableEntry) (nm : String) (sl : Nat) (sx : Nat → Int32) (hS : G.2.2.2.1.2 = (sl, sx)) (hsl : sl ≤ 2147483647) (k s : Nat) (rc28 : Int → xM → xO) (x1 : Nat) (h1 : xOb 11 x1) (x2 : Nat) (h2 : xOb 12 x2) (x3 : Nat) (h3 : xAn 1 1 x3) (x4 : Nat) (h4 : xAn 2 1 x4) (x5 : Int) (h5 : R32 x5) (hr28 : ∀ w5 : Int, R32 w5 → ∀ M : xM, xcan M → Gv l G (uL_law tab nm) 21 1 k s 28 [some (.ref xSCR), some (.ref x1), some (.ref x2), some (.ref x3), some (.ref x4), some (iv w5), none, none, none] [] M (rc28 w5 M)) (M : xM) (hM : xcan M) : Gv l G (uL_law tab nm) 21 1 (k + 11) (s + 66) 486 [some (.ref xSCR), some (.ref x1), some (.ref x2), some (.ref x3), some (.ref x4), some (iv x5), none, none, none] [] M (fL_law_486 sl sx rc28 x1 x2 x3 x4 x5 M) := by
  unfold fL_law_486
  refine xg_aload_n dL_law_486 (Eq.refl 487) rfl ?_
  refine xg_aload_n dL_law_487 (Eq.refl 488) rfl ?_
  refine xg_iload dL_law_488 (Eq.refl 490) rfl ?_
  refine xg_iconst dL_law_490 (Eq.refl 491) ?_
  refine xg_iadd dL_law_491 (Eq.refl 492) ?_
  refine xg_sld hS hsl dL_law_492 (Eq.refl 493) ?_
  refine xg_aload_n dL_law_493 (Eq.refl 494) rfl ?_
  refine xg_iload dL_law_494 (Eq.refl 496) rfl ?_
  refine xg_iconst dL_law_496 (Eq.refl 497) ?_
  refine xg_iadd dL_law_497 (Eq.refl 498) ?_
  refine xg_sld hS hsl dL_law_498 (Eq.refl 499) ?_
  refine xg_aload_n dL_law_499 (Eq.refl 500) rfl ?_
  refine xg_iload dL_law_500 (Eq.refl 502) rfl ?_
  refine xg_iconst dL_law_502 (Eq.refl 503) ?_
  refine xg_iadd dL_law_503 (Eq.refl 504) ?_
  refine xg_sld hS hsl dL_law_504 (Eq.refl 505) ?_
  refine xg_aload_n dL_law_505 (Eq.refl 506) rfl ?_
  refine xg_callWC_I (kc := k) (ks := s) (st := []) (mL_treaty hl x1 h1 (sx (w32 (x5 + 1)).toNat).toInt (xsx_r _) (sx (w32 (x5 + 2)).toNat).toInt (xsx_r _) (sx (w32 (x5 + 3)).toNat).toInt (xsx_r _) x3 (xAn.l h3) M hM) bL_treaty xq_224 rfl (by decide) (by decide) dL_law_506 (Eq.refl 509) rfl (by omega) (by omega) ?_
  intro z1 M2 hz1 hM2
  refine xg_istore (ls2 := [some (.ref xSCR), some (.ref x1), some (.ref x2), some (.ref x3), some (.ref x4), some (iv x5), some (iv z1), none, none]) dL_law_509 (Eq.refl 511) (show 6 < 9 by decide) rfl ?_
  refine xg_aload_n dL_law_511 (Eq.refl 512) rfl ?_
  refine xg_aload_n dL_law_512 (Eq.refl 513) rfl ?_
  refine xg_iload dL_law_513 (Eq.refl 515) rfl ?_
  refine xg_iconst dL_law_515 (Eq.refl 516) ?_
  refine xg_iadd dL_law_516 (Eq.refl 517) ?_
  refine xg_sld hS hsl dL_law_517 (Eq.refl 518) ?_
  refine xg_aload_n dL_law_518 (Eq.refl 519) rfl ?_
  refine xg_iload dL_law_519 (Eq.refl 521) rfl ?_
  refine xg_iconst dL_law_521 (Eq.refl 522) ?_
  refine xg_iadd dL_law_522 (Eq.refl 523) ?_
  refine xg_sld hS hsl dL_law_523 (Eq.refl 524) ?_
  refine xg_aload_n dL_law_524 (Eq.refl 525) rfl ?_
  refine xg_iload dL_law_525 (Eq.refl 527) rfl ?_
  refine xg_iconst dL_law_527 (Eq.refl 528) ?_
  refine xg_iadd dL_law_528 (Eq.refl 529) ?_
  refine xg_sld hS hsl dL_law_529 (Eq.refl 530) ?_
  refine xg_callVC_I (kc := k) (ks := s) (st := []) (mX12_treaty hl x2 h2 (sx (w32 (x5 + 1)).toNat).toInt (xsx_r _) (sx (w32 (x5 + 2)).toNat).toInt (xsx_r _) (sx (w32 (x5 + 3)).toNat).toInt (xsx_r _) M2 hM2) bX12_treaty xcl12 h2 rfl xq_239 rfl (by decide) (by decide) dL_law_530 (Eq.refl 533) rfl (by omega) (by omega) ?_ ?_
  · intro z3 M4 hz3 hM4
    refine xg_istore (ls2 := [some (.ref xSCR), some (.ref x1), some (.ref x2), some (.ref x3), some (.ref x4), some (iv x5), some (iv z1), some (iv z3), none]) dL_law_533 (Eq.refl 535) (show 7 < 9 by decide) rfl ?_
    refine xg_aload_n dL_law_535 (Eq.refl 536) rfl ?_
    refine xg_callVC_I (kc := k) (ks := s) (st := []) (mX12_thrown hl x2 h2 M4 hM4) bX12_thrown xcl12 h2 rfl xq_192 rfl (by decide) (by decide) dL_law_536 (Eq.refl 539) rfl (by omega) (by omega) ?_ ?_
    · intro z5 M6 hz5 hM6
      refine xg_iload dL_law_539 (Eq.refl 541) rfl ?_
      refine xg_icmp_eq (tgt := 546) dL_law_541 (Eq.refl 544) (by decide) hz5 hz1 ?_ ?_
      · refine xg_iload dL_law_546 (Eq.refl 548) rfl ?_
        refine xg_if_ne (tgt := 563) dL_law_548 (Eq.refl 551) (by decide) hz1 ?_ ?_
        · refine xg_aload_n dL_law_551 (Eq.refl 552) rfl ?_
          refine xg_iconst dL_law_552 (Eq.refl 553) ?_
          refine xg_laldk (k := 0) h3 dL_law_553 (Eq.refl 554) rfl (by decide) ?_
          refine xg_iload dL_law_554 (Eq.refl 556) rfl ?_
          refine xg_i2l dL_law_556 (Eq.refl 557) hz3 ?_
          refine xg_lif_eq (tgt := 563) dL_law_557 (Eq.refl 558) dL_law_558 (Eq.refl 561) (by decide) (hM6.aj h3) (R32.j hz3) ?_ ?_
          · exact xg_jump (gL_law_563 hl tab nm sl sx hS hsl k s rc28 x1 h1 x2 h2 x3 h3 x4 h4 x5 h5 hr28 M6 hM6) (xsb_s (xsb_s (xsb_s (xsb_s (xsb_s (xsb_s (xsb_n (xsb_n (xsb_n xsb_0))))))))) (by omega) (by omega)
          · refine xg_iconst dL_law_561 (Eq.refl 562) ?_
            exact xg_zret rfl dL_law_562 rfl hM6 (by decide)
        · exact xg_jump (gL_law_563 hl tab nm sl sx hS hsl k s rc28 x1 h1 x2 h2 x3 h3 x4 h4 x5 h5 hr28 M6 hM6) (xsb_s (xsb_s (xsb_s (xsb_s (xsb_s (xsb_s (xsb_n (xsb_n (xsb_n xsb_0))))))))) (by omega) (by omega)
      · refine xg_iconst dL_law_544 (Eq.refl 545) ?_
        exact xg_zret rfl dL_law_545 rfl hM6 (by decide)
    · intro e M9 he hM9
      exact xgx_none
  · intro e M9 he hM9
    exact xgx_none
theorem gL_law_483 {l : Launch} {G : xG} (hl : l.stackTraces = false) (tab : List ExceptionTableEntry) (nm : String) (sl : Nat) (sx : Nat → Int32) (hS : G.2.2.2.1.2 = (sl, sx)) (hsl : sl ≤ 2147483647) (k s : Nat) (rc28 : Int → xM → xO) (x1 : Nat) (h1 : xOb 11 x1) (x2 : Nat) (h2 : xOb 12 x2) (x3 : Nat) (h3 : xAn 1 1 x3) (x4 : Nat) (h4 : xAn 2 1 x4) (x5 : Int) (h5 : R32 x5) (hr28 : ∀ w5 : Int, R32 w5 → ∀ M : xM, xcan M → Gv l G (uL_law tab nm) 21 1 k s 28 [some (.ref xSCR), some (.ref x1), some (.ref x2), some (.ref x3), some (.ref x4), some (iv w5), none, none, none] [] M (rc28 w5 M)) (M : xM) (hM : xcan M) : Gv l G (uL_law tab nm) 21 1 k s 483 [some (.ref xSCR), some (.ref x1), some (.ref x2), some (.ref x3), some (.ref x4), some (iv x5), none, none, none] [] M (fL_law_483 sl sx rc28 x1 x2 x3 x4 x5 M) := by
  unfold fL_law_483
  refine xg_goto (tgt := 3031) dL_law_483 (by decide) ?_
  exact xg_jump (gL_law_3031 hl tab nm sl sx hS hsl k s rc28 x1 h1 x2 h2 x3 h3 x4 h4 x5 h5 hr28 M hM) (xsb_s (xsb_s (xsb_s (xsb_s (xsb_s (xsb_s (xsb_n (xsb_n (xsb_n xsb_0))))))))) (by omega) (by omega)
theorem gL_law_477 {l : Launch} {G : xG} (hl : l.stackTraces = false) (tab : List ExceptionTableEntry) (nm : String) (sl : Nat) (sx : Nat → Int32) (hS : G.2.2.2.1.2 = (sl, sx)) (hsl : sl ≤ 2147483647) (k s : Nat) (rc28 : Int → xM → xO) (x1 : Nat) (h1 : xOb 11 x1) (x2 : Nat) (h2 : xOb 12 x2) (x3 : Nat) (h3 : xAn 1 1 x3) (x4 : Nat) (h4 : xAn 2 1 x4) (x5 : Int) (h5 : R32 x5) (s0 : Int) (hs0 : R64 s0) (s1 : Int) (hs1 : R64 s1) (hr28 : ∀ w5 : Int, R32 w5 → ∀ M : xM, xcan M → Gv l G (uL_law tab nm) 21 1 k s 28 [some (.ref xSCR), some (.ref x1), some (.ref x2), some (.ref x3), some (.ref x4), some (iv w5), none, none, none] [] M (rc28 w5 M)) (M : xM) (hM : xcan M) : Gv l G (uL_law tab nm) 21 1 k s 477 [some (.ref xSCR), some (.ref x1), some (.ref x2), some (.ref x3), some (.ref x4), some (iv x5), none, none, none] [jv s0, jv s1] M (fL_law_477 sl sx rc28 x1 x2 x3 x4 x5 s0 s1 M) := by
  unfold fL_law_477
  refine xg_lif_eq (tgt := 483) dL_law_477 (Eq.refl 478) dL_law_478 (Eq.refl 481) (by decide) hs1 hs0 ?_ ?_
  · exact xg_jump (gL_law_483 hl tab nm sl sx hS hsl k s rc28 x1 h1 x2 h2 x3 h3 x4 h4 x5 h5 hr28 M hM) (xsb_s (xsb_s (xsb_s (xsb_s (xsb_s (xsb_s (xsb_n (xsb_n (xsb_n xsb_0))))))))) (by omega) (by omega)
  · refine xg_iconst dL_law_481 (Eq.refl 482) ?_
    exact xg_zret rfl dL_law_482 rfl hM (by decide)
theorem gL_law_423 {l : Launch} {G : xG} (hl : l.stackTraces = false) (tab : List ExceptionTableEntry) (nm : String) (sl : Nat) (sx : Nat → Int32) (hS : G.2.2.2.1.2 = (sl, sx)) (hsl : sl ≤ 2147483647) (k s : Nat) (rc28 : Int → xM → xO) (x1 : Nat) (h1 : xOb 11 x1) (x2 : Nat) (h2 : xOb 12 x2) (x3 : Nat) (h3 : xAn 1 1 x3) (x4 : Nat) (h4 : xAn 2 1 x4) (x5 : Int) (h5 : R32 x5) (hr28 : ∀ w5 : Int, R32 w5 → ∀ M : xM, xcan M → Gv l G (uL_law tab nm) 21 1 k s 28 [some (.ref xSCR), some (.ref x1), some (.ref x2), some (.ref x3), some (.ref x4), some (iv w5), none, none, none] [] M (rc28 w5 M)) (M : xM) (hM : xcan M) : Gv l G (uL_law tab nm) 21 1 (k + 11) (s + 66) 423 [some (.ref xSCR), some (.ref x1), some (.ref x2), some (.ref x3), some (.ref x4), some (iv x5), none, none, none] [] M (fL_law_423 sl sx rc28 x1 x2 x3 x4 x5 M) := by
  unfold fL_law_423
  refine xg_aload_n dL_law_423 (Eq.refl 424) rfl ?_
  refine xg_aload_n dL_law_424 (Eq.refl 425) rfl ?_
  refine xg_iload dL_law_425 (Eq.refl 427) rfl ?_
  refine xg_iconst dL_law_427 (Eq.refl 428) ?_
  refine xg_iadd dL_law_428 (Eq.refl 429) ?_
  refine xg_sld hS hsl dL_law_429 (Eq.refl 430) ?_
  refine xg_aload_n dL_law_430 (Eq.refl 431) rfl ?_
  refine xg_callWC_I (kc := k) (ks := s) (st := []) (mL_relieve hl x1 h1 (sx (w32 (x5 + 1)).toNat).toInt (xsx_r _) x3 (xAn.l h3) M hM) bL_relieve xq_212 rfl (by decide) (by decide) dL_law_431 (Eq.refl 434) rfl (by omega) (by omega) ?_
  intro z1 M2 hz1 hM2
  refine xg_istore (ls2 := [some (.ref xSCR), some (.ref x1), some (.ref x2), some (.ref x3), some (.ref x4), some (iv x5), some (iv z1), none, none]) dL_law_434 (Eq.refl 436) (show 6 < 9 by decide) rfl ?_
  refine xg_aload_n dL_law_436 (Eq.refl 437) rfl ?_
  refine xg_aload_n dL_law_437 (Eq.refl 438) rfl ?_
  refine xg_iload dL_law_438 (Eq.refl 440) rfl ?_
  refine xg_iconst dL_law_440 (Eq.refl 441) ?_
  refine xg_iadd dL_law_441 (Eq.refl 442) ?_
  refine xg_sld hS hsl dL_law_442 (Eq.refl 443) ?_
  refine xg_callVC_Z (kc := k) (ks := s) (st := []) (mX12_relieve hl x2 h2 (sx (w32 (x5 + 1)).toNat).toInt (xsx_r _) M2 hM2) bX12_relieve xcl12 h2 rfl xq_220 rfl (by decide) (by decide) dL_law_443 (Eq.refl 446) rfl (by omega) (by omega) ?_ ?_
  · intro z3 M4 hz3 hM4
    refine xg_istore (ls2 := [some (.ref xSCR), some (.ref x1), some (.ref x2), some (.ref x3), some (.ref x4), some (iv x5), some (iv z1), some (iv z3), none]) dL_law_446 (Eq.refl 448) (show 7 < 9 by decide) rfl ?_
    refine xg_aload_n dL_law_448 (Eq.refl 449) rfl ?_
    refine xg_callVC_I (kc := k) (ks := s) (st := []) (mX12_thrown hl x2 h2 M4 hM4) bX12_thrown xcl12 h2 rfl xq_192 rfl (by decide) (by decide) dL_law_449 (Eq.refl 452) rfl (by omega) (by omega) ?_ ?_
    · intro z5 M6 hz5 hM6
      refine xg_iload dL_law_452 (Eq.refl 454) rfl ?_
      refine xg_icmp_eq (tgt := 459) dL_law_454 (Eq.refl 457) (by decide) hz5 hz1 ?_ ?_
      · refine xg_iload dL_law_459 (Eq.refl 461) rfl ?_
        refine xg_if_ne (tgt := 483) dL_law_461 (Eq.refl 464) (by decide) hz1 ?_ ?_
        · refine xg_aload_n dL_law_464 (Eq.refl 465) rfl ?_
          refine xg_iconst dL_law_465 (Eq.refl 466) ?_
          refine xg_laldk (k := 0) h3 dL_law_466 (Eq.refl 467) rfl (by decide) ?_
          refine xg_iload dL_law_467 (Eq.refl 469) rfl ?_
          refine xg_if_eq (tgt := 476) dL_law_469 (Eq.refl 472) (by decide) (B01.r hz3) ?_ ?_
          · refine xg_lconst (z := 0) dL_law_476 (Eq.refl 477) rfl ?_
            exact xg_jump (gL_law_477 hl tab nm sl sx hS hsl k s rc28 x1 h1 x2 h2 x3 h3 x4 h4 x5 h5 0 (by decide) (M6 x3 0) (hM6.aj h3) hr28 M6 hM6) (xsb_s (xsb_s (xsb_s (xsb_s (xsb_s (xsb_s (xsb_n (xsb_n (xsb_n xsb_0))))))))) (by omega) (by omega)
          · refine xg_lconst (z := 1) dL_law_472 (Eq.refl 473) rfl ?_
            refine xg_goto (tgt := 477) dL_law_473 (by decide) ?_
            exact xg_jump (gL_law_477 hl tab nm sl sx hS hsl k s rc28 x1 h1 x2 h2 x3 h3 x4 h4 x5 h5 1 (by decide) (M6 x3 0) (hM6.aj h3) hr28 M6 hM6) (xsb_s (xsb_s (xsb_s (xsb_s (xsb_s (xsb_s (xsb_n (xsb_n (xsb_n xsb_0))))))))) (by omega) (by omega)
        · exact xg_jump (gL_law_483 hl tab nm sl sx hS hsl k s rc28 x1 h1 x2 h2 x3 h3 x4 h4 x5 h5 hr28 M6 hM6) (xsb_s (xsb_s (xsb_s (xsb_s (xsb_s (xsb_s (xsb_n (xsb_n (xsb_n xsb_0))))))))) (by omega) (by omega)
      · refine xg_iconst dL_law_457 (Eq.refl 458) ?_
        exact xg_zret rfl dL_law_458 rfl hM6 (by decide)
    · intro e M9 he hM9
      exact xgx_none
  · intro e M9 he hM9
    exact xgx_none
theorem gL_law_420 {l : Launch} {G : xG} (hl : l.stackTraces = false) (tab : List ExceptionTableEntry) (nm : String) (sl : Nat) (sx : Nat → Int32) (hS : G.2.2.2.1.2 = (sl, sx)) (hsl : sl ≤ 2147483647) (k s : Nat) (rc28 : Int → xM → xO) (x1 : Nat) (h1 : xOb 11 x1) (x2 : Nat) (h2 : xOb 12 x2) (x3 : Nat) (h3 : xAn 1 1 x3) (x4 : Nat) (h4 : xAn 2 1 x4) (x5 : Int) (h5 : R32 x5) (hr28 : ∀ w5 : Int, R32 w5 → ∀ M : xM, xcan M → Gv l G (uL_law tab nm) 21 1 k s 28 [some (.ref xSCR), some (.ref x1), some (.ref x2), some (.ref x3), some (.ref x4), some (iv w5), none, none, none] [] M (rc28 w5 M)) (M : xM) (hM : xcan M) : Gv l G (uL_law tab nm) 21 1 k s 420 [some (.ref xSCR), some (.ref x1), some (.ref x2), some (.ref x3), some (.ref x4), some (iv x5), none, none, none] [] M (fL_law_420 sl sx rc28 x1 x2 x3 x4 x5 M) := by
  unfold fL_law_420
  refine xg_goto (tgt := 3031) dL_law_420 (by decide) ?_
  exact xg_jump (gL_law_3031 hl tab nm sl sx hS hsl k s rc28 x1 h1 x2 h2 x3 h3 x4 h4 x5 h5 hr28 M hM) (xsb_s (xsb_s (xsb_s (xsb_s (xsb_s (xsb_s (xsb_n (xsb_n (xsb_n xsb_0))))))))) (by omega) (by omega)
theorem gL_law_414 {l : Launch} {G : xG} (hl : l.stackTraces = false) (tab : List ExceptionTableEntry) (nm : String) (sl : Nat) (sx : Nat → Int32) (hS : G.2.2.2.1.2 = (sl, sx)) (hsl : sl ≤ 2147483647) (k s : Nat) (rc28 : Int → xM → xO) (x1 : Nat) (h1 : xOb 11 x1) (x2 : Nat) (h2 : xOb 12 x2) (x3 : Nat) (h3 : xAn 1 1 x3) (x4 : Nat) (h4 : xAn 2 1 x4) (x5 : Int) (h5 : R32 x5) (s0 : Int) (hs0 : R64 s0) (s1 : Int) (hs1 : R64 s1) (hr28 : ∀ w5 : Int, R32 w5 → ∀ M : xM, xcan M → Gv l G (uL_law tab nm) 21 1 k s 28 [some (.ref xSCR), some (.ref x1), some (.ref x2), some (.ref x3), some (.ref x4), some (iv w5), none, none, none] [] M (rc28 w5 M)) (M : xM) (hM : xcan M) : Gv l G (uL_law tab nm) 21 1 k s 414 [some (.ref xSCR), some (.ref x1), some (.ref x2), some (.ref x3), some (.ref x4), some (iv x5), none, none, none] [jv s0, jv s1] M (fL_law_414 sl sx rc28 x1 x2 x3 x4 x5 s0 s1 M) := by
  unfold fL_law_414
  refine xg_lif_eq (tgt := 420) dL_law_414 (Eq.refl 415) dL_law_415 (Eq.refl 418) (by decide) hs1 hs0 ?_ ?_
  · exact xg_jump (gL_law_420 hl tab nm sl sx hS hsl k s rc28 x1 h1 x2 h2 x3 h3 x4 h4 x5 h5 hr28 M hM) (xsb_s (xsb_s (xsb_s (xsb_s (xsb_s (xsb_s (xsb_n (xsb_n (xsb_n xsb_0))))))))) (by omega) (by omega)
  · refine xg_iconst dL_law_418 (Eq.refl 419) ?_
    exact xg_zret rfl dL_law_419 rfl hM (by decide)
theorem gL_law_360 {l : Launch} {G : xG} (hl : l.stackTraces = false) (tab : List ExceptionTableEntry) (nm : String) (sl : Nat) (sx : Nat → Int32) (hS : G.2.2.2.1.2 = (sl, sx)) (hsl : sl ≤ 2147483647) (k s : Nat) (rc28 : Int → xM → xO) (x1 : Nat) (h1 : xOb 11 x1) (x2 : Nat) (h2 : xOb 12 x2) (x3 : Nat) (h3 : xAn 1 1 x3) (x4 : Nat) (h4 : xAn 2 1 x4) (x5 : Int) (h5 : R32 x5) (hr28 : ∀ w5 : Int, R32 w5 → ∀ M : xM, xcan M → Gv l G (uL_law tab nm) 21 1 k s 28 [some (.ref xSCR), some (.ref x1), some (.ref x2), some (.ref x3), some (.ref x4), some (iv w5), none, none, none] [] M (rc28 w5 M)) (M : xM) (hM : xcan M) : Gv l G (uL_law tab nm) 21 1 (k + 11) (s + 66) 360 [some (.ref xSCR), some (.ref x1), some (.ref x2), some (.ref x3), some (.ref x4), some (iv x5), none, none, none] [] M (fL_law_360 sl sx rc28 x1 x2 x3 x4 x5 M) := by
  unfold fL_law_360
  refine xg_aload_n dL_law_360 (Eq.refl 361) rfl ?_
  refine xg_aload_n dL_law_361 (Eq.refl 362) rfl ?_
  refine xg_iload dL_law_362 (Eq.refl 364) rfl ?_
  refine xg_iconst dL_law_364 (Eq.refl 365) ?_
  refine xg_iadd dL_law_365 (Eq.refl 366) ?_
  refine xg_sld hS hsl dL_law_366 (Eq.refl 367) ?_
  refine xg_aload_n dL_law_367 (Eq.refl 368) rfl ?_
  refine xg_callWC_I (kc := k) (ks := s) (st := []) (mL_lend hl x1 h1 (sx (w32 (x5 + 1)).toNat).toInt (xsx_r _) x3 (xAn.l h3) M hM) bL_lend xq_196 rfl (by decide) (by decide) dL_law_368 (Eq.refl 371) rfl (by omega) (by omega) ?_
  intro z1 M2 hz1 hM2
  refine xg_istore (ls2 := [some (.ref xSCR), some (.ref x1), some (.ref x2), some (.ref x3), some (.ref x4), some (iv x5), some (iv z1), none, none]) dL_law_371 (Eq.refl 373) (show 6 < 9 by decide) rfl ?_
  refine xg_aload_n dL_law_373 (Eq.refl 374) rfl ?_
  refine xg_aload_n dL_law_374 (Eq.refl 375) rfl ?_
  refine xg_iload dL_law_375 (Eq.refl 377) rfl ?_
  refine xg_iconst dL_law_377 (Eq.refl 378) ?_
  refine xg_iadd dL_law_378 (Eq.refl 379) ?_
  refine xg_sld hS hsl dL_law_379 (Eq.refl 380) ?_
  refine xg_callVC_Z (kc := k) (ks := s) (st := []) (mX12_lend hl x2 h2 (sx (w32 (x5 + 1)).toNat).toInt (xsx_r _) M2 hM2) bX12_lend xcl12 h2 rfl xq_204 rfl (by decide) (by decide) dL_law_380 (Eq.refl 383) rfl (by omega) (by omega) ?_ ?_
  · intro z3 M4 hz3 hM4
    refine xg_istore (ls2 := [some (.ref xSCR), some (.ref x1), some (.ref x2), some (.ref x3), some (.ref x4), some (iv x5), some (iv z1), some (iv z3), none]) dL_law_383 (Eq.refl 385) (show 7 < 9 by decide) rfl ?_
    refine xg_aload_n dL_law_385 (Eq.refl 386) rfl ?_
    refine xg_callVC_I (kc := k) (ks := s) (st := []) (mX12_thrown hl x2 h2 M4 hM4) bX12_thrown xcl12 h2 rfl xq_192 rfl (by decide) (by decide) dL_law_386 (Eq.refl 389) rfl (by omega) (by omega) ?_ ?_
    · intro z5 M6 hz5 hM6
      refine xg_iload dL_law_389 (Eq.refl 391) rfl ?_
      refine xg_icmp_eq (tgt := 396) dL_law_391 (Eq.refl 394) (by decide) hz5 hz1 ?_ ?_
      · refine xg_iload dL_law_396 (Eq.refl 398) rfl ?_
        refine xg_if_ne (tgt := 420) dL_law_398 (Eq.refl 401) (by decide) hz1 ?_ ?_
        · refine xg_aload_n dL_law_401 (Eq.refl 402) rfl ?_
          refine xg_iconst dL_law_402 (Eq.refl 403) ?_
          refine xg_laldk (k := 0) h3 dL_law_403 (Eq.refl 404) rfl (by decide) ?_
          refine xg_iload dL_law_404 (Eq.refl 406) rfl ?_
          refine xg_if_eq (tgt := 413) dL_law_406 (Eq.refl 409) (by decide) (B01.r hz3) ?_ ?_
          · refine xg_lconst (z := 0) dL_law_413 (Eq.refl 414) rfl ?_
            exact xg_jump (gL_law_414 hl tab nm sl sx hS hsl k s rc28 x1 h1 x2 h2 x3 h3 x4 h4 x5 h5 0 (by decide) (M6 x3 0) (hM6.aj h3) hr28 M6 hM6) (xsb_s (xsb_s (xsb_s (xsb_s (xsb_s (xsb_s (xsb_n (xsb_n (xsb_n xsb_0))))))))) (by omega) (by omega)
          · refine xg_lconst (z := 1) dL_law_409 (Eq.refl 410) rfl ?_
            refine xg_goto (tgt := 414) dL_law_410 (by decide) ?_
            exact xg_jump (gL_law_414 hl tab nm sl sx hS hsl k s rc28 x1 h1 x2 h2 x3 h3 x4 h4 x5 h5 1 (by decide) (M6 x3 0) (hM6.aj h3) hr28 M6 hM6) (xsb_s (xsb_s (xsb_s (xsb_s (xsb_s (xsb_s (xsb_n (xsb_n (xsb_n xsb_0))))))))) (by omega) (by omega)
        · exact xg_jump (gL_law_420 hl tab nm sl sx hS hsl k s rc28 x1 h1 x2 h2 x3 h3 x4 h4 x5 h5 hr28 M6 hM6) (xsb_s (xsb_s (xsb_s (xsb_s (xsb_s (xsb_s (xsb_n (xsb_n (xsb_n xsb_0))))))))) (by omega) (by omega)
      · refine xg_iconst dL_law_394 (Eq.refl 395) ?_
        exact xg_zret rfl dL_law_395 rfl hM6 (by decide)
    · intro e M9 he hM9
      exact xgx_none
  · intro e M9 he hM9
    exact xgx_none
theorem gL_law_357 {l : Launch} {G : xG} (hl : l.stackTraces = false) (tab : List ExceptionTableEntry) (nm : String) (sl : Nat) (sx : Nat → Int32) (hS : G.2.2.2.1.2 = (sl, sx)) (hsl : sl ≤ 2147483647) (k s : Nat) (rc28 : Int → xM → xO) (x1 : Nat) (h1 : xOb 11 x1) (x2 : Nat) (h2 : xOb 12 x2) (x3 : Nat) (h3 : xAn 1 1 x3) (x4 : Nat) (h4 : xAn 2 1 x4) (x5 : Int) (h5 : R32 x5) (hr28 : ∀ w5 : Int, R32 w5 → ∀ M : xM, xcan M → Gv l G (uL_law tab nm) 21 1 k s 28 [some (.ref xSCR), some (.ref x1), some (.ref x2), some (.ref x3), some (.ref x4), some (iv w5), none, none, none] [] M (rc28 w5 M)) (M : xM) (hM : xcan M) : Gv l G (uL_law tab nm) 21 1 k s 357 [some (.ref xSCR), some (.ref x1), some (.ref x2), some (.ref x3), some (.ref x4), some (iv x5), none, none, none] [] M (fL_law_357 sl sx rc28 x1 x2 x3 x4 x5 M) := by
  unfold fL_law_357
  refine xg_goto (tgt := 3031) dL_law_357 (by decide) ?_
  exact xg_jump (gL_law_3031 hl tab nm sl sx hS hsl k s rc28 x1 h1 x2 h2 x3 h3 x4 h4 x5 h5 hr28 M hM) (xsb_s (xsb_s (xsb_s (xsb_s (xsb_s (xsb_s (xsb_n (xsb_n (xsb_n xsb_0))))))))) (by omega) (by omega)
theorem gL_law_306 {l : Launch} {G : xG} (hl : l.stackTraces = false) (tab : List ExceptionTableEntry) (nm : String) (sl : Nat) (sx : Nat → Int32) (hS : G.2.2.2.1.2 = (sl, sx)) (hsl : sl ≤ 2147483647) (k s : Nat) (rc28 : Int → xM → xO) (x1 : Nat) (h1 : xOb 11 x1) (x2 : Nat) (h2 : xOb 12 x2) (x3 : Nat) (h3 : xAn 1 1 x3) (x4 : Nat) (h4 : xAn 2 1 x4) (x5 : Int) (h5 : R32 x5) (x6 : Int) (h6 : R32 x6) (s0 : Int) (hs0 : B01 s0) (s1 : Int) (hs1 : R32 s1) (s2 : Nat) (hs2 : xOb 12 s2) (hr28 : ∀ w5 : Int, R32 w5 → ∀ M : xM, xcan M → Gv l G (uL_law tab nm) 21 1 k s 28 [some (.ref xSCR), some (.ref x1), some (.ref x2), some (.ref x3), some (.ref x4), some (iv w5), none, none, none] [] M (rc28 w5 M)) (M : xM) (hM : xcan M) : Gv l G (uL_law tab nm) 21 1 k s 306 [some (.ref xSCR), some (.ref x1), some (.ref x2), some (.ref x3), some (.ref x4), some (iv x5), some (iv x6), none, none] [iv s0, iv s1, .ref s2] M (fL_law_306 sl sx rc28 x1 x2 x3 x4 x5 x6 s0 s1 s2 M) := by
  unfold fL_law_306
  refine xg_aload_n dL_law_306 (Eq.refl 307) rfl ?_
  refine xg_iload dL_law_307 (Eq.refl 309) rfl ?_
  refine xg_iconst dL_law_309 (Eq.refl 310) ?_
  refine xg_iadd dL_law_310 (Eq.refl 311) ?_
  refine xg_sld hS hsl dL_law_311 (Eq.refl 312) ?_
  refine xg_aload_n dL_law_312 (Eq.refl 313) rfl ?_
  refine xg_iload dL_law_313 (Eq.refl 315) rfl ?_
  refine xg_iconst dL_law_315 (Eq.refl 316) ?_
  refine xg_iadd dL_law_316 (Eq.refl 317) ?_
  refine xg_sld hS hsl dL_law_317 (Eq.refl 318) ?_
  refine xg_aload_n dL_law_318 (Eq.refl 319) rfl ?_
  refine xg_iload dL_law_319 (Eq.refl 321) rfl ?_
  refine xg_iconst dL_law_321 (Eq.refl 322) ?_
  refine xg_iadd dL_law_322 (Eq.refl 323) ?_
  refine xg_sld hS hsl dL_law_323 (Eq.refl 324) ?_
  refine xg_callVC_I (kc := k) (ks := s) (st := []) (mX12_open hl s2 hs2 s1 hs1 s0 hs0 (sx (w32 (x5 + 3)).toNat).toInt (xsx_r _) (sx (w32 (x5 + 4)).toNat).toInt (xsx_r _) (sx (w32 (x5 + 5)).toNat).toInt (xsx_r _) M hM) bX12_open xcl12 hs2 rfl xq_172 rfl (by decide) (by decide) dL_law_324 (Eq.refl 327) rfl (by omega) (by omega) ?_ ?_
  · intro z1 M2 hz1 hM2
    refine xg_istore (ls2 := [some (.ref xSCR), some (.ref x1), some (.ref x2), some (.ref x3), some (.ref x4), some (iv x5), some (iv x6), some (iv z1), none]) dL_law_327 (Eq.refl 329) (show 7 < 9 by decide) rfl ?_
    refine xg_aload_n dL_law_329 (Eq.refl 330) rfl ?_
    refine xg_callVC_I (kc := k) (ks := s) (st := []) (mX12_thrown hl x2 h2 M2 hM2) bX12_thrown xcl12 h2 rfl xq_192 rfl (by decide) (by decide) dL_law_330 (Eq.refl 333) rfl (by omega) (by omega) ?_ ?_
    · intro z3 M4 hz3 hM4
      refine xg_iload dL_law_333 (Eq.refl 335) rfl ?_
      refine xg_icmp_eq (tgt := 340) dL_law_335 (Eq.refl 338) (by decide) hz3 h6 ?_ ?_
      · refine xg_iload dL_law_340 (Eq.refl 342) rfl ?_
        refine xg_if_ne (tgt := 357) dL_law_342 (Eq.refl 345) (by decide) h6 ?_ ?_
        · refine xg_aload_n dL_law_345 (Eq.refl 346) rfl ?_
          refine xg_iconst dL_law_346 (Eq.refl 347) ?_
          refine xg_laldk (k := 0) h3 dL_law_347 (Eq.refl 348) rfl (by decide) ?_
          refine xg_iload dL_law_348 (Eq.refl 350) rfl ?_
          refine xg_i2l dL_law_350 (Eq.refl 351) hz1 ?_
          refine xg_lif_eq (tgt := 357) dL_law_351 (Eq.refl 352) dL_law_352 (Eq.refl 355) (by decide) (hM4.aj h3) (R32.j hz1) ?_ ?_
          · exact xg_jump (gL_law_357 hl tab nm sl sx hS hsl k s rc28 x1 h1 x2 h2 x3 h3 x4 h4 x5 h5 hr28 M4 hM4) (xsb_s (xsb_s (xsb_s (xsb_s (xsb_s (xsb_s (xsb_n (xsb_n (xsb_n xsb_0))))))))) (by omega) (by omega)
          · refine xg_iconst dL_law_355 (Eq.refl 356) ?_
            exact xg_zret rfl dL_law_356 rfl hM4 (by decide)
        · exact xg_jump (gL_law_357 hl tab nm sl sx hS hsl k s rc28 x1 h1 x2 h2 x3 h3 x4 h4 x5 h5 hr28 M4 hM4) (xsb_s (xsb_s (xsb_s (xsb_s (xsb_s (xsb_s (xsb_n (xsb_n (xsb_n xsb_0))))))))) (by omega) (by omega)
      · refine xg_iconst dL_law_338 (Eq.refl 339) ?_
        exact xg_zret rfl dL_law_339 rfl hM4 (by decide)
    · intro e M9 he hM9
      exact xgx_none
  · intro e M9 he hM9
    exact xgx_none
theorem gL_law_261 {l : Launch} {G : xG} (hl : l.stackTraces = false) (tab : List ExceptionTableEntry) (nm : String) (sl : Nat) (sx : Nat → Int32) (hS : G.2.2.2.1.2 = (sl, sx)) (hsl : sl ≤ 2147483647) (k s : Nat) (rc28 : Int → xM → xO) (x1 : Nat) (h1 : xOb 11 x1) (x2 : Nat) (h2 : xOb 12 x2) (x3 : Nat) (h3 : xAn 1 1 x3) (x4 : Nat) (h4 : xAn 2 1 x4) (x5 : Int) (h5 : R32 x5) (s0 : Int) (hs0 : B01 s0) (s1 : Int) (hs1 : R32 s1) (s2 : Nat) (hs2 : xOb 11 s2) (hr28 : ∀ w5 : Int, R32 w5 → ∀ M : xM, xcan M → Gv l G (uL_law tab nm) 21 1 k s 28 [some (.ref xSCR), some (.ref x1), some (.ref x2), some (.ref x3), some (.ref x4), some (iv w5), none, none, none] [] M (rc28 w5 M)) (M : xM) (hM : xcan M) : Gv l G (uL_law tab nm) 21 1 (k + 11) (s + 66) 261 [some (.ref xSCR), some (.ref x1), some (.ref x2), some (.ref x3), some (.ref x4), some (iv x5), none, none, none] [iv s0, iv s1, .ref s2] M (fL_law_261 sl sx rc28 x1 x2 x3 x4 x5 s0 s1 s2 M) := by
  unfold fL_law_261
  refine xg_aload_n dL_law_261 (Eq.refl 262) rfl ?_
  refine xg_iload dL_law_262 (Eq.refl 264) rfl ?_
  refine xg_iconst dL_law_264 (Eq.refl 265) ?_
  refine xg_iadd dL_law_265 (Eq.refl 266) ?_
  refine xg_sld hS hsl dL_law_266 (Eq.refl 267) ?_
  refine xg_aload_n dL_law_267 (Eq.refl 268) rfl ?_
  refine xg_iload dL_law_268 (Eq.refl 270) rfl ?_
  refine xg_iconst dL_law_270 (Eq.refl 271) ?_
  refine xg_iadd dL_law_271 (Eq.refl 272) ?_
  refine xg_sld hS hsl dL_law_272 (Eq.refl 273) ?_
  refine xg_aload_n dL_law_273 (Eq.refl 274) rfl ?_
  refine xg_iload dL_law_274 (Eq.refl 276) rfl ?_
  refine xg_iconst dL_law_276 (Eq.refl 277) ?_
  refine xg_iadd dL_law_277 (Eq.refl 278) ?_
  refine xg_sld hS hsl dL_law_278 (Eq.refl 279) ?_
  refine xg_aload_n dL_law_279 (Eq.refl 280) rfl ?_
  refine xg_callWC_I (kc := k) (ks := s) (st := []) (mL_open hl s2 hs2 s1 hs1 s0 hs0 (sx (w32 (x5 + 3)).toNat).toInt (xsx_r _) (sx (w32 (x5 + 4)).toNat).toInt (xsx_r _) (sx (w32 (x5 + 5)).toNat).toInt (xsx_r _) x3 (xAn.l h3) M hM) bL_open xq_128 rfl (by decide) (by decide) dL_law_280 (Eq.refl 283) rfl (by omega) (by omega) ?_
  intro z1 M2 hz1 hM2
  refine xg_istore (ls2 := [some (.ref xSCR), some (.ref x1), some (.ref x2), some (.ref x3), some (.ref x4), some (iv x5), some (iv z1), none, none]) dL_law_283 (Eq.refl 285) (show 6 < 9 by decide) rfl ?_
  refine xg_aload_n dL_law_285 (Eq.refl 286) rfl ?_
  refine xg_aload_n dL_law_286 (Eq.refl 287) rfl ?_
  refine xg_iload dL_law_287 (Eq.refl 289) rfl ?_
  refine xg_iconst dL_law_289 (Eq.refl 290) ?_
  refine xg_iadd dL_law_290 (Eq.refl 291) ?_
  refine xg_sld hS hsl dL_law_291 (Eq.refl 292) ?_
  refine xg_aload_n dL_law_292 (Eq.refl 293) rfl ?_
  refine xg_iload dL_law_293 (Eq.refl 295) rfl ?_
  refine xg_iconst dL_law_295 (Eq.refl 296) ?_
  refine xg_iadd dL_law_296 (Eq.refl 297) ?_
  refine xg_sld hS hsl dL_law_297 (Eq.refl 298) ?_
  refine xg_if_eq (tgt := 305) dL_law_298 (Eq.refl 301) (by decide) (xsx_r _) ?_ ?_
  · refine xg_iconst dL_law_305 (Eq.refl 306) ?_
    exact xg_jump (gL_law_306 hl tab nm sl sx hS hsl k s rc28 x1 h1 x2 h2 x3 h3 x4 h4 x5 h5 z1 hz1 0 (by decide) (sx (w32 (x5 + 1)).toNat).toInt (xsx_r _) x2 h2 hr28 M2 hM2) (xsb_s (xsb_s (xsb_s (xsb_s (xsb_s (xsb_s (xsb_s (xsb_n (xsb_n xsb_0))))))))) (by omega) (by omega)
  · refine xg_iconst dL_law_301 (Eq.refl 302) ?_
    refine xg_goto (tgt := 306) dL_law_302 (by decide) ?_
    exact xg_jump (gL_law_306 hl tab nm sl sx hS hsl k s rc28 x1 h1 x2 h2 x3 h3 x4 h4 x5 h5 z1 hz1 1 (by decide) (sx (w32 (x5 + 1)).toNat).toInt (xsx_r _) x2 h2 hr28 M2 hM2) (xsb_s (xsb_s (xsb_s (xsb_s (xsb_s (xsb_s (xsb_s (xsb_n (xsb_n xsb_0))))))))) (by omega) (by omega)
theorem gL_law_240 {l : Launch} {G : xG} (hl : l.stackTraces = false) (tab : List ExceptionTableEntry) (nm : String) (sl : Nat) (sx : Nat → Int32) (hS : G.2.2.2.1.2 = (sl, sx)) (hsl : sl ≤ 2147483647) (k s : Nat) (rc28 : Int → xM → xO) (x1 : Nat) (h1 : xOb 11 x1) (x2 : Nat) (h2 : xOb 12 x2) (x3 : Nat) (h3 : xAn 1 1 x3) (x4 : Nat) (h4 : xAn 2 1 x4) (x5 : Int) (h5 : R32 x5) (hr28 : ∀ w5 : Int, R32 w5 → ∀ M : xM, xcan M → Gv l G (uL_law tab nm) 21 1 k s 28 [some (.ref xSCR), some (.ref x1), some (.ref x2), some (.ref x3), some (.ref x4), some (iv w5), none, none, none] [] M (rc28 w5 M)) (M : xM) (hM : xcan M) : Gv l G (uL_law tab nm) 21 1 (k + 11) (s + 66) 240 [some (.ref xSCR), some (.ref x1), some (.ref x2), some (.ref x3), some (.ref x4), some (iv x5), none, none, none] [] M (fL_law_240 sl sx rc28 x1 x2 x3 x4 x5 M) := by
  unfold fL_law_240
  refine xg_aload_n dL_law_240 (Eq.refl 241) rfl ?_
  refine xg_aload_n dL_law_241 (Eq.refl 242) rfl ?_
  refine xg_iload dL_law_242 (Eq.refl 244) rfl ?_
  refine xg_iconst dL_law_244 (Eq.refl 245) ?_
  refine xg_iadd dL_law_245 (Eq.refl 246) ?_
  refine xg_sld hS hsl dL_law_246 (Eq.refl 247) ?_
  refine xg_aload_n dL_law_247 (Eq.refl 248) rfl ?_
  refine xg_iload dL_law_248 (Eq.refl 250) rfl ?_
  refine xg_iconst dL_law_250 (Eq.refl 251) ?_
  refine xg_iadd dL_law_251 (Eq.refl 252) ?_
  refine xg_sld hS hsl dL_law_252 (Eq.refl 253) ?_
  refine xg_if_eq (tgt := 260) dL_law_253 (Eq.refl 256) (by decide) (xsx_r _) ?_ ?_
  · refine xg_iconst dL_law_260 (Eq.refl 261) ?_
    exact xg_jump (gL_law_261 hl tab nm sl sx hS hsl k s rc28 x1 h1 x2 h2 x3 h3 x4 h4 x5 h5 0 (by decide) (sx (w32 (x5 + 1)).toNat).toInt (xsx_r _) x1 h1 hr28 M hM) (xsb_s (xsb_s (xsb_s (xsb_s (xsb_s (xsb_s (xsb_n (xsb_n (xsb_n xsb_0))))))))) (by omega) (by omega)
  · refine xg_iconst dL_law_256 (Eq.refl 257) ?_
    refine xg_goto (tgt := 261) dL_law_257 (by decide) ?_
    exact xg_jump (gL_law_261 hl tab nm sl sx hS hsl k s rc28 x1 h1 x2 h2 x3 h3 x4 h4 x5 h5 1 (by decide) (sx (w32 (x5 + 1)).toNat).toInt (xsx_r _) x1 h1 hr28 M hM) (xsb_s (xsb_s (xsb_s (xsb_s (xsb_s (xsb_s (xsb_n (xsb_n (xsb_n xsb_0))))))))) (by omega) (by omega)
theorem gL_law_28 {l : Launch} {G : xG} (hl : l.stackTraces = false) (tab : List ExceptionTableEntry) (nm : String) (sl : Nat) (sx : Nat → Int32) (hS : G.2.2.2.1.2 = (sl, sx)) (hsl : sl ≤ 2147483647) (x1 : Nat) (h1 : xOb 11 x1) (x2 : Nat) (h2 : xOb 12 x2) (x3 : Nat) (h3 : xAn 1 1 x3) (x4 : Nat) (h4 : xAn 2 1 x4) : ∀ (n : Nat) (x5 : Int) (_ : R32 x5) (M : xM) (_ : xcan M), Gv l G (uL_law tab nm) 21 1 (n * 11) (n * 66) 28 [some (.ref xSCR), some (.ref x1), some (.ref x2), some (.ref x3), some (.ref x4), some (iv x5), none, none, none] [] M (fL_law_28 sl sx x1 x2 x3 x4 n x5 M) := by
  intro n; induction n with
  | zero => intro x5 h5 M hM; exact xg_none
  | succ n ih =>
    intro x5 h5 M hM
    rw [fL_law_28]
    refine xg_room (kc' := n * 11 + 11) (ks' := n * 66 + 66) ?_ (by omega) (by omega)
    refine xg_iload dL_law_28 (Eq.refl 30) rfl ?_
    refine xg_aload_n dL_law_30 (Eq.refl 31) rfl ?_
    refine xg_slen hS dL_law_31 (Eq.refl 32) ?_
    refine xg_bipush dL_law_32 (Eq.refl 34) (by decide +kernel) ?_
    refine xg_isub dL_law_34 (Eq.refl 35) ?_
    refine xg_icmp_gt (tgt := 3037) dL_law_35 (Eq.refl 38) (by decide) h5 (w32_r _) ?_ ?_
    · refine xg_iconst dL_law_3037 (Eq.refl 3038) ?_
      exact xg_zret rfl dL_law_3038 rfl hM (by decide)
    · refine xg_aload_n dL_law_38 (Eq.refl 39) rfl ?_
      refine xg_iload dL_law_39 (Eq.refl 41) rfl ?_
      refine xg_sld hS hsl dL_law_41 (Eq.refl 42) ?_
      refine xg_bipush dL_law_42 (Eq.refl 44) (by decide +kernel) ?_
      refine xg_iand dL_law_44 (Eq.refl 45) ?_
      refine xg_tab (tgt := 3031) dL_law_45 (xand_r _ _) (by decide) ?_ ?_
      · exact xg_jump (gL_law_3031 hl tab nm sl sx hS hsl (n * 11) (n * 66) (fL_law_28 sl sx x1 x2 x3 x4 n) x1 h1 x2 h2 x3 h3 x4 h4 x5 h5 ih M hM) (xsb_s (xsb_s (xsb_s (xsb_s (xsb_s (xsb_s (xsb_n (xsb_n (xsb_n xsb_0))))))))) (by omega) (by omega)
      · intro i hi
        match i, hi with
        | 0, _ => exact ⟨195, 240, rfl, by decide, xg_jump (gL_law_240 hl tab nm sl sx hS hsl (n * 11) (n * 66) (fL_law_28 sl sx x1 x2 x3 x4 n) x1 h1 x2 h2 x3 h3 x4 h4 x5 h5 ih M hM) (xsb_s (xsb_s (xsb_s (xsb_s (xsb_s (xsb_s (xsb_n (xsb_n (xsb_n xsb_0))))))))) (by omega) (by omega)⟩
        | 1, _ => exact ⟨315, 360, rfl, by decide, xg_jump (gL_law_360 hl tab nm sl sx hS hsl (n * 11) (n * 66) (fL_law_28 sl sx x1 x2 x3 x4 n) x1 h1 x2 h2 x3 h3 x4 h4 x5 h5 ih M hM) (xsb_s (xsb_s (xsb_s (xsb_s (xsb_s (xsb_s (xsb_n (xsb_n (xsb_n xsb_0))))))))) (by omega) (by omega)⟩
        | 2, _ => exact ⟨378, 423, rfl, by decide, xg_jump (gL_law_423 hl tab nm sl sx hS hsl (n * 11) (n * 66) (fL_law_28 sl sx x1 x2 x3 x4 n) x1 h1 x2 h2 x3 h3 x4 h4 x5 h5 ih M hM) (xsb_s (xsb_s (xsb_s (xsb_s (xsb_s (xsb_s (xsb_n (xsb_n (xsb_n xsb_0))))))))) (by omega) (by omega)⟩
        | 3, _ => exact ⟨441, 486, rfl, by decide, xg_jump (gL_law_486 hl tab nm sl sx hS hsl (n * 11) (n * 66) (fL_law_28 sl sx x1 x2 x3 x4 n) x1 h1 x2 h2 x3 h3 x4 h4 x5 h5 ih M hM) (xsb_s (xsb_s (xsb_s (xsb_s (xsb_s (xsb_s (xsb_n (xsb_n (xsb_n xsb_0))))))))) (by omega) (by omega)⟩
        | 4, _ => exact ⟨521, 566, rfl, by decide, xg_jump (gL_law_566 hl tab nm sl sx hS hsl (n * 11) (n * 66) (fL_law_28 sl sx x1 x2 x3 x4 n) x1 h1 x2 h2 x3 h3 x4 h4 x5 h5 ih M hM) (xsb_s (xsb_s (xsb_s (xsb_s (xsb_s (xsb_s (xsb_n (xsb_n (xsb_n xsb_0))))))))) (by omega) (by omega)⟩
        | 5, _ => exact ⟨625, 670, rfl, by decide, xg_jump (gL_law_670 hl tab nm sl sx hS hsl (n * 11) (n * 66) (fL_law_28 sl sx x1 x2 x3 x4 n) x1 h1 x2 h2 x3 h3 x4 h4 x5 h5 ih M hM) (xsb_s (xsb_s (xsb_s (xsb_s (xsb_s (xsb_s (xsb_n (xsb_n (xsb_n xsb_0))))))))) (by omega) (by omega)⟩
        | 6, _ => exact ⟨693, 738, rfl, by decide, xg_jump (gL_law_738 hl tab nm sl sx hS hsl (n * 11) (n * 66) (fL_law_28 sl sx x1 x2 x3 x4 n) x1 h1 x2 h2 x3 h3 x4 h4 x5 h5 ih M hM) (xsb_s (xsb_s (xsb_s (xsb_s (xsb_s (xsb_s (xsb_n (xsb_n (xsb_n xsb_0))))))))) (by omega) (by omega)⟩
        | 7, _ => exact ⟨772, 817, rfl, by decide, xg_jump (gL_law_817 hl tab nm sl sx hS hsl (n * 11) (n * 66) (fL_law_28 sl sx x1 x2 x3 x4 n) x1 h1 x2 h2 x3 h3 x4 h4 x5 h5 ih M hM) (xsb_s (xsb_s (xsb_s (xsb_s (xsb_s (xsb_s (xsb_n (xsb_n (xsb_n xsb_0))))))))) (by omega) (by omega)⟩
        | 8, _ => exact ⟨839, 884, rfl, by decide, xg_jump (gL_law_884 hl tab nm sl sx hS hsl (n * 11) (n * 66) (fL_law_28 sl sx x1 x2 x3 x4 n) x1 h1 x2 h2 x3 h3 x4 h4 x5 h5 ih M hM) (xsb_s (xsb_s (xsb_s (xsb_s (xsb_s (xsb_s (xsb_n (xsb_n (xsb_n xsb_0))))))))) (by omega) (by omega)⟩
        | 9, _ => exact ⟨1015, 1060, rfl, by decide, xg_jump (gL_law_1060 hl tab nm sl sx hS hsl (n * 11) (n * 66) (fL_law_28 sl sx x1 x2 x3 x4 n) x1 h1 x2 h2 x3 h3 x4 h4 x5 h5 ih M hM) (xsb_s (xsb_s (xsb_s (xsb_s (xsb_s (xsb_s (xsb_n (xsb_n (xsb_n xsb_0))))))))) (by omega) (by omega)⟩
        | 10, _ => exact ⟨1083, 1128, rfl, by decide, xg_jump (gL_law_1128 hl tab nm sl sx hS hsl (n * 11) (n * 66) (fL_law_28 sl sx x1 x2 x3 x4 n) x1 h1 x2 h2 x3 h3 x4 h4 x5 h5 ih M hM) (xsb_s (xsb_s (xsb_s (xsb_s (xsb_s (xsb_s (xsb_n (xsb_n (xsb_n xsb_0))))))))) (by omega) (by omega)⟩
        | 11, _ => exact ⟨1146, 1191, rfl, by decide, xg_jump (gL_law_1191 hl tab nm sl sx hS hsl (n * 11) (n * 66) (fL_law_28 sl sx x1 x2 x3 x4 n) x1 h1 x2 h2 x3 h3 x4 h4 x5 h5 ih M hM) (xsb_s (xsb_s (xsb_s (xsb_s (xsb_s (xsb_s (xsb_n (xsb_n (xsb_n xsb_0))))))))) (by omega) (by omega)⟩
        | 12, _ => exact ⟨1209, 1254, rfl, by decide, xg_jump (gL_law_1254 hl tab nm sl sx hS hsl (n * 11) (n * 66) (fL_law_28 sl sx x1 x2 x3 x4 n) x1 h1 x2 h2 x3 h3 x4 h4 x5 h5 ih M hM) (xsb_s (xsb_s (xsb_s (xsb_s (xsb_s (xsb_s (xsb_n (xsb_n (xsb_n xsb_0))))))))) (by omega) (by omega)⟩
        | 13, _ => exact ⟨1305, 1350, rfl, by decide, xg_jump (gL_law_1350 hl tab nm sl sx hS hsl (n * 11) (n * 66) (fL_law_28 sl sx x1 x2 x3 x4 n) x1 h1 x2 h2 x3 h3 x4 h4 x5 h5 ih M hM) (xsb_s (xsb_s (xsb_s (xsb_s (xsb_s (xsb_s (xsb_n (xsb_n (xsb_n xsb_0))))))))) (by omega) (by omega)⟩
        | 14, _ => exact ⟨1318, 1363, rfl, by decide, xg_jump (gL_law_1363 hl tab nm sl sx hS hsl (n * 11) (n * 66) (fL_law_28 sl sx x1 x2 x3 x4 n) x1 h1 x2 h2 x3 h3 x4 h4 x5 h5 ih M hM) (xsb_s (xsb_s (xsb_s (xsb_s (xsb_s (xsb_s (xsb_n (xsb_n (xsb_n xsb_0))))))))) (by omega) (by omega)⟩
        | 15, _ => exact ⟨1332, 1377, rfl, by decide, xg_jump (gL_law_1377 hl tab nm sl sx hS hsl (n * 11) (n * 66) (fL_law_28 sl sx x1 x2 x3 x4 n) x1 h1 x2 h2 x3 h3 x4 h4 x5 h5 ih M hM) (xsb_s (xsb_s (xsb_s (xsb_s (xsb_s (xsb_s (xsb_n (xsb_n (xsb_n xsb_0))))))))) (by omega) (by omega)⟩
        | 16, _ => exact ⟨1346, 1391, rfl, by decide, xg_jump (gL_law_1391 hl tab nm sl sx hS hsl (n * 11) (n * 66) (fL_law_28 sl sx x1 x2 x3 x4 n) x1 h1 x2 h2 x3 h3 x4 h4 x5 h5 ih M hM) (xsb_s (xsb_s (xsb_s (xsb_s (xsb_s (xsb_s (xsb_n (xsb_n (xsb_n xsb_0))))))))) (by omega) (by omega)⟩
        | 17, _ => exact ⟨1390, 1435, rfl, by decide, xg_jump (gL_law_1435 hl tab nm sl sx hS hsl (n * 11) (n * 66) (fL_law_28 sl sx x1 x2 x3 x4 n) x1 h1 x2 h2 x3 h3 x4 h4 x5 h5 ih M hM) (xsb_s (xsb_s (xsb_s (xsb_s (xsb_s (xsb_s (xsb_n (xsb_n (xsb_n xsb_0))))))))) (by omega) (by omega)⟩
        | 18, _ => exact ⟨1403, 1448, rfl, by decide, xg_jump (gL_law_1448 hl tab nm sl sx hS hsl (n * 11) (n * 66) (fL_law_28 sl sx x1 x2 x3 x4 n) x1 h1 x2 h2 x3 h3 x4 h4 x5 h5 ih M hM) (xsb_s (xsb_s (xsb_s (xsb_s (xsb_s (xsb_s (xsb_n (xsb_n (xsb_n xsb_0))))))))) (by omega) (by omega)⟩
        | 19, _ => exact ⟨1458, 1503, rfl, by decide, xg_jump (gL_law_1503 hl tab nm sl sx hS hsl (n * 11) (n * 66) (fL_law_28 sl sx x1 x2 x3 x4 n) x1 h1 x2 h2 x3 h3 x4 h4 x5 h5 ih M hM) (xsb_s (xsb_s (xsb_s (xsb_s (xsb_s (xsb_s (xsb_n (xsb_n (xsb_n xsb_0))))))))) (by omega) (by omega)⟩
        | 20, _ => exact ⟨1471, 1516, rfl, by decide, xg_jump (gL_law_1516 hl tab nm sl sx hS hsl (n * 11) (n * 66) (fL_law_28 sl sx x1 x2 x3 x4 n) x1 h1 x2 h2 x3 h3 x4 h4 x5 h5 ih M hM) (xsb_s (xsb_s (xsb_s (xsb_s (xsb_s (xsb_s (xsb_n (xsb_n (xsb_n xsb_0))))))))) (by omega) (by omega)⟩
        | 21, _ => exact ⟨1515, 1560, rfl, by decide, xg_jump (gL_law_1560 hl tab nm sl sx hS hsl (n * 11) (n * 66) (fL_law_28 sl sx x1 x2 x3 x4 n) x1 h1 x2 h2 x3 h3 x4 h4 x5 h5 ih M hM) (xsb_s (xsb_s (xsb_s (xsb_s (xsb_s (xsb_s (xsb_n (xsb_n (xsb_n xsb_0))))))))) (by omega) (by omega)⟩
        | 22, _ => exact ⟨1647, 1692, rfl, by decide, xg_jump (gL_law_1692 hl tab nm sl sx hS hsl (n * 11) (n * 66) (fL_law_28 sl sx x1 x2 x3 x4 n) x1 h1 x2 h2 x3 h3 x4 h4 x5 h5 ih M hM) (xsb_s (xsb_s (xsb_s (xsb_s (xsb_s (xsb_s (xsb_n (xsb_n (xsb_n xsb_0))))))))) (by omega) (by omega)⟩
        | 23, _ => exact ⟨1726, 1771, rfl, by decide, xg_jump (gL_law_1771 hl tab nm sl sx hS hsl (n * 11) (n * 66) (fL_law_28 sl sx x1 x2 x3 x4 n) x1 h1 x2 h2 x3 h3 x4 h4 x5 h5 ih M hM) (xsb_s (xsb_s (xsb_s (xsb_s (xsb_s (xsb_s (xsb_n (xsb_n (xsb_n xsb_0))))))))) (by omega) (by omega)⟩
        | 24, _ => exact ⟨1793, 1838, rfl, by decide, xg_jump (gL_law_1838 hl tab nm sl sx hS hsl (n * 11) (n * 66) (fL_law_28 sl sx x1 x2 x3 x4 n) x1 h1 x2 h2 x3 h3 x4 h4 x5 h5 ih M hM) (xsb_s (xsb_s (xsb_s (xsb_s (xsb_s (xsb_s (xsb_n (xsb_n (xsb_n xsb_0))))))))) (by omega) (by omega)⟩
        | 25, _ => exact ⟨1860, 1905, rfl, by decide, xg_jump (gL_law_1905 hl tab nm sl sx hS hsl (n * 11) (n * 66) (fL_law_28 sl sx x1 x2 x3 x4 n) x1 h1 x2 h2 x3 h3 x4 h4 x5 h5 ih M hM) (xsb_s (xsb_s (xsb_s (xsb_s (xsb_s (xsb_s (xsb_n (xsb_n (xsb_n xsb_0))))))))) (by omega) (by omega)⟩
        | 26, _ => exact ⟨1923, 1968, rfl, by decide, xg_jump (gL_law_1968 hl tab nm sl sx hS hsl (n * 11) (n * 66) (fL_law_28 sl sx x1 x2 x3 x4 n) x1 h1 x2 h2 x3 h3 x4 h4 x5 h5 ih M hM) (xsb_s (xsb_s (xsb_s (xsb_s (xsb_s (xsb_s (xsb_n (xsb_n (xsb_n xsb_0))))))))) (by omega) (by omega)⟩
        | 27, _ => exact ⟨1990, 2035, rfl, by decide, xg_jump (gL_law_2035 hl tab nm sl sx hS hsl (n * 11) (n * 66) (fL_law_28 sl sx x1 x2 x3 x4 n) x1 h1 x2 h2 x3 h3 x4 h4 x5 h5 ih M hM) (xsb_s (xsb_s (xsb_s (xsb_s (xsb_s (xsb_s (xsb_n (xsb_n (xsb_n xsb_0))))))))) (by omega) (by omega)⟩
        | 28, _ => exact ⟨2057, 2102, rfl, by decide, xg_jump (gL_law_2102 hl tab nm sl sx hS hsl (n * 11) (n * 66) (fL_law_28 sl sx x1 x2 x3 x4 n) x1 h1 x2 h2 x3 h3 x4 h4 x5 h5 ih M hM) (xsb_s (xsb_s (xsb_s (xsb_s (xsb_s (xsb_s (xsb_n (xsb_n (xsb_n xsb_0))))))))) (by omega) (by omega)⟩
        | 29, _ => exact ⟨2112, 2157, rfl, by decide, xg_jump (gL_law_2157 hl tab nm sl sx hS hsl (n * 11) (n * 66) (fL_law_28 sl sx x1 x2 x3 x4 n) x1 h1 x2 h2 x3 h3 x4 h4 x5 h5 ih M hM) (xsb_s (xsb_s (xsb_s (xsb_s (xsb_s (xsb_s (xsb_n (xsb_n (xsb_n xsb_0))))))))) (by omega) (by omega)⟩
        | 30, _ => exact ⟨2167, 2212, rfl, by decide, xg_jump (gL_law_2212 hl tab nm sl sx hS hsl (n * 11) (n * 66) (fL_law_28 sl sx x1 x2 x3 x4 n) x1 h1 x2 h2 x3 h3 x4 h4 x5 h5 ih M hM) (xsb_s (xsb_s (xsb_s (xsb_s (xsb_s (xsb_s (xsb_n (xsb_n (xsb_n xsb_0))))))))) (by omega) (by omega)⟩
        | 31, _ => exact ⟨2222, 2267, rfl, by decide, xg_jump (gL_law_2267 hl tab nm sl sx hS hsl (n * 11) (n * 66) (fL_law_28 sl sx x1 x2 x3 x4 n) x1 h1 x2 h2 x3 h3 x4 h4 x5 h5 ih M hM) (xsb_s (xsb_s (xsb_s (xsb_s (xsb_s (xsb_s (xsb_n (xsb_n (xsb_n xsb_0))))))))) (by omega) (by omega)⟩
        | 32, _ => exact ⟨2277, 2322, rfl, by decide, xg_jump (gL_law_2322 hl tab nm sl sx hS hsl (n * 11) (n * 66) (fL_law_28 sl sx x1 x2 x3 x4 n) x1 h1 x2 h2 x3 h3 x4 h4 x5 h5 ih M hM) (xsb_s (xsb_s (xsb_s (xsb_s (xsb_s (xsb_s (xsb_n (xsb_n (xsb_n xsb_0))))))))) (by omega) (by omega)⟩
        | 33, _ => exact ⟨2340, 2385, rfl, by decide, xg_jump (gL_law_2385 hl tab nm sl sx hS hsl (n * 11) (n * 66) (fL_law_28 sl sx x1 x2 x3 x4 n) x1 h1 x2 h2 x3 h3 x4 h4 x5 h5 ih M hM) (xsb_s (xsb_s (xsb_s (xsb_s (xsb_s (xsb_s (xsb_n (xsb_n (xsb_n xsb_0))))))))) (by omega) (by omega)⟩
        | 34, _ => exact ⟨2417, 2462, rfl, by decide, xg_jump (gL_law_2462 hl tab nm sl sx hS hsl (n * 11) (n * 66) (fL_law_28 sl sx x1 x2 x3 x4 n) x1 h1 x2 h2 x3 h3 x4 h4 x5 h5 ih M hM) (xsb_s (xsb_s (xsb_s (xsb_s (xsb_s (xsb_s (xsb_n (xsb_n (xsb_n xsb_0))))))))) (by omega) (by omega)⟩
        | 35, _ => exact ⟨2472, 2517, rfl, by decide, xg_jump (gL_law_2517 hl tab nm sl sx hS hsl (n * 11) (n * 66) (fL_law_28 sl sx x1 x2 x3 x4 n) x1 h1 x2 h2 x3 h3 x4 h4 x5 h5 ih M hM) (xsb_s (xsb_s (xsb_s (xsb_s (xsb_s (xsb_s (xsb_n (xsb_n (xsb_n xsb_0))))))))) (by omega) (by omega)⟩
        | 36, _ => exact ⟨2528, 2573, rfl, by decide, xg_jump (gL_law_2573 hl tab nm sl sx hS hsl (n * 11) (n * 66) (fL_law_28 sl sx x1 x2 x3 x4 n) x1 h1 x2 h2 x3 h3 x4 h4 x5 h5 ih M hM) (xsb_s (xsb_s (xsb_s (xsb_s (xsb_s (xsb_s (xsb_n (xsb_n (xsb_n xsb_0))))))))) (by omega) (by omega)⟩
        | 37, _ => exact ⟨2584, 2629, rfl, by decide, xg_jump (gL_law_2629 hl tab nm sl sx hS hsl (n * 11) (n * 66) (fL_law_28 sl sx x1 x2 x3 x4 n) x1 h1 x2 h2 x3 h3 x4 h4 x5 h5 ih M hM) (xsb_s (xsb_s (xsb_s (xsb_s (xsb_s (xsb_s (xsb_n (xsb_n (xsb_n xsb_0))))))))) (by omega) (by omega)⟩
        | 38, _ => exact ⟨2640, 2685, rfl, by decide, xg_jump (gL_law_2685 hl tab nm sl sx hS hsl (n * 11) (n * 66) (fL_law_28 sl sx x1 x2 x3 x4 n) x1 h1 x2 h2 x3 h3 x4 h4 x5 h5 ih M hM) (xsb_s (xsb_s (xsb_s (xsb_s (xsb_s (xsb_s (xsb_n (xsb_n (xsb_n xsb_0))))))))) (by omega) (by omega)⟩
        | 39, _ => exact ⟨2696, 2741, rfl, by decide, xg_jump (gL_law_2741 hl tab nm sl sx hS hsl (n * 11) (n * 66) (fL_law_28 sl sx x1 x2 x3 x4 n) x1 h1 x2 h2 x3 h3 x4 h4 x5 h5 ih M hM) (xsb_s (xsb_s (xsb_s (xsb_s (xsb_s (xsb_s (xsb_n (xsb_n (xsb_n xsb_0))))))))) (by omega) (by omega)⟩
        | 40, _ => exact ⟨2751, 2796, rfl, by decide, xg_jump (gL_law_2796 hl tab nm sl sx hS hsl (n * 11) (n * 66) (fL_law_28 sl sx x1 x2 x3 x4 n) x1 h1 x2 h2 x3 h3 x4 h4 x5 h5 ih M hM) (xsb_s (xsb_s (xsb_s (xsb_s (xsb_s (xsb_s (xsb_n (xsb_n (xsb_n xsb_0))))))))) (by omega) (by omega)⟩
        | 41, _ => exact ⟨2806, 2851, rfl, by decide, xg_jump (gL_law_2851 hl tab nm sl sx hS hsl (n * 11) (n * 66) (fL_law_28 sl sx x1 x2 x3 x4 n) x1 h1 x2 h2 x3 h3 x4 h4 x5 h5 ih M hM) (xsb_s (xsb_s (xsb_s (xsb_s (xsb_s (xsb_s (xsb_n (xsb_n (xsb_n xsb_0))))))))) (by omega) (by omega)⟩
        | 42, _ => exact ⟨2862, 2907, rfl, by decide, xg_jump (gL_law_2907 hl tab nm sl sx hS hsl (n * 11) (n * 66) (fL_law_28 sl sx x1 x2 x3 x4 n) x1 h1 x2 h2 x3 h3 x4 h4 x5 h5 ih M hM) (xsb_s (xsb_s (xsb_s (xsb_s (xsb_s (xsb_s (xsb_n (xsb_n (xsb_n xsb_0))))))))) (by omega) (by omega)⟩
        | 43, _ => exact ⟨2918, 2963, rfl, by decide, xg_jump (gL_law_2963 hl tab nm sl sx hS hsl (n * 11) (n * 66) (fL_law_28 sl sx x1 x2 x3 x4 n) x1 h1 x2 h2 x3 h3 x4 h4 x5 h5 ih M hM) (xsb_s (xsb_s (xsb_s (xsb_s (xsb_s (xsb_s (xsb_n (xsb_n (xsb_n xsb_0))))))))) (by omega) (by omega)⟩
        | 44, _ => exact ⟨2931, 2976, rfl, by decide, xg_jump (gL_law_2976 hl tab nm sl sx hS hsl (n * 11) (n * 66) (fL_law_28 sl sx x1 x2 x3 x4 n) x1 h1 x2 h2 x3 h3 x4 h4 x5 h5 ih M hM) (xsb_s (xsb_s (xsb_s (xsb_s (xsb_s (xsb_s (xsb_n (xsb_n (xsb_n xsb_0))))))))) (by omega) (by omega)⟩
        | i + 45, hi => exact absurd hi (by omega)
