abbrev uX12_entitledAnew : xU := (RX12, cX12_entitledAnew, 3, (some .long), [], "entitledAnew")
theorem bX12_entitledAnew : xYV yX12_entitledAnew cX12_entitledAnew 3 (some .long) 2 := ⟨xq_1370, xq_1371, xq_5, xq_1372, ⟨by decide +kernel, by decide +kernel, by decide +kernel⟩, by decide⟩
theorem mX12_entitledAnew {l : Launch} {G : xG} (hl : l.stackTraces = false) (x0 : Nat) (h0 : xOb 12 x0) (x1 : Int) (h1 : R32 x1) (x2 : Int) (h2 : R32 x2) (M : xM) (hM : xcan M) : Cm l G yX12_entitledAnew cX12_entitledAnew 3 (some .long) 4 2 0 0 [.ref x0, iv x1, iv x2] M (fX12_entitledAnew x0 x1 x2 M) := by
  refine xcm_of (u := uX12_entitledAnew) (ls := [some (.ref x0), some (iv x1), some (iv x2)]) 0 hl rfl (by decide +kernel) (Nat.le_of_ble_eq_true rfl) rfl ?_
  unfold fX12_entitledAnew
  refine xg_aload_n dX12_entitledAnew_0 (Eq.refl 1) rfl ?_
  refine xg_iload_n dX12_entitledAnew_1 (Eq.refl 2) rfl ?_
  refine xg_iload_n dX12_entitledAnew_2 (Eq.refl 3) rfl ?_
  refine xg_callV_J (kc := 0) (ks := 0) (st := []) (mX12_entitled hl x0 h0 x1 h1 x2 h2 M hM) bX12_entitled xcl12 h0 rfl xq_1373 rfl (by decide) rfl (by decide) dX12_entitledAnew_3 (Eq.refl 6) rfl (by decide) (by decide) ?_
  intro z1 M2 hz1 hM2
  exact xg_lret rfl dX12_entitledAnew_6 rfl hM2 hz1
abbrev uX12_isPaid : xU := (RX12, cX12_isPaid, 2, (some .boolean), [], "isPaid")
theorem bX12_isPaid : xYV yX12_isPaid cX12_isPaid 2 (some .boolean) 1 := ⟨xq_1382, xq_1383, xq_5, xq_1384, ⟨by decide +kernel, by decide +kernel, by decide +kernel⟩, by decide⟩
theorem gX12_isPaid_14 {l : Launch} {G : xG} (hl : l.stackTraces = false) (x0 : Nat) (h0 : xOb 12 x0) (x1 : Int) (h1 : R32 x1) (s0 : Int) (hs0 : B01 s0) (s1 : Nat) (hs1 : xOb 12 s1) (M : xM) (hM : xcan M) : Gv l G uX12_isPaid 3 1 0 0 14 [some (.ref x0), some (iv x1)] [iv s0, .ref s1] M (fX12_isPaid_14 x0 x1 s0 s1 M) := by
  unfold fX12_isPaid_14
  refine xg_callV_Z (kc := 0) (ks := 0) (st := []) (mX12_holds hl s1 hs1 s0 (B01.r hs0) M hM) bX12_holds xcl12 hs1 rfl xq_187 rfl (by decide) rfl (by decide) dX12_isPaid_14 (Eq.refl 17) rfl (by decide) (by decide) ?_
  intro z1 M2 hz1 hM2
  refine xg_if_ne (tgt := 39) dX12_isPaid_17 (Eq.refl 20) (by decide) (B01.r hz1) ?_ ?_
  · refine xg_aload_n dX12_isPaid_20 (Eq.refl 21) rfl ?_
    refine xg_getR (k := 0) xcl12 h0 rfl xq_122 rfl (xt_12_0 h0).1 dX12_isPaid_21 (Eq.refl 24) ?_
    refine xg_sipush dX12_isPaid_24 (Eq.refl 27) (by decide +kernel) ?_
    refine xg_iload_n dX12_isPaid_27 (Eq.refl 28) rfl ?_
    refine xg_iadd dX12_isPaid_28 (Eq.refl 29) ?_
    refine xg_lald (xt_12_0 h0).2 dX12_isPaid_29 (Eq.refl 30) ?_
    refine xg_lconst (z := 1) dX12_isPaid_30 (Eq.refl 31) rfl ?_
    refine xg_lif_ne (tgt := 39) dX12_isPaid_31 (Eq.refl 32) dX12_isPaid_32 (Eq.refl 35) (by decide) (hM2.aj (xt_12_0 h0).2) (by decide) ?_ ?_
    · refine xg_iconst dX12_isPaid_35 (Eq.refl 36) ?_
      refine xg_goto (tgt := 40) dX12_isPaid_36 (by decide) ?_
      exact xg_zret rfl dX12_isPaid_40 rfl hM2 (by decide)
    · refine xg_iconst dX12_isPaid_39 (Eq.refl 40) ?_
      exact xg_zret rfl dX12_isPaid_40 rfl hM2 (by decide)
  · refine xg_iconst dX12_isPaid_39 (Eq.refl 40) ?_
    exact xg_zret rfl dX12_isPaid_40 rfl hM2 (by decide)
theorem mX12_isPaid {l : Launch} {G : xG} (hl : l.stackTraces = false) (x0 : Nat) (h0 : xOb 12 x0) (x1 : Int) (h1 : R32 x1) (M : xM) (hM : xcan M) : Cm l G yX12_isPaid cX12_isPaid 2 (some .boolean) 3 1 0 0 [.ref x0, iv x1] M (fX12_isPaid x0 x1 M) := by
  refine xcm_of (u := uX12_isPaid) (ls := [some (.ref x0), some (iv x1)]) 0 hl rfl (by decide +kernel) (Nat.le_of_ble_eq_true rfl) rfl ?_
  unfold fX12_isPaid
  refine xg_aload_n dX12_isPaid_0 (Eq.refl 1) rfl ?_
  refine xg_aload_n dX12_isPaid_1 (Eq.refl 2) rfl ?_
  refine xg_iload_n dX12_isPaid_2 (Eq.refl 3) rfl ?_
  refine xg_callV_Z (kc := 0) (ks := 0) (st := [.ref x0]) (mX12_isEvent hl x0 h0 x1 h1 M hM) bX12_isEvent xcl12 h0 rfl xq_1341 rfl (by decide) rfl (Nat.le_of_ble_eq_true rfl) dX12_isPaid_3 (Eq.refl 6) rfl (by decide) (by decide) ?_
  intro z1 M2 hz1 hM2
  refine xg_if_eq (tgt := 13) dX12_isPaid_6 (Eq.refl 9) (by decide) (B01.r hz1) ?_ ?_
  · refine xg_iconst dX12_isPaid_13 (Eq.refl 14) ?_
    exact xg_jump (gX12_isPaid_14 hl x0 h0 x1 h1 1 (by decide) x0 h0 M2 hM2) (xsb_s (xsb_s xsb_0)) (by decide) (by decide)
  · refine xg_iconst dX12_isPaid_9 (Eq.refl 10) ?_
    refine xg_goto (tgt := 14) dX12_isPaid_10 (by decide) ?_
    exact xg_jump (gX12_isPaid_14 hl x0 h0 x1 h1 0 (by decide) x0 h0 M2 hM2) (xsb_s (xsb_s xsb_0)) (by decide) (by decide)
abbrev uX12_isPair : xU := (RX12, cX12_isPair, 3, (some .boolean), [], "isPair")
theorem bX12_isPair : xYV yX12_isPair cX12_isPair 3 (some .boolean) 2 := ⟨xq_1397, xq_1398, xq_5, xq_1399, ⟨by decide +kernel, by decide +kernel, by decide +kernel⟩, by decide⟩
theorem mX12_isPair {l : Launch} {G : xG} (hl : l.stackTraces = false) (x0 : Nat) (h0 : xOb 12 x0) (x1 : Int) (h1 : R32 x1) (x2 : Int) (h2 : R32 x2) (M : xM) (hM : xcan M) : Cm l G yX12_isPair cX12_isPair 3 (some .boolean) 3 1 0 0 [.ref x0, iv x1, iv x2] M (fX12_isPair x0 x1 x2 M) := by
  refine xcm_of (u := uX12_isPair) (ls := [some (.ref x0), some (iv x1), some (iv x2)]) 0 hl rfl (by decide +kernel) (Nat.le_of_ble_eq_true rfl) rfl ?_
  unfold fX12_isPair
  refine xg_aload_n dX12_isPair_0 (Eq.refl 1) rfl ?_
  refine xg_iload_n dX12_isPair_1 (Eq.refl 2) rfl ?_
  refine xg_callV_Z (kc := 0) (ks := 0) (st := []) (mX12_isAccount hl x0 h0 x1 h1 M hM) bX12_isAccount xcl12 h0 rfl xq_183 rfl (by decide) rfl (by decide) dX12_isPair_2 (Eq.refl 5) rfl (by decide) (by decide) ?_
  intro z1 M2 hz1 hM2
  refine xg_if_eq (tgt := 20) dX12_isPair_5 (Eq.refl 8) (by decide) (B01.r hz1) ?_ ?_
  · refine xg_iconst dX12_isPair_20 (Eq.refl 21) ?_
    exact xg_zret rfl dX12_isPair_21 rfl hM2 (by decide)
  · refine xg_aload_n dX12_isPair_8 (Eq.refl 9) rfl ?_
    refine xg_iload_n dX12_isPair_9 (Eq.refl 10) rfl ?_
    refine xg_callV_Z (kc := 0) (ks := 0) (st := []) (mX12_isSecurity hl x0 h0 x2 h2 M2 hM2) bX12_isSecurity xcl12 h0 rfl xq_293 rfl (by decide) rfl (by decide) dX12_isPair_10 (Eq.refl 13) rfl (by decide) (by decide) ?_
    intro z3 M4 hz3 hM4
    refine xg_if_eq (tgt := 20) dX12_isPair_13 (Eq.refl 16) (by decide) (B01.r hz3) ?_ ?_
    · refine xg_iconst dX12_isPair_20 (Eq.refl 21) ?_
      exact xg_zret rfl dX12_isPair_21 rfl hM4 (by decide)
    · refine xg_iconst dX12_isPair_16 (Eq.refl 17) ?_
      refine xg_goto (tgt := 21) dX12_isPair_17 (by decide) ?_
      exact xg_zret rfl dX12_isPair_21 rfl hM4 (by decide)
abbrev uX12_units : xU := (RX12, cX12_units, 3, (some .long), [], "units")
theorem bX12_units : xYV yX12_units cX12_units 3 (some .long) 2 := ⟨xq_1393, xq_1394, xq_5, xq_1395, ⟨by decide +kernel, by decide +kernel, by decide +kernel⟩, by decide⟩
theorem gX12_units_15 {l : Launch} {G : xG} (hl : l.stackTraces = false) (x0 : Nat) (h0 : xOb 12 x0) (x1 : Int) (h1 : R32 x1) (x2 : Int) (h2 : R32 x2) (s0 : Int) (hs0 : B01 s0) (s1 : Nat) (hs1 : xOb 12 s1) (M : xM) (hM : xcan M) : Gv l G uX12_units 4 2 0 0 15 [some (.ref x0), some (iv x1), some (iv x2)] [iv s0, .ref s1] M (fX12_units_15 x0 x1 x2 s0 s1 M) := by
  unfold fX12_units_15
  refine xg_callV_Z (kc := 0) (ks := 0) (st := []) (mX12_holds hl s1 hs1 s0 (B01.r hs0) M hM) bX12_holds xcl12 hs1 rfl xq_187 rfl (by decide) rfl (by decide) dX12_units_15 (Eq.refl 18) rfl (by decide) (by decide) ?_
  intro z1 M2 hz1 hM2
  refine xg_if_eq (tgt := 27) dX12_units_18 (Eq.refl 21) (by decide) (B01.r hz1) ?_ ?_
  · refine xg_aload_n dX12_units_27 (Eq.refl 28) rfl ?_
    refine xg_getR (k := 0) xcl12 h0 rfl xq_122 rfl (xt_12_0 h0).1 dX12_units_28 (Eq.refl 31) ?_
    refine xg_bipush dX12_units_31 (Eq.refl 33) (by decide +kernel) ?_
    refine xg_iconst dX12_units_33 (Eq.refl 34) ?_
    refine xg_iload_n dX12_units_34 (Eq.refl 35) rfl ?_
    refine xg_imul dX12_units_35 (Eq.refl 36) ?_
    refine xg_iadd dX12_units_36 (Eq.refl 37) ?_
    refine xg_iload_n dX12_units_37 (Eq.refl 38) rfl ?_
    refine xg_iadd dX12_units_38 (Eq.refl 39) ?_
    refine xg_lald (xt_12_0 h0).2 dX12_units_39 (Eq.refl 40) ?_
    exact xg_lret rfl dX12_units_40 rfl hM2 (hM2.aj (xt_12_0 h0).2)
  · refine xg_ldc2 (z := (-1)) xq_320 dX12_units_21 (Eq.refl 24) (by decide +kernel) ?_
    refine xg_goto (tgt := 40) dX12_units_24 (by decide) ?_
    exact xg_lret rfl dX12_units_40 rfl hM2 (by decide)
theorem mX12_units {l : Launch} {G : xG} (hl : l.stackTraces = false) (x0 : Nat) (h0 : xOb 12 x0) (x1 : Int) (h1 : R32 x1) (x2 : Int) (h2 : R32 x2) (M : xM) (hM : xcan M) : Cm l G yX12_units cX12_units 3 (some .long) 4 2 0 0 [.ref x0, iv x1, iv x2] M (fX12_units x0 x1 x2 M) := by
  refine xcm_of (u := uX12_units) (ls := [some (.ref x0), some (iv x1), some (iv x2)]) 0 hl rfl (by decide +kernel) (Nat.le_of_ble_eq_true rfl) rfl ?_
  unfold fX12_units
  refine xg_aload_n dX12_units_0 (Eq.refl 1) rfl ?_
  refine xg_aload_n dX12_units_1 (Eq.refl 2) rfl ?_
  refine xg_iload_n dX12_units_2 (Eq.refl 3) rfl ?_
  refine xg_iload_n dX12_units_3 (Eq.refl 4) rfl ?_
  refine xg_callV_Z (kc := 0) (ks := 0) (st := [.ref x0]) (mX12_isPair hl x0 h0 x1 h1 x2 h2 M hM) bX12_isPair xcl12 h0 rfl xq_1396 rfl (by decide) rfl (Nat.le_of_ble_eq_true rfl) dX12_units_4 (Eq.refl 7) rfl (by decide) (by decide) ?_
  intro z1 M2 hz1 hM2
  refine xg_if_eq (tgt := 14) dX12_units_7 (Eq.refl 10) (by decide) (B01.r hz1) ?_ ?_
  · refine xg_iconst dX12_units_14 (Eq.refl 15) ?_
    exact xg_jump (gX12_units_15 hl x0 h0 x1 h1 x2 h2 1 (by decide) x0 h0 M2 hM2) (xsb_s (xsb_s (xsb_s xsb_0))) (by decide) (by decide)
  · refine xg_iconst dX12_units_10 (Eq.refl 11) ?_
    refine xg_goto (tgt := 15) dX12_units_11 (by decide) ?_
    exact xg_jump (gX12_units_15 hl x0 h0 x1 h1 x2 h2 0 (by decide) x0 h0 M2 hM2) (xsb_s (xsb_s (xsb_s xsb_0))) (by decide) (by decide)
abbrev uX12_free : xU := (RX12, cX12_free, 3, (some .long), [], "free")
theorem bX12_free : xYV yX12_free cX12_free 3 (some .long) 2 := ⟨xq_1409, xq_1410, xq_5, xq_1411, ⟨by decide +kernel, by decide +kernel, by decide +kernel⟩, by decide⟩
theorem gX12_free_15 {l : Launch} {G : xG} (hl : l.stackTraces = false) (x0 : Nat) (h0 : xOb 12 x0) (x1 : Int) (h1 : R32 x1) (x2 : Int) (h2 : R32 x2) (s0 : Int) (hs0 : B01 s0) (s1 : Nat) (hs1 : xOb 12 s1) (M : xM) (hM : xcan M) : Gv l G uX12_free 4 2 0 0 15 [some (.ref x0), some (iv x1), some (iv x2)] [iv s0, .ref s1] M (fX12_free_15 x0 x1 x2 s0 s1 M) := by
  unfold fX12_free_15
  refine xg_callV_Z (kc := 0) (ks := 0) (st := []) (mX12_holds hl s1 hs1 s0 (B01.r hs0) M hM) bX12_holds xcl12 hs1 rfl xq_187 rfl (by decide) rfl (by decide) dX12_free_15 (Eq.refl 18) rfl (by decide) (by decide) ?_
  intro z1 M2 hz1 hM2
  refine xg_if_eq (tgt := 27) dX12_free_18 (Eq.refl 21) (by decide) (B01.r hz1) ?_ ?_
  · refine xg_aload_n dX12_free_27 (Eq.refl 28) rfl ?_
    refine xg_iload_n dX12_free_28 (Eq.refl 29) rfl ?_
    refine xg_iload_n dX12_free_29 (Eq.refl 30) rfl ?_
    refine xg_callV_J (kc := 0) (ks := 0) (st := []) (mX12_freeOf hl x0 h0 x1 h1 x2 h2 M2 hM2) bX12_freeOf xcl12 h0 rfl xq_370 rfl (by decide) rfl (by decide) dX12_free_30 (Eq.refl 33) rfl (by decide) (by decide) ?_
    intro z3 M4 hz3 hM4
    exact xg_lret rfl dX12_free_33 rfl hM4 hz3
  · refine xg_ldc2 (z := (-1)) xq_320 dX12_free_21 (Eq.refl 24) (by decide +kernel) ?_
    refine xg_goto (tgt := 33) dX12_free_24 (by decide) ?_
    exact xg_lret rfl dX12_free_33 rfl hM2 (by decide)
theorem mX12_free {l : Launch} {G : xG} (hl : l.stackTraces = false) (x0 : Nat) (h0 : xOb 12 x0) (x1 : Int) (h1 : R32 x1) (x2 : Int) (h2 : R32 x2) (M : xM) (hM : xcan M) : Cm l G yX12_free cX12_free 3 (some .long) 4 2 0 0 [.ref x0, iv x1, iv x2] M (fX12_free x0 x1 x2 M) := by
  refine xcm_of (u := uX12_free) (ls := [some (.ref x0), some (iv x1), some (iv x2)]) 0 hl rfl (by decide +kernel) (Nat.le_of_ble_eq_true rfl) rfl ?_
  unfold fX12_free
  refine xg_aload_n dX12_free_0 (Eq.refl 1) rfl ?_
  refine xg_aload_n dX12_free_1 (Eq.refl 2) rfl ?_
  refine xg_iload_n dX12_free_2 (Eq.refl 3) rfl ?_
  refine xg_iload_n dX12_free_3 (Eq.refl 4) rfl ?_
  refine xg_callV_Z (kc := 0) (ks := 0) (st := [.ref x0]) (mX12_isPair hl x0 h0 x1 h1 x2 h2 M hM) bX12_isPair xcl12 h0 rfl xq_1396 rfl (by decide) rfl (Nat.le_of_ble_eq_true rfl) dX12_free_4 (Eq.refl 7) rfl (by decide) (by decide) ?_
  intro z1 M2 hz1 hM2
  refine xg_if_eq (tgt := 14) dX12_free_7 (Eq.refl 10) (by decide) (B01.r hz1) ?_ ?_
  · refine xg_iconst dX12_free_14 (Eq.refl 15) ?_
    exact xg_jump (gX12_free_15 hl x0 h0 x1 h1 x2 h2 1 (by decide) x0 h0 M2 hM2) (xsb_s (xsb_s (xsb_s xsb_0))) (by decide) (by decide)
  · refine xg_iconst dX12_free_10 (Eq.refl 11) ?_
    refine xg_goto (tgt := 15) dX12_free_11 (by decide) ?_
    exact xg_jump (gX12_free_15 hl x0 h0 x1 h1 x2 h2 0 (by decide) x0 h0 M2 hM2) (xsb_s (xsb_s (xsb_s xsb_0))) (by decide) (by decide)
abbrev uX12_out : xU := (RX12, cX12_out, 2, (some .long), [], "out")
theorem bX12_out : xYV yX12_out cX12_out 2 (some .long) 1 := ⟨xq_1420, xq_1421, xq_5, xq_1422, ⟨by decide +kernel, by decide +kernel, by decide +kernel⟩, by decide⟩
theorem gX12_out_14 {l : Launch} {G : xG} (hl : l.stackTraces = false) (x0 : Nat) (h0 : xOb 12 x0) (x1 : Int) (h1 : R32 x1) (s0 : Int) (hs0 : B01 s0) (s1 : Nat) (hs1 : xOb 12 s1) (M : xM) (hM : xcan M) : Gv l G uX12_out 3 2 0 0 14 [some (.ref x0), some (iv x1)] [iv s0, .ref s1] M (fX12_out_14 x0 x1 s0 s1 M) := by
  unfold fX12_out_14
  refine xg_callV_Z (kc := 0) (ks := 0) (st := []) (mX12_holds hl s1 hs1 s0 (B01.r hs0) M hM) bX12_holds xcl12 hs1 rfl xq_187 rfl (by decide) rfl (by decide) dX12_out_14 (Eq.refl 17) rfl (by decide) (by decide) ?_
  intro z1 M2 hz1 hM2
  refine xg_if_eq (tgt := 26) dX12_out_17 (Eq.refl 20) (by decide) (B01.r hz1) ?_ ?_
  · refine xg_aload_n dX12_out_26 (Eq.refl 27) rfl ?_
    refine xg_getR (k := 0) xcl12 h0 rfl xq_122 rfl (xt_12_0 h0).1 dX12_out_27 (Eq.refl 30) ?_
    refine xg_sipush dX12_out_30 (Eq.refl 33) (by decide +kernel) ?_
    refine xg_iload_n dX12_out_33 (Eq.refl 34) rfl ?_
    refine xg_iadd dX12_out_34 (Eq.refl 35) ?_
    refine xg_lald (xt_12_0 h0).2 dX12_out_35 (Eq.refl 36) ?_
    exact xg_lret rfl dX12_out_36 rfl hM2 (hM2.aj (xt_12_0 h0).2)
  · refine xg_ldc2 (z := (-1)) xq_320 dX12_out_20 (Eq.refl 23) (by decide +kernel) ?_
    refine xg_goto (tgt := 36) dX12_out_23 (by decide) ?_
    exact xg_lret rfl dX12_out_36 rfl hM2 (by decide)
theorem mX12_out {l : Launch} {G : xG} (hl : l.stackTraces = false) (x0 : Nat) (h0 : xOb 12 x0) (x1 : Int) (h1 : R32 x1) (M : xM) (hM : xcan M) : Cm l G yX12_out cX12_out 2 (some .long) 3 2 0 0 [.ref x0, iv x1] M (fX12_out x0 x1 M) := by
  refine xcm_of (u := uX12_out) (ls := [some (.ref x0), some (iv x1)]) 0 hl rfl (by decide +kernel) (Nat.le_of_ble_eq_true rfl) rfl ?_
  unfold fX12_out
  refine xg_aload_n dX12_out_0 (Eq.refl 1) rfl ?_
  refine xg_aload_n dX12_out_1 (Eq.refl 2) rfl ?_
  refine xg_iload_n dX12_out_2 (Eq.refl 3) rfl ?_
  refine xg_callV_Z (kc := 0) (ks := 0) (st := [.ref x0]) (mX12_isSecurity hl x0 h0 x1 h1 M hM) bX12_isSecurity xcl12 h0 rfl xq_293 rfl (by decide) rfl (Nat.le_of_ble_eq_true rfl) dX12_out_3 (Eq.refl 6) rfl (by decide) (by decide) ?_
  intro z1 M2 hz1 hM2
  refine xg_if_eq (tgt := 13) dX12_out_6 (Eq.refl 9) (by decide) (B01.r hz1) ?_ ?_
  · refine xg_iconst dX12_out_13 (Eq.refl 14) ?_
    exact xg_jump (gX12_out_14 hl x0 h0 x1 h1 1 (by decide) x0 h0 M2 hM2) (xsb_s (xsb_s xsb_0)) (by decide) (by decide)
  · refine xg_iconst dX12_out_9 (Eq.refl 10) ?_
    refine xg_goto (tgt := 14) dX12_out_10 (by decide) ?_
    exact xg_jump (gX12_out_14 hl x0 h0 x1 h1 0 (by decide) x0 h0 M2 hM2) (xsb_s (xsb_s xsb_0)) (by decide) (by decide)
abbrev uX12_cash : xU := (RX12, cX12_cash, 2, (some .long), [], "cash")
theorem bX12_cash : xYV yX12_cash cX12_cash 2 (some .long) 1 := ⟨xq_1431, xq_1432, xq_5, xq_1433, ⟨by decide +kernel, by decide +kernel, by decide +kernel⟩, by decide⟩
theorem gX12_cash_14 {l : Launch} {G : xG} (hl : l.stackTraces = false) (x0 : Nat) (h0 : xOb 12 x0) (x1 : Int) (h1 : R32 x1) (s0 : Int) (hs0 : B01 s0) (s1 : Nat) (hs1 : xOb 12 s1) (M : xM) (hM : xcan M) : Gv l G uX12_cash 3 2 0 0 14 [some (.ref x0), some (iv x1)] [iv s0, .ref s1] M (fX12_cash_14 x0 x1 s0 s1 M) := by
  unfold fX12_cash_14
  refine xg_callV_Z (kc := 0) (ks := 0) (st := []) (mX12_holds hl s1 hs1 s0 (B01.r hs0) M hM) bX12_holds xcl12 hs1 rfl xq_187 rfl (by decide) rfl (by decide) dX12_cash_14 (Eq.refl 17) rfl (by decide) (by decide) ?_
  intro z1 M2 hz1 hM2
  refine xg_if_eq (tgt := 26) dX12_cash_17 (Eq.refl 20) (by decide) (B01.r hz1) ?_ ?_
  · refine xg_aload_n dX12_cash_26 (Eq.refl 27) rfl ?_
    refine xg_getR (k := 0) xcl12 h0 rfl xq_122 rfl (xt_12_0 h0).1 dX12_cash_27 (Eq.refl 30) ?_
    refine xg_bipush dX12_cash_30 (Eq.refl 32) (by decide +kernel) ?_
    refine xg_iload_n dX12_cash_32 (Eq.refl 33) rfl ?_
    refine xg_iadd dX12_cash_33 (Eq.refl 34) ?_
    refine xg_lald (xt_12_0 h0).2 dX12_cash_34 (Eq.refl 35) ?_
    exact xg_lret rfl dX12_cash_35 rfl hM2 (hM2.aj (xt_12_0 h0).2)
  · refine xg_ldc2 (z := (-1)) xq_320 dX12_cash_20 (Eq.refl 23) (by decide +kernel) ?_
    refine xg_goto (tgt := 35) dX12_cash_23 (by decide) ?_
    exact xg_lret rfl dX12_cash_35 rfl hM2 (by decide)
theorem mX12_cash {l : Launch} {G : xG} (hl : l.stackTraces = false) (x0 : Nat) (h0 : xOb 12 x0) (x1 : Int) (h1 : R32 x1) (M : xM) (hM : xcan M) : Cm l G yX12_cash cX12_cash 2 (some .long) 3 2 0 0 [.ref x0, iv x1] M (fX12_cash x0 x1 M) := by
  refine xcm_of (u := uX12_cash) (ls := [some (.ref x0), some (iv x1)]) 0 hl rfl (by decide +kernel) (Nat.le_of_ble_eq_true rfl) rfl ?_
  unfold fX12_cash
  refine xg_aload_n dX12_cash_0 (Eq.refl 1) rfl ?_
  refine xg_aload_n dX12_cash_1 (Eq.refl 2) rfl ?_
  refine xg_iload_n dX12_cash_2 (Eq.refl 3) rfl ?_
  refine xg_callV_Z (kc := 0) (ks := 0) (st := [.ref x0]) (mX12_isAccount hl x0 h0 x1 h1 M hM) bX12_isAccount xcl12 h0 rfl xq_183 rfl (by decide) rfl (Nat.le_of_ble_eq_true rfl) dX12_cash_3 (Eq.refl 6) rfl (by decide) (by decide) ?_
  intro z1 M2 hz1 hM2
  refine xg_if_eq (tgt := 13) dX12_cash_6 (Eq.refl 9) (by decide) (B01.r hz1) ?_ ?_
  · refine xg_iconst dX12_cash_13 (Eq.refl 14) ?_
    exact xg_jump (gX12_cash_14 hl x0 h0 x1 h1 1 (by decide) x0 h0 M2 hM2) (xsb_s (xsb_s xsb_0)) (by decide) (by decide)
  · refine xg_iconst dX12_cash_9 (Eq.refl 10) ?_
    refine xg_goto (tgt := 14) dX12_cash_10 (by decide) ?_
    exact xg_jump (gX12_cash_14 hl x0 h0 x1 h1 0 (by decide) x0 h0 M2 hM2) (xsb_s (xsb_s xsb_0)) (by decide) (by decide)
abbrev uX12_pledged : xU := (RX12, cX12_pledged, 2, (some .long), [], "pledged")
theorem bX12_pledged : xYV yX12_pledged cX12_pledged 2 (some .long) 1 := ⟨xq_1443, xq_1444, xq_5, xq_1445, ⟨by decide +kernel, by decide +kernel, by decide +kernel⟩, by decide⟩
theorem gX12_pledged_14 {l : Launch} {G : xG} (hl : l.stackTraces = false) (x0 : Nat) (h0 : xOb 12 x0) (x1 : Int) (h1 : R32 x1) (s0 : Int) (hs0 : B01 s0) (s1 : Nat) (hs1 : xOb 12 s1) (M : xM) (hM : xcan M) : Gv l G uX12_pledged 3 2 0 0 14 [some (.ref x0), some (iv x1)] [iv s0, .ref s1] M (fX12_pledged_14 x0 x1 s0 s1 M) := by
  unfold fX12_pledged_14
  refine xg_callV_Z (kc := 0) (ks := 0) (st := []) (mX12_holds hl s1 hs1 s0 (B01.r hs0) M hM) bX12_holds xcl12 hs1 rfl xq_187 rfl (by decide) rfl (by decide) dX12_pledged_14 (Eq.refl 17) rfl (by decide) (by decide) ?_
  intro z1 M2 hz1 hM2
  refine xg_if_eq (tgt := 26) dX12_pledged_17 (Eq.refl 20) (by decide) (B01.r hz1) ?_ ?_
  · refine xg_aload_n dX12_pledged_26 (Eq.refl 27) rfl ?_
    refine xg_getR (k := 0) xcl12 h0 rfl xq_122 rfl (xt_12_0 h0).1 dX12_pledged_27 (Eq.refl 30) ?_
    refine xg_bipush dX12_pledged_30 (Eq.refl 32) (by decide +kernel) ?_
    refine xg_iload_n dX12_pledged_32 (Eq.refl 33) rfl ?_
    refine xg_iadd dX12_pledged_33 (Eq.refl 34) ?_
    refine xg_lald (xt_12_0 h0).2 dX12_pledged_34 (Eq.refl 35) ?_
    exact xg_lret rfl dX12_pledged_35 rfl hM2 (hM2.aj (xt_12_0 h0).2)
  · refine xg_ldc2 (z := (-1)) xq_320 dX12_pledged_20 (Eq.refl 23) (by decide +kernel) ?_
    refine xg_goto (tgt := 35) dX12_pledged_23 (by decide) ?_
    exact xg_lret rfl dX12_pledged_35 rfl hM2 (by decide)
theorem mX12_pledged {l : Launch} {G : xG} (hl : l.stackTraces = false) (x0 : Nat) (h0 : xOb 12 x0) (x1 : Int) (h1 : R32 x1) (M : xM) (hM : xcan M) : Cm l G yX12_pledged cX12_pledged 2 (some .long) 3 2 0 0 [.ref x0, iv x1] M (fX12_pledged x0 x1 M) := by
  refine xcm_of (u := uX12_pledged) (ls := [some (.ref x0), some (iv x1)]) 0 hl rfl (by decide +kernel) (Nat.le_of_ble_eq_true rfl) rfl ?_
  unfold fX12_pledged
  refine xg_aload_n dX12_pledged_0 (Eq.refl 1) rfl ?_
  refine xg_aload_n dX12_pledged_1 (Eq.refl 2) rfl ?_
  refine xg_iload_n dX12_pledged_2 (Eq.refl 3) rfl ?_
  refine xg_callV_Z (kc := 0) (ks := 0) (st := [.ref x0]) (mX12_isAccount hl x0 h0 x1 h1 M hM) bX12_isAccount xcl12 h0 rfl xq_183 rfl (by decide) rfl (Nat.le_of_ble_eq_true rfl) dX12_pledged_3 (Eq.refl 6) rfl (by decide) (by decide) ?_
  intro z1 M2 hz1 hM2
  refine xg_if_eq (tgt := 13) dX12_pledged_6 (Eq.refl 9) (by decide) (B01.r hz1) ?_ ?_
  · refine xg_iconst dX12_pledged_13 (Eq.refl 14) ?_
    exact xg_jump (gX12_pledged_14 hl x0 h0 x1 h1 1 (by decide) x0 h0 M2 hM2) (xsb_s (xsb_s xsb_0)) (by decide) (by decide)
  · refine xg_iconst dX12_pledged_9 (Eq.refl 10) ?_
    refine xg_goto (tgt := 14) dX12_pledged_10 (by decide) ?_
    exact xg_jump (gX12_pledged_14 hl x0 h0 x1 h1 0 (by decide) x0 h0 M2 hM2) (xsb_s (xsb_s xsb_0)) (by decide) (by decide)
abbrev uX12_limit : xU := (RX12, cX12_limit, 2, (some .long), [], "limit")
theorem bX12_limit : xYV yX12_limit cX12_limit 2 (some .long) 1 := ⟨xq_1455, xq_1456, xq_5, xq_1457, ⟨by decide +kernel, by decide +kernel, by decide +kernel⟩, by decide⟩
theorem gX12_limit_14 {l : Launch} {G : xG} (hl : l.stackTraces = false) (x0 : Nat) (h0 : xOb 12 x0) (x1 : Int) (h1 : R32 x1) (s0 : Int) (hs0 : B01 s0) (s1 : Nat) (hs1 : xOb 12 s1) (M : xM) (hM : xcan M) : Gv l G uX12_limit 3 2 0 0 14 [some (.ref x0), some (iv x1)] [iv s0, .ref s1] M (fX12_limit_14 x0 x1 s0 s1 M) := by
  unfold fX12_limit_14
  refine xg_callV_Z (kc := 0) (ks := 0) (st := []) (mX12_holds hl s1 hs1 s0 (B01.r hs0) M hM) bX12_holds xcl12 hs1 rfl xq_187 rfl (by decide) rfl (by decide) dX12_limit_14 (Eq.refl 17) rfl (by decide) (by decide) ?_
  intro z1 M2 hz1 hM2
  refine xg_if_eq (tgt := 26) dX12_limit_17 (Eq.refl 20) (by decide) (B01.r hz1) ?_ ?_
  · refine xg_aload_n dX12_limit_26 (Eq.refl 27) rfl ?_
    refine xg_iload_n dX12_limit_27 (Eq.refl 28) rfl ?_
    refine xg_callV_J (kc := 0) (ks := 0) (st := []) (mX12_limitOf hl x0 h0 x1 h1 M2 hM2) bX12_limitOf xcl12 h0 rfl xq_366 rfl (by decide) rfl (by decide) dX12_limit_28 (Eq.refl 31) rfl (by decide) (by decide) ?_
    intro z3 M4 hz3 hM4
    exact xg_lret rfl dX12_limit_31 rfl hM4 hz3
  · refine xg_ldc2 (z := (-1)) xq_320 dX12_limit_20 (Eq.refl 23) (by decide +kernel) ?_
    refine xg_goto (tgt := 31) dX12_limit_23 (by decide) ?_
    exact xg_lret rfl dX12_limit_31 rfl hM2 (by decide)
theorem mX12_limit {l : Launch} {G : xG} (hl : l.stackTraces = false) (x0 : Nat) (h0 : xOb 12 x0) (x1 : Int) (h1 : R32 x1) (M : xM) (hM : xcan M) : Cm l G yX12_limit cX12_limit 2 (some .long) 3 2 0 0 [.ref x0, iv x1] M (fX12_limit x0 x1 M) := by
  refine xcm_of (u := uX12_limit) (ls := [some (.ref x0), some (iv x1)]) 0 hl rfl (by decide +kernel) (Nat.le_of_ble_eq_true rfl) rfl ?_
  unfold fX12_limit
  refine xg_aload_n dX12_limit_0 (Eq.refl 1) rfl ?_
  refine xg_aload_n dX12_limit_1 (Eq.refl 2) rfl ?_
  refine xg_iload_n dX12_limit_2 (Eq.refl 3) rfl ?_
  refine xg_callV_Z (kc := 0) (ks := 0) (st := [.ref x0]) (mX12_isAccount hl x0 h0 x1 h1 M hM) bX12_isAccount xcl12 h0 rfl xq_183 rfl (by decide) rfl (Nat.le_of_ble_eq_true rfl) dX12_limit_3 (Eq.refl 6) rfl (by decide) (by decide) ?_
  intro z1 M2 hz1 hM2
  refine xg_if_eq (tgt := 13) dX12_limit_6 (Eq.refl 9) (by decide) (B01.r hz1) ?_ ?_
  · refine xg_iconst dX12_limit_13 (Eq.refl 14) ?_
    exact xg_jump (gX12_limit_14 hl x0 h0 x1 h1 1 (by decide) x0 h0 M2 hM2) (xsb_s (xsb_s xsb_0)) (by decide) (by decide)
  · refine xg_iconst dX12_limit_9 (Eq.refl 10) ?_
    refine xg_goto (tgt := 14) dX12_limit_10 (by decide) ?_
    exact xg_jump (gX12_limit_14 hl x0 h0 x1 h1 0 (by decide) x0 h0 M2 hM2) (xsb_s (xsb_s xsb_0)) (by decide) (by decide)
abbrev uX12_isSound : xU := (RX12, cX12_isSound, 2, (some .boolean), [], "isSound")
theorem bX12_isSound : xYV yX12_isSound cX12_isSound 2 (some .boolean) 1 := ⟨xq_1466, xq_1467, xq_5, xq_1468, ⟨by decide +kernel, by decide +kernel, by decide +kernel⟩, by decide⟩
theorem gX12_isSound_14 {l : Launch} {G : xG} (hl : l.stackTraces = false) (x0 : Nat) (h0 : xOb 12 x0) (x1 : Int) (h1 : R32 x1) (s0 : Int) (hs0 : B01 s0) (s1 : Nat) (hs1 : xOb 12 s1) (M : xM) (hM : xcan M) : Gv l G uX12_isSound 4 1 0 0 14 [some (.ref x0), some (iv x1)] [iv s0, .ref s1] M (fX12_isSound_14 x0 x1 s0 s1 M) := by
  unfold fX12_isSound_14
  refine xg_callV_Z (kc := 0) (ks := 0) (st := []) (mX12_holds hl s1 hs1 s0 (B01.r hs0) M hM) bX12_holds xcl12 hs1 rfl xq_187 rfl (by decide) rfl (by decide) dX12_isSound_14 (Eq.refl 17) rfl (by decide) (by decide) ?_
  intro z1 M2 hz1 hM2
  refine xg_if_ne (tgt := 32) dX12_isSound_17 (Eq.refl 20) (by decide) (B01.r hz1) ?_ ?_
  · refine xg_aload_n dX12_isSound_20 (Eq.refl 21) rfl ?_
    refine xg_iload_n dX12_isSound_21 (Eq.refl 22) rfl ?_
    refine xg_callV_Z (kc := 0) (ks := 0) (st := []) (mX12_sound hl x0 h0 x1 h1 M2 hM2) bX12_sound xcl12 h0 rfl xq_358 rfl (by decide) rfl (by decide) dX12_isSound_22 (Eq.refl 25) rfl (by decide) (by decide) ?_
    intro z3 M4 hz3 hM4
    refine xg_if_eq (tgt := 32) dX12_isSound_25 (Eq.refl 28) (by decide) (B01.r hz3) ?_ ?_
    · refine xg_iconst dX12_isSound_32 (Eq.refl 33) ?_
      exact xg_zret rfl dX12_isSound_33 rfl hM4 (by decide)
    · refine xg_iconst dX12_isSound_28 (Eq.refl 29) ?_
      refine xg_goto (tgt := 33) dX12_isSound_29 (by decide) ?_
      exact xg_zret rfl dX12_isSound_33 rfl hM4 (by decide)
  · refine xg_iconst dX12_isSound_32 (Eq.refl 33) ?_
    exact xg_zret rfl dX12_isSound_33 rfl hM2 (by decide)
theorem mX12_isSound {l : Launch} {G : xG} (hl : l.stackTraces = false) (x0 : Nat) (h0 : xOb 12 x0) (x1 : Int) (h1 : R32 x1) (M : xM) (hM : xcan M) : Cm l G yX12_isSound cX12_isSound 2 (some .boolean) 4 1 0 0 [.ref x0, iv x1] M (fX12_isSound x0 x1 M) := by
  refine xcm_of (u := uX12_isSound) (ls := [some (.ref x0), some (iv x1)]) 0 hl rfl (by decide +kernel) (Nat.le_of_ble_eq_true rfl) rfl ?_
  unfold fX12_isSound
  refine xg_aload_n dX12_isSound_0 (Eq.refl 1) rfl ?_
  refine xg_aload_n dX12_isSound_1 (Eq.refl 2) rfl ?_
  refine xg_iload_n dX12_isSound_2 (Eq.refl 3) rfl ?_
  refine xg_callV_Z (kc := 0) (ks := 0) (st := [.ref x0]) (mX12_isAccount hl x0 h0 x1 h1 M hM) bX12_isAccount xcl12 h0 rfl xq_183 rfl (by decide) rfl (Nat.le_of_ble_eq_true rfl) dX12_isSound_3 (Eq.refl 6) rfl (by decide) (by decide) ?_
  intro z1 M2 hz1 hM2
  refine xg_if_eq (tgt := 13) dX12_isSound_6 (Eq.refl 9) (by decide) (B01.r hz1) ?_ ?_
  · refine xg_iconst dX12_isSound_13 (Eq.refl 14) ?_
    exact xg_jump (gX12_isSound_14 hl x0 h0 x1 h1 1 (by decide) x0 h0 M2 hM2) (xsb_s (xsb_s xsb_0)) (by decide) (by decide)
  · refine xg_iconst dX12_isSound_9 (Eq.refl 10) ?_
    refine xg_goto (tgt := 14) dX12_isSound_10 (by decide) ?_
    exact xg_jump (gX12_isSound_14 hl x0 h0 x1 h1 0 (by decide) x0 h0 M2 hM2) (xsb_s (xsb_s xsb_0)) (by decide) (by decide)
abbrev uX12_ledger : xU := (RX12, cX12_ledger, 2, (some .long), [], "ledger")
theorem bX12_ledger : xYV yX12_ledger cX12_ledger 2 (some .long) 1 := ⟨xq_1491, xq_1492, xq_5, xq_1493, ⟨by decide +kernel, by decide +kernel, by decide +kernel⟩, by decide⟩
theorem gX12_ledger_14 {l : Launch} {G : xG} (hl : l.stackTraces = false) (x0 : Nat) (h0 : xOb 12 x0) (x1 : Int) (h1 : R32 x1) (s0 : Int) (hs0 : B01 s0) (s1 : Nat) (hs1 : xOb 12 s1) (M : xM) (hM : xcan M) : Gv l G uX12_ledger 3 2 0 0 14 [some (.ref x0), some (iv x1)] [iv s0, .ref s1] M (fX12_ledger_14 x0 x1 s0 s1 M) := by
  unfold fX12_ledger_14
  refine xg_callV_Z (kc := 0) (ks := 0) (st := []) (mX12_holds hl s1 hs1 s0 (B01.r hs0) M hM) bX12_holds xcl12 hs1 rfl xq_187 rfl (by decide) rfl (by decide) dX12_ledger_14 (Eq.refl 17) rfl (by decide) (by decide) ?_
  intro z1 M2 hz1 hM2
  refine xg_if_eq (tgt := 26) dX12_ledger_17 (Eq.refl 20) (by decide) (B01.r hz1) ?_ ?_
  · refine xg_aload_n dX12_ledger_26 (Eq.refl 27) rfl ?_
    refine xg_getR (k := 0) xcl12 h0 rfl xq_122 rfl (xt_12_0 h0).1 dX12_ledger_27 (Eq.refl 30) ?_
    refine xg_bipush dX12_ledger_30 (Eq.refl 32) (by decide +kernel) ?_
    refine xg_iload_n dX12_ledger_32 (Eq.refl 33) rfl ?_
    refine xg_iadd dX12_ledger_33 (Eq.refl 34) ?_
    refine xg_lald (xt_12_0 h0).2 dX12_ledger_34 (Eq.refl 35) ?_
    exact xg_lret rfl dX12_ledger_35 rfl hM2 (hM2.aj (xt_12_0 h0).2)
  · refine xg_ldc2 (z := (-1)) xq_320 dX12_ledger_20 (Eq.refl 23) (by decide +kernel) ?_
    refine xg_goto (tgt := 35) dX12_ledger_23 (by decide) ?_
    exact xg_lret rfl dX12_ledger_35 rfl hM2 (by decide)
theorem mX12_ledger {l : Launch} {G : xG} (hl : l.stackTraces = false) (x0 : Nat) (h0 : xOb 12 x0) (x1 : Int) (h1 : R32 x1) (M : xM) (hM : xcan M) : Cm l G yX12_ledger cX12_ledger 2 (some .long) 3 2 0 0 [.ref x0, iv x1] M (fX12_ledger x0 x1 M) := by
  refine xcm_of (u := uX12_ledger) (ls := [some (.ref x0), some (iv x1)]) 0 hl rfl (by decide +kernel) (Nat.le_of_ble_eq_true rfl) rfl ?_
  unfold fX12_ledger
  refine xg_aload_n dX12_ledger_0 (Eq.refl 1) rfl ?_
  refine xg_aload_n dX12_ledger_1 (Eq.refl 2) rfl ?_
  refine xg_iload_n dX12_ledger_2 (Eq.refl 3) rfl ?_
  refine xg_callV_Z (kc := 0) (ks := 0) (st := [.ref x0]) (mX12_isAccount hl x0 h0 x1 h1 M hM) bX12_isAccount xcl12 h0 rfl xq_183 rfl (by decide) rfl (Nat.le_of_ble_eq_true rfl) dX12_ledger_3 (Eq.refl 6) rfl (by decide) (by decide) ?_
  intro z1 M2 hz1 hM2
  refine xg_if_eq (tgt := 13) dX12_ledger_6 (Eq.refl 9) (by decide) (B01.r hz1) ?_ ?_
  · refine xg_iconst dX12_ledger_13 (Eq.refl 14) ?_
    exact xg_jump (gX12_ledger_14 hl x0 h0 x1 h1 1 (by decide) x0 h0 M2 hM2) (xsb_s (xsb_s xsb_0)) (by decide) (by decide)
  · refine xg_iconst dX12_ledger_9 (Eq.refl 10) ?_
    refine xg_goto (tgt := 14) dX12_ledger_10 (by decide) ?_
    exact xg_jump (gX12_ledger_14 hl x0 h0 x1 h1 0 (by decide) x0 h0 M2 hM2) (xsb_s (xsb_s xsb_0)) (by decide) (by decide)
abbrev uX12_messages : xU := (RX12, cX12_messages, 2, (some .int), [], "messages")
theorem bX12_messages : xYV yX12_messages cX12_messages 2 (some .int) 1 := ⟨xq_1506, xq_1507, xq_5, xq_1508, ⟨by decide +kernel, by decide +kernel, by decide +kernel⟩, by decide⟩
theorem gX12_messages_14 {l : Launch} {G : xG} (hl : l.stackTraces = false) (x0 : Nat) (h0 : xOb 12 x0) (x1 : Int) (h1 : R32 x1) (s0 : Int) (hs0 : B01 s0) (s1 : Nat) (hs1 : xOb 12 s1) (M : xM) (hM : xcan M) : Gv l G uX12_messages 3 0 0 0 14 [some (.ref x0), some (iv x1)] [iv s0, .ref s1] M (fX12_messages_14 x0 x1 s0 s1 M) := by
  unfold fX12_messages_14
  refine xg_callV_Z (kc := 0) (ks := 0) (st := []) (mX12_holds hl s1 hs1 s0 (B01.r hs0) M hM) bX12_holds xcl12 hs1 rfl xq_187 rfl (by decide) rfl (by decide) dX12_messages_14 (Eq.refl 17) rfl (by decide) (by decide) ?_
  intro z1 M2 hz1 hM2
  refine xg_if_eq (tgt := 24) dX12_messages_17 (Eq.refl 20) (by decide) (B01.r hz1) ?_ ?_
  · refine xg_aload_n dX12_messages_24 (Eq.refl 25) rfl ?_
    refine xg_getR (k := 3) xcl12 h0 rfl xq_124 rfl (xt_12_3 h0).1 dX12_messages_25 (Eq.refl 28) ?_
    refine xg_iload_n dX12_messages_28 (Eq.refl 29) rfl ?_
    refine xg_iald (xt_12_3 h0).2 dX12_messages_29 (Eq.refl 30) ?_
    exact xg_iret rfl dX12_messages_30 rfl hM2 (hM2.ai (xt_12_3 h0).2)
  · refine xg_iconst dX12_messages_20 (Eq.refl 21) ?_
    refine xg_goto (tgt := 30) dX12_messages_21 (by decide) ?_
    exact xg_iret rfl dX12_messages_30 rfl hM2 (by decide)
theorem mX12_messages {l : Launch} {G : xG} (hl : l.stackTraces = false) (x0 : Nat) (h0 : xOb 12 x0) (x1 : Int) (h1 : R32 x1) (M : xM) (hM : xcan M) : Cm l G yX12_messages cX12_messages 2 (some .int) 3 0 0 0 [.ref x0, iv x1] M (fX12_messages x0 x1 M) := by
  refine xcm_of (u := uX12_messages) (ls := [some (.ref x0), some (iv x1)]) 0 hl rfl (by decide +kernel) (Nat.le_of_ble_eq_true rfl) rfl ?_
  unfold fX12_messages
  refine xg_aload_n dX12_messages_0 (Eq.refl 1) rfl ?_
  refine xg_aload_n dX12_messages_1 (Eq.refl 2) rfl ?_
  refine xg_iload_n dX12_messages_2 (Eq.refl 3) rfl ?_
  refine xg_callV_Z (kc := 0) (ks := 0) (st := [.ref x0]) (mX12_isAccount hl x0 h0 x1 h1 M hM) bX12_isAccount xcl12 h0 rfl xq_183 rfl (by decide) rfl (Nat.le_of_ble_eq_true rfl) dX12_messages_3 (Eq.refl 6) rfl (by decide) (by decide) ?_
  intro z1 M2 hz1 hM2
  refine xg_if_eq (tgt := 13) dX12_messages_6 (Eq.refl 9) (by decide) (B01.r hz1) ?_ ?_
  · refine xg_iconst dX12_messages_13 (Eq.refl 14) ?_
    exact xg_jump (gX12_messages_14 hl x0 h0 x1 h1 1 (by decide) x0 h0 M2 hM2) (xsb_s (xsb_s xsb_0)) (by decide) (by decide)
  · refine xg_iconst dX12_messages_9 (Eq.refl 10) ?_
    refine xg_goto (tgt := 14) dX12_messages_10 (by decide) ?_
    exact xg_jump (gX12_messages_14 hl x0 h0 x1 h1 0 (by decide) x0 h0 M2 hM2) (xsb_s (xsb_s xsb_0)) (by decide) (by decide)
abbrev uX12_alleged : xU := (RX12, cX12_alleged, 4, (some .int), [], "alleged")
theorem bX12_alleged : xYV yX12_alleged cX12_alleged 4 (some .int) 1 := ⟨xq_1517, xq_1518, xq_5, xq_1519, ⟨by decide +kernel, by decide +kernel, by decide +kernel⟩, by decide⟩
theorem gX12_alleged_77 {l : Launch} {G : xG} (hl : l.stackTraces = false) (x2 : Int) (h2 : R32 x2) (s0 : Int) (hs0 : B01 s0) (s1 : Nat) (hs1 : xOb 12 s1) (M : xM) (hM : xcan M) : Gv l G uX12_alleged 3 0 0 0 77 [none, none, some (iv x2), none] [iv s0, .ref s1] M (fX12_alleged_77 x2 s0 s1 M) := by
  unfold fX12_alleged_77
  refine xg_callV_Z (kc := 0) (ks := 0) (st := []) (mX12_holds hl s1 hs1 s0 (B01.r hs0) M hM) bX12_holds xcl12 hs1 rfl xq_187 rfl (by decide) rfl (by decide) dX12_alleged_77 (Eq.refl 80) rfl (by decide) (by decide) ?_
  intro z1 M2 hz1 hM2
  refine xg_if_eq (tgt := 87) dX12_alleged_80 (Eq.refl 83) (by decide) (B01.r hz1) ?_ ?_
  · refine xg_iload_n dX12_alleged_87 (Eq.refl 88) rfl ?_
    exact xg_iret rfl dX12_alleged_88 rfl hM2 h2
  · refine xg_iconst dX12_alleged_83 (Eq.refl 84) ?_
    refine xg_goto (tgt := 88) dX12_alleged_84 (by decide) ?_
    exact xg_iret rfl dX12_alleged_88 rfl hM2 (by decide)
theorem gX12_alleged_55 {l : Launch} {G : xG} (hl : l.stackTraces = false) (rc4 : Int → Int → xM → xO) (x0 : Nat) (h0 : xOb 12 x0) (x1 : Int) (h1 : R32 x1) (x3 : Int) (h3 : R32 x3) (s0 : Int) (hs0 : B01 s0) (s1 : Int) (hs1 : R32 s1) (hr4 : ∀ w2 : Int, R32 w2 → ∀ w3 : Int, R32 w3 → ∀ M : xM, xcan M → Gv l G uX12_alleged 3 0 0 0 4 [some (.ref x0), some (iv x1), some (iv w2), some (iv w3)] [] M (rc4 w2 w3 M)) (M : xM) (hM : xcan M) : Gv l G uX12_alleged 3 0 0 0 55 [some (.ref x0), some (iv x1), none, some (iv x3)] [iv s0, iv s1] M (fX12_alleged_55 rc4 x0 x1 x3 s0 s1 M) := by
  unfold fX12_alleged_55
  refine xg_iadd dX12_alleged_55 (Eq.refl 56) ?_
  refine xg_istore_nL (P := R32) (ls2 := fun y1 => [some (.ref x0), some (iv x1), some (iv y1), some (iv x3)]) dX12_alleged_56 (Eq.refl 57) (by decide) (w32_r _) (fun _ => rfl) ?_
  intro y1 hy1
  refine xg_iinc (ls2 := [some (.ref x0), some (iv x1), some (iv y1), some (iv (w32 (x3 + 1)))]) dX12_alleged_57 (Eq.refl 60) rfl (by decide) rfl ?_
  refine xg_goto (tgt := 4) dX12_alleged_60 (by decide) ?_
  exact xg_jump (hr4 y1 hy1 (w32 (x3 + 1)) (w32_r _) M hM) (xsb_s (xsb_s (xsb_s (xsb_s xsb_0)))) (by decide) (by decide)
theorem gX12_alleged_54 {l : Launch} {G : xG} (hl : l.stackTraces = false) (rc4 : Int → Int → xM → xO) (x0 : Nat) (h0 : xOb 12 x0) (x1 : Int) (h1 : R32 x1) (x3 : Int) (h3 : R32 x3) (s0 : Int) (hs0 : R32 s0) (hr4 : ∀ w2 : Int, R32 w2 → ∀ w3 : Int, R32 w3 → ∀ M : xM, xcan M → Gv l G uX12_alleged 3 0 0 0 4 [some (.ref x0), some (iv x1), some (iv w2), some (iv w3)] [] M (rc4 w2 w3 M)) (M : xM) (hM : xcan M) : Gv l G uX12_alleged 3 0 0 0 54 [some (.ref x0), some (iv x1), none, some (iv x3)] [iv s0] M (fX12_alleged_54 rc4 x0 x1 x3 s0 M) := by
  unfold fX12_alleged_54
  refine xg_iconst dX12_alleged_54 (Eq.refl 55) ?_
  exact xg_jump (gX12_alleged_55 hl rc4 x0 h0 x1 h1 x3 h3 0 (by decide) s0 hs0 hr4 M hM) (xsb_s (xsb_s (xsb_n (xsb_s xsb_0)))) (by decide) (by decide)
theorem gX12_alleged_4 {l : Launch} {G : xG} (hl : l.stackTraces = false) (x0 : Nat) (h0 : xOb 12 x0) (x1 : Int) (h1 : R32 x1) : ∀ (n : Nat) (x2 : Int) (_ : R32 x2) (x3 : Int) (_ : R32 x3) (M : xM) (_ : xcan M), Gv l G uX12_alleged 3 0 0 0 4 [some (.ref x0), some (iv x1), some (iv x2), some (iv x3)] [] M (fX12_alleged_4 x0 x1 n x2 x3 M) := by
  intro n; induction n with
  | zero => intro x2 h2 x3 h3 M hM; exact xg_none
  | succ n ih =>
    intro x2 h2 x3 h3 M hM
    rw [fX12_alleged_4]
    refine xg_iload_n dX12_alleged_4 (Eq.refl 5) rfl ?_
    refine xg_i2l dX12_alleged_5 (Eq.refl 6) h3 ?_
    refine xg_aload_n dX12_alleged_6 (Eq.refl 7) rfl ?_
    refine xg_getR (k := 0) xcl12 h0 rfl xq_122 rfl (xt_12_0 h0).1 dX12_alleged_7 (Eq.refl 10) ?_
    refine xg_sipush dX12_alleged_10 (Eq.refl 13) (by decide +kernel) ?_
    refine xg_laldk (k := 1542) (xt_12_0 h0).2 dX12_alleged_13 (Eq.refl 14) rfl (by decide) ?_
    refine xg_lif_ge (tgt := 63) dX12_alleged_14 (Eq.refl 15) dX12_alleged_15 (Eq.refl 18) (by decide) (R32.j h3) (hM.aj (xt_12_0 h0).2) ?_ ?_
    · refine xg_aload_n dX12_alleged_63 (Eq.refl 64) rfl ?_
      refine xg_aload_n dX12_alleged_64 (Eq.refl 65) rfl ?_
      refine xg_iload_n dX12_alleged_65 (Eq.refl 66) rfl ?_
      refine xg_callV_Z (kc := 0) (ks := 0) (st := [.ref x0]) (mX12_isAccount hl x0 h0 x1 h1 M hM) bX12_isAccount xcl12 h0 rfl xq_183 rfl (by decide) rfl (Nat.le_of_ble_eq_true rfl) dX12_alleged_66 (Eq.refl 69) rfl (by decide) (by decide) ?_
      intro z1 M2 hz1 hM2
      refine xg_if_eq (tgt := 76) dX12_alleged_69 (Eq.refl 72) (by decide) (B01.r hz1) ?_ ?_
      · refine xg_iconst dX12_alleged_76 (Eq.refl 77) ?_
        exact xg_jump (gX12_alleged_77 hl x2 h2 1 (by decide) x0 h0 M2 hM2) (xsb_n (xsb_n (xsb_s (xsb_n xsb_0)))) (by decide) (by decide)
      · refine xg_iconst dX12_alleged_72 (Eq.refl 73) ?_
        refine xg_goto (tgt := 77) dX12_alleged_73 (by decide) ?_
        exact xg_jump (gX12_alleged_77 hl x2 h2 0 (by decide) x0 h0 M2 hM2) (xsb_n (xsb_n (xsb_s (xsb_n xsb_0)))) (by decide) (by decide)
    · refine xg_iload_n dX12_alleged_18 (Eq.refl 19) rfl ?_
      refine xg_aload_n dX12_alleged_19 (Eq.refl 20) rfl ?_
      refine xg_getR (k := 0) xcl12 h0 rfl xq_122 rfl (xt_12_0 h0).1 dX12_alleged_20 (Eq.refl 23) ?_
      refine xg_sipush dX12_alleged_23 (Eq.refl 26) (by decide +kernel) ?_
      refine xg_iload_n dX12_alleged_26 (Eq.refl 27) rfl ?_
      refine xg_iadd dX12_alleged_27 (Eq.refl 28) ?_
      refine xg_lald (xt_12_0 h0).2 dX12_alleged_28 (Eq.refl 29) ?_
      refine xg_lconst (z := 0) dX12_alleged_29 (Eq.refl 30) rfl ?_
      refine xg_lif_ne (tgt := 54) dX12_alleged_30 (Eq.refl 31) dX12_alleged_31 (Eq.refl 34) (by decide) (hM.aj (xt_12_0 h0).2) (by decide) ?_ ?_
      · refine xg_aload_n dX12_alleged_34 (Eq.refl 35) rfl ?_
        refine xg_getR (k := 0) xcl12 h0 rfl xq_122 rfl (xt_12_0 h0).1 dX12_alleged_35 (Eq.refl 38) ?_
        refine xg_sipush dX12_alleged_38 (Eq.refl 41) (by decide +kernel) ?_
        refine xg_iload_n dX12_alleged_41 (Eq.refl 42) rfl ?_
        refine xg_iadd dX12_alleged_42 (Eq.refl 43) ?_
        refine xg_lald (xt_12_0 h0).2 dX12_alleged_43 (Eq.refl 44) ?_
        refine xg_iload_n dX12_alleged_44 (Eq.refl 45) rfl ?_
        refine xg_i2l dX12_alleged_45 (Eq.refl 46) h1 ?_
        refine xg_lif_ne (tgt := 54) dX12_alleged_46 (Eq.refl 47) dX12_alleged_47 (Eq.refl 50) (by decide) (hM.aj (xt_12_0 h0).2) (R32.j h1) ?_ ?_
        · refine xg_iconst dX12_alleged_50 (Eq.refl 51) ?_
          refine xg_goto (tgt := 55) dX12_alleged_51 (by decide) ?_
          exact xg_jump (gX12_alleged_55 hl (fX12_alleged_4 x0 x1 n) x0 h0 x1 h1 x3 h3 1 (by decide) x2 h2 ih M hM) (xsb_s (xsb_s (xsb_n (xsb_s xsb_0)))) (by decide) (by decide)
        · exact xg_jump (gX12_alleged_54 hl (fX12_alleged_4 x0 x1 n) x0 h0 x1 h1 x3 h3 x2 h2 ih M hM) (xsb_s (xsb_s (xsb_n (xsb_s xsb_0)))) (by decide) (by decide)
      · exact xg_jump (gX12_alleged_54 hl (fX12_alleged_4 x0 x1 n) x0 h0 x1 h1 x3 h3 x2 h2 ih M hM) (xsb_s (xsb_s (xsb_n (xsb_s xsb_0)))) (by decide) (by decide)
theorem mX12_alleged {l : Launch} {G : xG} (hl : l.stackTraces = false) (x0 : Nat) (h0 : xOb 12 x0) (x1 : Int) (h1 : R32 x1) (M : xM) (hM : xcan M) : Cm l G yX12_alleged cX12_alleged 4 (some .int) 3 0 0 0 [.ref x0, iv x1] M (fX12_alleged x0 x1 M) := by
  refine xcm_of (u := uX12_alleged) (ls := [some (.ref x0), some (iv x1), none, none]) 2 hl rfl (by decide +kernel) (Nat.le_of_ble_eq_true rfl) rfl ?_
  unfold fX12_alleged
  refine xg_iconst dX12_alleged_0 (Eq.refl 1) ?_
  refine xg_istore_n (ls2 := [some (.ref x0), some (iv x1), some (iv 0), none]) dX12_alleged_1 (Eq.refl 2) (by decide) rfl ?_
  refine xg_iconst dX12_alleged_2 (Eq.refl 3) ?_
  refine xg_istore_n (ls2 := [some (.ref x0), some (iv x1), some (iv 0), some (iv 0)]) dX12_alleged_3 (Eq.refl 4) (by decide) rfl ?_
  exact xg_jump (gX12_alleged_4 hl x0 h0 x1 h1 xN 0 (by decide) 0 (by decide) M hM) (xsb_s (xsb_s (xsb_s (xsb_s xsb_0)))) (by decide) (by decide)
abbrev uX12_status : xU := (RX12, cX12_status, 2, (some .int), [], "status")
theorem bX12_status : xYV yX12_status cX12_status 2 (some .int) 1 := ⟨xq_1528, xq_1529, xq_5, xq_1530, ⟨by decide +kernel, by decide +kernel, by decide +kernel⟩, by decide⟩
theorem gX12_status_14 {l : Launch} {G : xG} (hl : l.stackTraces = false) (x0 : Nat) (h0 : xOb 12 x0) (x1 : Int) (h1 : R32 x1) (s0 : Int) (hs0 : B01 s0) (s1 : Nat) (hs1 : xOb 12 s1) (M : xM) (hM : xcan M) : Gv l G uX12_status 3 0 0 0 14 [some (.ref x0), some (iv x1)] [iv s0, .ref s1] M (fX12_status_14 x0 x1 s0 s1 M) := by
  unfold fX12_status_14
  refine xg_callV_Z (kc := 0) (ks := 0) (st := []) (mX12_holds hl s1 hs1 s0 (B01.r hs0) M hM) bX12_holds xcl12 hs1 rfl xq_187 rfl (by decide) rfl (by decide) dX12_status_14 (Eq.refl 17) rfl (by decide) (by decide) ?_
  intro z1 M2 hz1 hM2
  refine xg_if_eq (tgt := 24) dX12_status_17 (Eq.refl 20) (by decide) (B01.r hz1) ?_ ?_
  · refine xg_aload_n dX12_status_24 (Eq.refl 25) rfl ?_
    refine xg_getR (k := 0) xcl12 h0 rfl xq_122 rfl (xt_12_0 h0).1 dX12_status_25 (Eq.refl 28) ?_
    refine xg_sipush dX12_status_28 (Eq.refl 31) (by decide +kernel) ?_
    refine xg_iload_n dX12_status_31 (Eq.refl 32) rfl ?_
    refine xg_iadd dX12_status_32 (Eq.refl 33) ?_
    refine xg_lald (xt_12_0 h0).2 dX12_status_33 (Eq.refl 34) ?_
    refine xg_l2i dX12_status_34 (Eq.refl 35) ?_
    exact xg_iret rfl dX12_status_35 rfl hM2 (w32_r _)
  · refine xg_iconst dX12_status_20 (Eq.refl 21) ?_
    refine xg_goto (tgt := 35) dX12_status_21 (by decide) ?_
    exact xg_iret rfl dX12_status_35 rfl hM2 (by decide)
theorem mX12_status {l : Launch} {G : xG} (hl : l.stackTraces = false) (x0 : Nat) (h0 : xOb 12 x0) (x1 : Int) (h1 : R32 x1) (M : xM) (hM : xcan M) : Cm l G yX12_status cX12_status 2 (some .int) 3 0 0 0 [.ref x0, iv x1] M (fX12_status x0 x1 M) := by
  refine xcm_of (u := uX12_status) (ls := [some (.ref x0), some (iv x1)]) 0 hl rfl (by decide +kernel) (Nat.le_of_ble_eq_true rfl) rfl ?_
  unfold fX12_status
  refine xg_aload_n dX12_status_0 (Eq.refl 1) rfl ?_
  refine xg_aload_n dX12_status_1 (Eq.refl 2) rfl ?_
  refine xg_iload_n dX12_status_2 (Eq.refl 3) rfl ?_
  refine xg_callV_Z (kc := 0) (ks := 0) (st := [.ref x0]) (mX12_isInstruction hl x0 h0 x1 h1 M hM) bX12_isInstruction xcl12 h0 rfl xq_517 rfl (by decide) rfl (Nat.le_of_ble_eq_true rfl) dX12_status_3 (Eq.refl 6) rfl (by decide) (by decide) ?_
  intro z1 M2 hz1 hM2
  refine xg_if_eq (tgt := 13) dX12_status_6 (Eq.refl 9) (by decide) (B01.r hz1) ?_ ?_
  · refine xg_iconst dX12_status_13 (Eq.refl 14) ?_
    exact xg_jump (gX12_status_14 hl x0 h0 x1 h1 1 (by decide) x0 h0 M2 hM2) (xsb_s (xsb_s xsb_0)) (by decide) (by decide)
  · refine xg_iconst dX12_status_9 (Eq.refl 10) ?_
    refine xg_goto (tgt := 14) dX12_status_10 (by decide) ?_
    exact xg_jump (gX12_status_14 hl x0 h0 x1 h1 0 (by decide) x0 h0 M2 hM2) (xsb_s (xsb_s xsb_0)) (by decide) (by decide)
abbrev uX12_tradeOf : xU := (RX12, cX12_tradeOf, 2, (some .int), [], "tradeOf")
theorem bX12_tradeOf : xYV yX12_tradeOf cX12_tradeOf 2 (some .int) 1 := ⟨xq_1539, xq_1540, xq_5, xq_1541, ⟨by decide +kernel, by decide +kernel, by decide +kernel⟩, by decide⟩
theorem gX12_tradeOf_14 {l : Launch} {G : xG} (hl : l.stackTraces = false) (x0 : Nat) (h0 : xOb 12 x0) (x1 : Int) (h1 : R32 x1) (s0 : Int) (hs0 : B01 s0) (s1 : Nat) (hs1 : xOb 12 s1) (M : xM) (hM : xcan M) : Gv l G uX12_tradeOf 3 0 0 0 14 [some (.ref x0), some (iv x1)] [iv s0, .ref s1] M (fX12_tradeOf_14 x0 x1 s0 s1 M) := by
  unfold fX12_tradeOf_14
  refine xg_callV_Z (kc := 0) (ks := 0) (st := []) (mX12_holds hl s1 hs1 s0 (B01.r hs0) M hM) bX12_holds xcl12 hs1 rfl xq_187 rfl (by decide) rfl (by decide) dX12_tradeOf_14 (Eq.refl 17) rfl (by decide) (by decide) ?_
  intro z1 M2 hz1 hM2
  refine xg_if_eq (tgt := 24) dX12_tradeOf_17 (Eq.refl 20) (by decide) (B01.r hz1) ?_ ?_
  · refine xg_aload_n dX12_tradeOf_24 (Eq.refl 25) rfl ?_
    refine xg_getR (k := 0) xcl12 h0 rfl xq_122 rfl (xt_12_0 h0).1 dX12_tradeOf_25 (Eq.refl 28) ?_
    refine xg_sipush dX12_tradeOf_28 (Eq.refl 31) (by decide +kernel) ?_
    refine xg_iload_n dX12_tradeOf_31 (Eq.refl 32) rfl ?_
    refine xg_iadd dX12_tradeOf_32 (Eq.refl 33) ?_
    refine xg_lald (xt_12_0 h0).2 dX12_tradeOf_33 (Eq.refl 34) ?_
    refine xg_l2i dX12_tradeOf_34 (Eq.refl 35) ?_
    exact xg_iret rfl dX12_tradeOf_35 rfl hM2 (w32_r _)
  · refine xg_iconst dX12_tradeOf_20 (Eq.refl 21) ?_
    refine xg_goto (tgt := 35) dX12_tradeOf_21 (by decide) ?_
    exact xg_iret rfl dX12_tradeOf_35 rfl hM2 (by decide)
theorem mX12_tradeOf {l : Launch} {G : xG} (hl : l.stackTraces = false) (x0 : Nat) (h0 : xOb 12 x0) (x1 : Int) (h1 : R32 x1) (M : xM) (hM : xcan M) : Cm l G yX12_tradeOf cX12_tradeOf 2 (some .int) 3 0 0 0 [.ref x0, iv x1] M (fX12_tradeOf x0 x1 M) := by
  refine xcm_of (u := uX12_tradeOf) (ls := [some (.ref x0), some (iv x1)]) 0 hl rfl (by decide +kernel) (Nat.le_of_ble_eq_true rfl) rfl ?_
  unfold fX12_tradeOf
  refine xg_aload_n dX12_tradeOf_0 (Eq.refl 1) rfl ?_
  refine xg_aload_n dX12_tradeOf_1 (Eq.refl 2) rfl ?_
  refine xg_iload_n dX12_tradeOf_2 (Eq.refl 3) rfl ?_
  refine xg_callV_Z (kc := 0) (ks := 0) (st := [.ref x0]) (mX12_isInstruction hl x0 h0 x1 h1 M hM) bX12_isInstruction xcl12 h0 rfl xq_517 rfl (by decide) rfl (Nat.le_of_ble_eq_true rfl) dX12_tradeOf_3 (Eq.refl 6) rfl (by decide) (by decide) ?_
  intro z1 M2 hz1 hM2
  refine xg_if_eq (tgt := 13) dX12_tradeOf_6 (Eq.refl 9) (by decide) (B01.r hz1) ?_ ?_
  · refine xg_iconst dX12_tradeOf_13 (Eq.refl 14) ?_
    exact xg_jump (gX12_tradeOf_14 hl x0 h0 x1 h1 1 (by decide) x0 h0 M2 hM2) (xsb_s (xsb_s xsb_0)) (by decide) (by decide)
  · refine xg_iconst dX12_tradeOf_9 (Eq.refl 10) ?_
    refine xg_goto (tgt := 14) dX12_tradeOf_10 (by decide) ?_
    exact xg_jump (gX12_tradeOf_14 hl x0 h0 x1 h1 0 (by decide) x0 h0 M2 hM2) (xsb_s (xsb_s xsb_0)) (by decide) (by decide)
abbrev uX12_tradeUnits : xU := (RX12, cX12_tradeUnits, 2, (some .long), [], "tradeUnits")
theorem bX12_tradeUnits : xYV yX12_tradeUnits cX12_tradeUnits 2 (some .long) 1 := ⟨xq_1551, xq_1552, xq_5, xq_1553, ⟨by decide +kernel, by decide +kernel, by decide +kernel⟩, by decide⟩
theorem gX12_tradeUnits_14 {l : Launch} {G : xG} (hl : l.stackTraces = false) (x0 : Nat) (h0 : xOb 12 x0) (x1 : Int) (h1 : R32 x1) (s0 : Int) (hs0 : B01 s0) (s1 : Nat) (hs1 : xOb 12 s1) (M : xM) (hM : xcan M) : Gv l G uX12_tradeUnits 3 2 0 0 14 [some (.ref x0), some (iv x1)] [iv s0, .ref s1] M (fX12_tradeUnits_14 x0 x1 s0 s1 M) := by
  unfold fX12_tradeUnits_14
  refine xg_callV_Z (kc := 0) (ks := 0) (st := []) (mX12_holds hl s1 hs1 s0 (B01.r hs0) M hM) bX12_holds xcl12 hs1 rfl xq_187 rfl (by decide) rfl (by decide) dX12_tradeUnits_14 (Eq.refl 17) rfl (by decide) (by decide) ?_
  intro z1 M2 hz1 hM2
  refine xg_if_eq (tgt := 26) dX12_tradeUnits_17 (Eq.refl 20) (by decide) (B01.r hz1) ?_ ?_
  · refine xg_aload_n dX12_tradeUnits_26 (Eq.refl 27) rfl ?_
    refine xg_getR (k := 0) xcl12 h0 rfl xq_122 rfl (xt_12_0 h0).1 dX12_tradeUnits_27 (Eq.refl 30) ?_
    refine xg_sipush dX12_tradeUnits_30 (Eq.refl 33) (by decide +kernel) ?_
    refine xg_iload_n dX12_tradeUnits_33 (Eq.refl 34) rfl ?_
    refine xg_iadd dX12_tradeUnits_34 (Eq.refl 35) ?_
    refine xg_lald (xt_12_0 h0).2 dX12_tradeUnits_35 (Eq.refl 36) ?_
    exact xg_lret rfl dX12_tradeUnits_36 rfl hM2 (hM2.aj (xt_12_0 h0).2)
  · refine xg_ldc2 (z := (-1)) xq_320 dX12_tradeUnits_20 (Eq.refl 23) (by decide +kernel) ?_
    refine xg_goto (tgt := 36) dX12_tradeUnits_23 (by decide) ?_
    exact xg_lret rfl dX12_tradeUnits_36 rfl hM2 (by decide)
theorem mX12_tradeUnits {l : Launch} {G : xG} (hl : l.stackTraces = false) (x0 : Nat) (h0 : xOb 12 x0) (x1 : Int) (h1 : R32 x1) (M : xM) (hM : xcan M) : Cm l G yX12_tradeUnits cX12_tradeUnits 2 (some .long) 3 2 0 0 [.ref x0, iv x1] M (fX12_tradeUnits x0 x1 M) := by
  refine xcm_of (u := uX12_tradeUnits) (ls := [some (.ref x0), some (iv x1)]) 0 hl rfl (by decide +kernel) (Nat.le_of_ble_eq_true rfl) rfl ?_
  unfold fX12_tradeUnits
  refine xg_aload_n dX12_tradeUnits_0 (Eq.refl 1) rfl ?_
  refine xg_aload_n dX12_tradeUnits_1 (Eq.refl 2) rfl ?_
  refine xg_iload_n dX12_tradeUnits_2 (Eq.refl 3) rfl ?_
  refine xg_callV_Z (kc := 0) (ks := 0) (st := [.ref x0]) (mX12_isTrade hl x0 h0 x1 h1 M hM) bX12_isTrade xcl12 h0 rfl xq_607 rfl (by decide) rfl (Nat.le_of_ble_eq_true rfl) dX12_tradeUnits_3 (Eq.refl 6) rfl (by decide) (by decide) ?_
  intro z1 M2 hz1 hM2
  refine xg_if_eq (tgt := 13) dX12_tradeUnits_6 (Eq.refl 9) (by decide) (B01.r hz1) ?_ ?_
  · refine xg_iconst dX12_tradeUnits_13 (Eq.refl 14) ?_
    exact xg_jump (gX12_tradeUnits_14 hl x0 h0 x1 h1 1 (by decide) x0 h0 M2 hM2) (xsb_s (xsb_s xsb_0)) (by decide) (by decide)
  · refine xg_iconst dX12_tradeUnits_9 (Eq.refl 10) ?_
    refine xg_goto (tgt := 14) dX12_tradeUnits_10 (by decide) ?_
    exact xg_jump (gX12_tradeUnits_14 hl x0 h0 x1 h1 0 (by decide) x0 h0 M2 hM2) (xsb_s (xsb_s xsb_0)) (by decide) (by decide)
abbrev uX12_tradeAmount : xU := (RX12, cX12_tradeAmount, 2, (some .long), [], "tradeAmount")
theorem bX12_tradeAmount : xYV yX12_tradeAmount cX12_tradeAmount 2 (some .long) 1 := ⟨xq_1563, xq_1564, xq_5, xq_1565, ⟨by decide +kernel, by decide +kernel, by decide +kernel⟩, by decide⟩
theorem gX12_tradeAmount_14 {l : Launch} {G : xG} (hl : l.stackTraces = false) (x0 : Nat) (h0 : xOb 12 x0) (x1 : Int) (h1 : R32 x1) (s0 : Int) (hs0 : B01 s0) (s1 : Nat) (hs1 : xOb 12 s1) (M : xM) (hM : xcan M) : Gv l G uX12_tradeAmount 3 2 0 0 14 [some (.ref x0), some (iv x1)] [iv s0, .ref s1] M (fX12_tradeAmount_14 x0 x1 s0 s1 M) := by
  unfold fX12_tradeAmount_14
  refine xg_callV_Z (kc := 0) (ks := 0) (st := []) (mX12_holds hl s1 hs1 s0 (B01.r hs0) M hM) bX12_holds xcl12 hs1 rfl xq_187 rfl (by decide) rfl (by decide) dX12_tradeAmount_14 (Eq.refl 17) rfl (by decide) (by decide) ?_
  intro z1 M2 hz1 hM2
  refine xg_if_eq (tgt := 26) dX12_tradeAmount_17 (Eq.refl 20) (by decide) (B01.r hz1) ?_ ?_
  · refine xg_aload_n dX12_tradeAmount_26 (Eq.refl 27) rfl ?_
    refine xg_getR (k := 0) xcl12 h0 rfl xq_122 rfl (xt_12_0 h0).1 dX12_tradeAmount_27 (Eq.refl 30) ?_
    refine xg_sipush dX12_tradeAmount_30 (Eq.refl 33) (by decide +kernel) ?_
    refine xg_iload_n dX12_tradeAmount_33 (Eq.refl 34) rfl ?_
    refine xg_iadd dX12_tradeAmount_34 (Eq.refl 35) ?_
    refine xg_lald (xt_12_0 h0).2 dX12_tradeAmount_35 (Eq.refl 36) ?_
    exact xg_lret rfl dX12_tradeAmount_36 rfl hM2 (hM2.aj (xt_12_0 h0).2)
  · refine xg_ldc2 (z := (-1)) xq_320 dX12_tradeAmount_20 (Eq.refl 23) (by decide +kernel) ?_
    refine xg_goto (tgt := 36) dX12_tradeAmount_23 (by decide) ?_
    exact xg_lret rfl dX12_tradeAmount_36 rfl hM2 (by decide)
theorem mX12_tradeAmount {l : Launch} {G : xG} (hl : l.stackTraces = false) (x0 : Nat) (h0 : xOb 12 x0) (x1 : Int) (h1 : R32 x1) (M : xM) (hM : xcan M) : Cm l G yX12_tradeAmount cX12_tradeAmount 2 (some .long) 3 2 0 0 [.ref x0, iv x1] M (fX12_tradeAmount x0 x1 M) := by
  refine xcm_of (u := uX12_tradeAmount) (ls := [some (.ref x0), some (iv x1)]) 0 hl rfl (by decide +kernel) (Nat.le_of_ble_eq_true rfl) rfl ?_
  unfold fX12_tradeAmount
  refine xg_aload_n dX12_tradeAmount_0 (Eq.refl 1) rfl ?_
  refine xg_aload_n dX12_tradeAmount_1 (Eq.refl 2) rfl ?_
  refine xg_iload_n dX12_tradeAmount_2 (Eq.refl 3) rfl ?_
  refine xg_callV_Z (kc := 0) (ks := 0) (st := [.ref x0]) (mX12_isTrade hl x0 h0 x1 h1 M hM) bX12_isTrade xcl12 h0 rfl xq_607 rfl (by decide) rfl (Nat.le_of_ble_eq_true rfl) dX12_tradeAmount_3 (Eq.refl 6) rfl (by decide) (by decide) ?_
  intro z1 M2 hz1 hM2
  refine xg_if_eq (tgt := 13) dX12_tradeAmount_6 (Eq.refl 9) (by decide) (B01.r hz1) ?_ ?_
  · refine xg_iconst dX12_tradeAmount_13 (Eq.refl 14) ?_
    exact xg_jump (gX12_tradeAmount_14 hl x0 h0 x1 h1 1 (by decide) x0 h0 M2 hM2) (xsb_s (xsb_s xsb_0)) (by decide) (by decide)
  · refine xg_iconst dX12_tradeAmount_9 (Eq.refl 10) ?_
    refine xg_goto (tgt := 14) dX12_tradeAmount_10 (by decide) ?_
    exact xg_jump (gX12_tradeAmount_14 hl x0 h0 x1 h1 0 (by decide) x0 h0 M2 hM2) (xsb_s (xsb_s xsb_0)) (by decide) (by decide)
abbrev uX12_age : xU := (RX12, cX12_age, 2, (some .int), [], "age")
theorem bX12_age : xYV yX12_age cX12_age 2 (some .int) 1 := ⟨xq_1575, xq_1576, xq_5, xq_1577, ⟨by decide +kernel, by decide +kernel, by decide +kernel⟩, by decide⟩
theorem gX12_age_14 {l : Launch} {G : xG} (hl : l.stackTraces = false) (x0 : Nat) (h0 : xOb 12 x0) (x1 : Int) (h1 : R32 x1) (s0 : Int) (hs0 : B01 s0) (s1 : Nat) (hs1 : xOb 12 s1) (M : xM) (hM : xcan M) : Gv l G uX12_age 3 0 0 0 14 [some (.ref x0), some (iv x1)] [iv s0, .ref s1] M (fX12_age_14 x0 x1 s0 s1 M) := by
  unfold fX12_age_14
  refine xg_callV_Z (kc := 0) (ks := 0) (st := []) (mX12_holds hl s1 hs1 s0 (B01.r hs0) M hM) bX12_holds xcl12 hs1 rfl xq_187 rfl (by decide) rfl (by decide) dX12_age_14 (Eq.refl 17) rfl (by decide) (by decide) ?_
  intro z1 M2 hz1 hM2
  refine xg_if_eq (tgt := 24) dX12_age_17 (Eq.refl 20) (by decide) (B01.r hz1) ?_ ?_
  · refine xg_aload_n dX12_age_24 (Eq.refl 25) rfl ?_
    refine xg_getR (k := 0) xcl12 h0 rfl xq_122 rfl (xt_12_0 h0).1 dX12_age_25 (Eq.refl 28) ?_
    refine xg_sipush dX12_age_28 (Eq.refl 31) (by decide +kernel) ?_
    refine xg_iload_n dX12_age_31 (Eq.refl 32) rfl ?_
    refine xg_iadd dX12_age_32 (Eq.refl 33) ?_
    refine xg_lald (xt_12_0 h0).2 dX12_age_33 (Eq.refl 34) ?_
    refine xg_l2i dX12_age_34 (Eq.refl 35) ?_
    exact xg_iret rfl dX12_age_35 rfl hM2 (w32_r _)
  · refine xg_iconst dX12_age_20 (Eq.refl 21) ?_
    refine xg_goto (tgt := 35) dX12_age_21 (by decide) ?_
    exact xg_iret rfl dX12_age_35 rfl hM2 (by decide)
theorem mX12_age {l : Launch} {G : xG} (hl : l.stackTraces = false) (x0 : Nat) (h0 : xOb 12 x0) (x1 : Int) (h1 : R32 x1) (M : xM) (hM : xcan M) : Cm l G yX12_age cX12_age 2 (some .int) 3 0 0 0 [.ref x0, iv x1] M (fX12_age x0 x1 M) := by
  refine xcm_of (u := uX12_age) (ls := [some (.ref x0), some (iv x1)]) 0 hl rfl (by decide +kernel) (Nat.le_of_ble_eq_true rfl) rfl ?_
  unfold fX12_age
  refine xg_aload_n dX12_age_0 (Eq.refl 1) rfl ?_
  refine xg_aload_n dX12_age_1 (Eq.refl 2) rfl ?_
  refine xg_iload_n dX12_age_2 (Eq.refl 3) rfl ?_
  refine xg_callV_Z (kc := 0) (ks := 0) (st := [.ref x0]) (mX12_isTrade hl x0 h0 x1 h1 M hM) bX12_isTrade xcl12 h0 rfl xq_607 rfl (by decide) rfl (Nat.le_of_ble_eq_true rfl) dX12_age_3 (Eq.refl 6) rfl (by decide) (by decide) ?_
  intro z1 M2 hz1 hM2
  refine xg_if_eq (tgt := 13) dX12_age_6 (Eq.refl 9) (by decide) (B01.r hz1) ?_ ?_
  · refine xg_iconst dX12_age_13 (Eq.refl 14) ?_
    exact xg_jump (gX12_age_14 hl x0 h0 x1 h1 1 (by decide) x0 h0 M2 hM2) (xsb_s (xsb_s xsb_0)) (by decide) (by decide)
  · refine xg_iconst dX12_age_9 (Eq.refl 10) ?_
    refine xg_goto (tgt := 14) dX12_age_10 (by decide) ?_
    exact xg_jump (gX12_age_14 hl x0 h0 x1 h1 0 (by decide) x0 h0 M2 hM2) (xsb_s (xsb_s xsb_0)) (by decide) (by decide)
abbrev uX12_causer : xU := (RX12, cX12_causer, 2, (some .int), [], "causer")
theorem bX12_causer : xYV yX12_causer cX12_causer 2 (some .int) 1 := ⟨xq_1588, xq_1589, xq_5, xq_1590, ⟨by decide +kernel, by decide +kernel, by decide +kernel⟩, by decide⟩
theorem gX12_causer_26 {l : Launch} {G : xG} (hl : l.stackTraces = false) (x0 : Nat) (h0 : xOb 12 x0) (x1 : Int) (h1 : R32 x1) (s0 : Int) (hs0 : R32 s0) (s1 : Nat) (hs1 : xOb 12 s1) (M : xM) (hM : xcan M) : Gv l G uX12_causer 4 0 0 0 26 [some (.ref x0), some (iv x1)] [iv s0, .ref s1] M (fX12_causer_26 x0 x1 s0 s1 M) := by
  unfold fX12_causer_26
  refine xg_callV_Z (kc := 0) (ks := 0) (st := []) (mX12_holds hl s1 hs1 s0 hs0 M hM) bX12_holds xcl12 hs1 rfl xq_187 rfl (by decide) rfl (by decide) dX12_causer_26 (Eq.refl 29) rfl (by decide) (by decide) ?_
  intro z1 M2 hz1 hM2
  refine xg_if_eq (tgt := 36) dX12_causer_29 (Eq.refl 32) (by decide) (B01.r hz1) ?_ ?_
  · refine xg_aload_n dX12_causer_36 (Eq.refl 37) rfl ?_
    refine xg_iload_n dX12_causer_37 (Eq.refl 38) rfl ?_
    refine xg_callV_I (kc := 0) (ks := 0) (st := []) (mX12_causerOf hl x0 h0 x1 h1 M2 hM2) bX12_causerOf xcl12 h0 rfl xq_1149 rfl (by decide) rfl (by decide) dX12_causer_38 (Eq.refl 41) rfl (by decide) (by decide) ?_
    intro z3 M4 hz3 hM4
    exact xg_iret rfl dX12_causer_41 rfl hM4 hz3
  · refine xg_iconst dX12_causer_32 (Eq.refl 33) ?_
    refine xg_goto (tgt := 41) dX12_causer_33 (by decide) ?_
    exact xg_iret rfl dX12_causer_41 rfl hM2 (by decide)
theorem mX12_causer {l : Launch} {G : xG} (hl : l.stackTraces = false) (x0 : Nat) (h0 : xOb 12 x0) (x1 : Int) (h1 : R32 x1) (M : xM) (hM : xcan M) : Cm l G yX12_causer cX12_causer 2 (some .int) 4 0 0 0 [.ref x0, iv x1] M (fX12_causer x0 x1 M) := by
  refine xcm_of (u := uX12_causer) (ls := [some (.ref x0), some (iv x1)]) 0 hl rfl (by decide +kernel) (Nat.le_of_ble_eq_true rfl) rfl ?_
  unfold fX12_causer
  refine xg_aload_n dX12_causer_0 (Eq.refl 1) rfl ?_
  refine xg_aload_n dX12_causer_1 (Eq.refl 2) rfl ?_
  refine xg_iload_n dX12_causer_2 (Eq.refl 3) rfl ?_
  refine xg_callV_Z (kc := 0) (ks := 0) (st := [.ref x0]) (mX12_isTrade hl x0 h0 x1 h1 M hM) bX12_isTrade xcl12 h0 rfl xq_607 rfl (by decide) rfl (Nat.le_of_ble_eq_true rfl) dX12_causer_3 (Eq.refl 6) rfl (by decide) (by decide) ?_
  intro z1 M2 hz1 hM2
  refine xg_if_ne (tgt := 13) dX12_causer_6 (Eq.refl 9) (by decide) (B01.r hz1) ?_ ?_
  · refine xg_iconst dX12_causer_9 (Eq.refl 10) ?_
    refine xg_goto (tgt := 26) dX12_causer_10 (by decide) ?_
    exact xg_jump (gX12_causer_26 hl x0 h0 x1 h1 1 (by decide) x0 h0 M2 hM2) (xsb_s (xsb_s xsb_0)) (by decide) (by decide)
  · refine xg_aload_n dX12_causer_13 (Eq.refl 14) rfl ?_
    refine xg_iload_n dX12_causer_14 (Eq.refl 15) rfl ?_
    refine xg_callV_Z (kc := 0) (ks := 0) (st := [.ref x0]) (mX12_due hl x0 h0 x1 h1 M2 hM2) bX12_due xcl12 h0 rfl xq_822 rfl (by decide) rfl (Nat.le_of_ble_eq_true rfl) dX12_causer_15 (Eq.refl 18) rfl (by decide) (by decide) ?_
    intro z3 M4 hz3 hM4
    refine xg_if_eq (tgt := 25) dX12_causer_18 (Eq.refl 21) (by decide) (B01.r hz3) ?_ ?_
    · refine xg_iconst dX12_causer_25 (Eq.refl 26) ?_
      exact xg_jump (gX12_causer_26 hl x0 h0 x1 h1 2 (by decide) x0 h0 M4 hM4) (xsb_s (xsb_s xsb_0)) (by decide) (by decide)
    · refine xg_iconst dX12_causer_21 (Eq.refl 22) ?_
      refine xg_goto (tgt := 26) dX12_causer_22 (by decide) ?_
      exact xg_jump (gX12_causer_26 hl x0 h0 x1 h1 0 (by decide) x0 h0 M4 hM4) (xsb_s (xsb_s xsb_0)) (by decide) (by decide)
abbrev uX12_loans : xU := (RX12, cX12_loans, 1, (some .int), [], "loans")
theorem bX12_loans : xYV yX12_loans cX12_loans 1 (some .int) 0 := ⟨xq_1596, xq_1597, xq_5, xq_1598, ⟨by decide +kernel, by decide +kernel, by decide +kernel⟩, by decide⟩
theorem mX12_loans {l : Launch} {G : xG} (hl : l.stackTraces = false) (x0 : Nat) (h0 : xOb 12 x0) (M : xM) (hM : xcan M) : Cm l G yX12_loans cX12_loans 1 (some .int) 2 0 0 0 [.ref x0] M (fX12_loans x0 M) := by
  refine xcm_of (u := uX12_loans) (ls := [some (.ref x0)]) 0 hl rfl (by decide +kernel) (Nat.le_of_ble_eq_true rfl) rfl ?_
  unfold fX12_loans
  refine xg_aload_n dX12_loans_0 (Eq.refl 1) rfl ?_
  refine xg_iconst dX12_loans_1 (Eq.refl 2) ?_
  refine xg_callV_Z (kc := 0) (ks := 0) (st := []) (mX12_holds hl x0 h0 0 (by decide) M hM) bX12_holds xcl12 h0 rfl xq_187 rfl (by decide) rfl (by decide) dX12_loans_2 (Eq.refl 5) rfl (by decide) (by decide) ?_
  intro z1 M2 hz1 hM2
  refine xg_pop dX12_loans_5 (Eq.refl 6) rfl ?_
  refine xg_aload_n dX12_loans_6 (Eq.refl 7) rfl ?_
  refine xg_getR (k := 0) xcl12 h0 rfl xq_122 rfl (xt_12_0 h0).1 dX12_loans_7 (Eq.refl 10) ?_
  refine xg_sipush dX12_loans_10 (Eq.refl 13) (by decide +kernel) ?_
  refine xg_laldk (k := 1545) (xt_12_0 h0).2 dX12_loans_13 (Eq.refl 14) rfl (by decide) ?_
  refine xg_l2i dX12_loans_14 (Eq.refl 15) ?_
  exact xg_iret rfl dX12_loans_15 rfl hM2 (w32_r _)
abbrev uX12_loan : xU := (RX12, cX12_loan, 2, (some .long), [], "loan")
theorem bX12_loan : xYV yX12_loan cX12_loan 2 (some .long) 1 := ⟨xq_1607, xq_1608, xq_5, xq_1609, ⟨by decide +kernel, by decide +kernel, by decide +kernel⟩, by decide⟩
theorem gX12_loan_14 {l : Launch} {G : xG} (hl : l.stackTraces = false) (x0 : Nat) (h0 : xOb 12 x0) (x1 : Int) (h1 : R32 x1) (s0 : Int) (hs0 : B01 s0) (s1 : Nat) (hs1 : xOb 12 s1) (M : xM) (hM : xcan M) : Gv l G uX12_loan 3 2 0 0 14 [some (.ref x0), some (iv x1)] [iv s0, .ref s1] M (fX12_loan_14 x0 x1 s0 s1 M) := by
  unfold fX12_loan_14
  refine xg_callV_Z (kc := 0) (ks := 0) (st := []) (mX12_holds hl s1 hs1 s0 (B01.r hs0) M hM) bX12_holds xcl12 hs1 rfl xq_187 rfl (by decide) rfl (by decide) dX12_loan_14 (Eq.refl 17) rfl (by decide) (by decide) ?_
  intro z1 M2 hz1 hM2
  refine xg_if_eq (tgt := 26) dX12_loan_17 (Eq.refl 20) (by decide) (B01.r hz1) ?_ ?_
  · refine xg_aload_n dX12_loan_26 (Eq.refl 27) rfl ?_
    refine xg_getR (k := 0) xcl12 h0 rfl xq_122 rfl (xt_12_0 h0).1 dX12_loan_27 (Eq.refl 30) ?_
    refine xg_sipush dX12_loan_30 (Eq.refl 33) (by decide +kernel) ?_
    refine xg_iload_n dX12_loan_33 (Eq.refl 34) rfl ?_
    refine xg_iadd dX12_loan_34 (Eq.refl 35) ?_
    refine xg_lald (xt_12_0 h0).2 dX12_loan_35 (Eq.refl 36) ?_
    exact xg_lret rfl dX12_loan_36 rfl hM2 (hM2.aj (xt_12_0 h0).2)
  · refine xg_ldc2 (z := (-1)) xq_320 dX12_loan_20 (Eq.refl 23) (by decide +kernel) ?_
    refine xg_goto (tgt := 36) dX12_loan_23 (by decide) ?_
    exact xg_lret rfl dX12_loan_36 rfl hM2 (by decide)
theorem mX12_loan {l : Launch} {G : xG} (hl : l.stackTraces = false) (x0 : Nat) (h0 : xOb 12 x0) (x1 : Int) (h1 : R32 x1) (M : xM) (hM : xcan M) : Cm l G yX12_loan cX12_loan 2 (some .long) 3 2 0 0 [.ref x0, iv x1] M (fX12_loan x0 x1 M) := by
  refine xcm_of (u := uX12_loan) (ls := [some (.ref x0), some (iv x1)]) 0 hl rfl (by decide +kernel) (Nat.le_of_ble_eq_true rfl) rfl ?_
  unfold fX12_loan
  refine xg_aload_n dX12_loan_0 (Eq.refl 1) rfl ?_
  refine xg_aload_n dX12_loan_1 (Eq.refl 2) rfl ?_
  refine xg_iload_n dX12_loan_2 (Eq.refl 3) rfl ?_
  refine xg_callV_Z (kc := 0) (ks := 0) (st := [.ref x0]) (mX12_isLoan hl x0 h0 x1 h1 M hM) bX12_isLoan xcl12 h0 rfl xq_1190 rfl (by decide) rfl (Nat.le_of_ble_eq_true rfl) dX12_loan_3 (Eq.refl 6) rfl (by decide) (by decide) ?_
  intro z1 M2 hz1 hM2
  refine xg_if_eq (tgt := 13) dX12_loan_6 (Eq.refl 9) (by decide) (B01.r hz1) ?_ ?_
  · refine xg_iconst dX12_loan_13 (Eq.refl 14) ?_
    exact xg_jump (gX12_loan_14 hl x0 h0 x1 h1 1 (by decide) x0 h0 M2 hM2) (xsb_s (xsb_s xsb_0)) (by decide) (by decide)
  · refine xg_iconst dX12_loan_9 (Eq.refl 10) ?_
    refine xg_goto (tgt := 14) dX12_loan_10 (by decide) ?_
    exact xg_jump (gX12_loan_14 hl x0 h0 x1 h1 0 (by decide) x0 h0 M2 hM2) (xsb_s (xsb_s xsb_0)) (by decide) (by decide)
abbrev uL_open : xU := (RL, cL_open, 8, (some .int), tableOf [(0, 16, 19, 13), (0, 16, 23, 15), (0, 16, 27, 17)], "open")
theorem bL_open : xYW yL_open cL_open 8 (some .int) [(0, 16, 19, 13), (0, 16, 23, 15), (0, 16, 27, 17)] 7 := ⟨xq_129, xq_130, xq_131, ⟨by decide +kernel, by decide +kernel, by decide +kernel⟩, by decide⟩
theorem mL_open {l : Launch} {G : xG} (hl : l.stackTraces = false) (x0 : Nat) (h0 : xOb 11 x0) (x1 : Int) (h1 : R32 x1) (x2 : Int) (h2 : B01 x2) (x3 : Int) (h3 : R32 x3) (x4 : Int) (h4 : R32 x4) (x5 : Int) (h5 : R32 x5) (x6 : Nat) (h6 : xAn 1 (xln x6) x6) (M : xM) (hM : xcan M) : CmW l G yL_open cL_open 8 (some .int) [(0, 16, 19, 13), (0, 16, 23, 15), (0, 16, 27, 17)] 4 0 6 36 [.ref x0, iv x1, iv x2, iv x3, iv x4, iv x5, .ref x6] M (fL_open x0 x1 x2 x3 x4 x5 x6 M) := by
  refine xcmw_of (u := uL_open) (ls := [some (.ref x0), some (iv x1), some (iv x2), some (iv x3), some (iv x4), some (iv x5), some (.ref x6), none]) 1 hl rfl (by decide +kernel) (Nat.le_of_ble_eq_true rfl) rfl ?_
  unfold fL_open
  refine xg_aload dL_open_0 (Eq.refl 2) rfl ?_
  refine xg_iconst dL_open_2 (Eq.refl 3) ?_
  refine xg_aload_n dL_open_3 (Eq.refl 4) rfl ?_
  refine xg_iload_n dL_open_4 (Eq.refl 5) rfl ?_
  refine xg_iload_n dL_open_5 (Eq.refl 6) rfl ?_
  refine xg_iload_n dL_open_6 (Eq.refl 7) rfl ?_
  refine xg_iload dL_open_7 (Eq.refl 9) rfl ?_
  refine xg_iload dL_open_9 (Eq.refl 11) rfl ?_
  refine xg_callVC_I (kc := 0) (ks := 0) (st := [iv 0, .ref x6]) (mX11_open hl x0 h0 x1 h1 x2 h2 x3 h3 x4 h4 x5 h5 M hM) bX11_open xcl11 h0 rfl xq_135 rfl (by decide) (Nat.le_of_ble_eq_true rfl) dL_open_11 (Eq.refl 14) rfl (by decide) (by decide) ?_ ?_
  · intro z1 M2 hz1 hM2
    refine xg_i2l dL_open_14 (Eq.refl 15) hz1 ?_
    refine xg_last h6 dL_open_15 (Eq.refl 16) hM2 (R32.j hz1) ?_
    intro M3 hM3
    refine xg_goto (tgt := 31) dL_open_16 (by decide) ?_
    refine xg_iconst dL_open_31 (Eq.refl 32) ?_
    exact xg_iret rfl dL_open_32 rfl hM3 (by decide)
  · intro e M4 he hM4
    have he3 : e = 0 ∨ e = 1 ∨ e = 2 := by omega
    rcases he3 with rfl | rfl | rfl
    · refine xgx_c0 ?_
      refine xgx_catch (pre := tableOf []) (suf := tableOf [(0, 16, 23, 15), (0, 16, 27, 17)]) (x := ⟨0, 16, 19, 13⟩) (j := 7) (ln := 2) rfl (fun z hz => by cases hz) (by decide) (by decide) (by decide) xq_132 (by decide) (Or.inl ⟨dL_open_19, rfl⟩) ?_
      show Gv _ _ _ _ _ _ _ 21 _ _ _ _
      refine xg_iconst dL_open_21 (Eq.refl 22) ?_
      exact xg_iret rfl dL_open_22 rfl hM4 (by decide)
    · refine xgx_c1 ?_
      refine xgx_catch (pre := tableOf [(0, 16, 19, 13)]) (suf := tableOf [(0, 16, 27, 17)]) (x := ⟨0, 16, 23, 15⟩) (j := 7) (ln := 2) rfl (xpass1 (by decide) 0 xq_132 (by decide)) (by decide) (by decide) (by decide) xq_133 (by decide) (Or.inl ⟨dL_open_23, rfl⟩) ?_
      show Gv _ _ _ _ _ _ _ 25 _ _ _ _
      refine xg_iconst dL_open_25 (Eq.refl 26) ?_
      exact xg_iret rfl dL_open_26 rfl hM4 (by decide)
    · refine xgx_c2 ?_
      refine xgx_catch (pre := tableOf [(0, 16, 19, 13), (0, 16, 23, 15)]) (suf := tableOf []) (x := ⟨0, 16, 27, 17⟩) (j := 7) (ln := 2) rfl (xpass2 (by decide) 0 xq_132 (by decide) (by decide) 1 xq_133 (by decide)) (by decide) (by decide) (by decide) xq_134 (by decide) (Or.inl ⟨dL_open_27, rfl⟩) ?_
      show Gv _ _ _ _ _ _ _ 29 _ _ _ _
      refine xg_iconst dL_open_29 (Eq.refl 30) ?_
      exact xg_iret rfl dL_open_30 rfl hM4 (by decide)
abbrev uL_lend : xU := (RL, cL_lend, 4, (some .int), tableOf [(0, 16, 19, 13)], "lend")
theorem bL_lend : xYW yL_lend cL_lend 4 (some .int) [(0, 16, 19, 13)] 3 := ⟨xq_197, xq_130, xq_198, ⟨by decide +kernel, by decide +kernel, by decide +kernel⟩, by decide⟩
theorem gL_lend_15 {l : Launch} {G : xG} (hl : l.stackTraces = false) (s0 : Int) (hs0 : R64 s0) (s1 : Int) (hs1 : B01 s1) (s2 : Nat) (hs2 : xAn 1 (xln s2) s2) (M : xM) (hM : xcan M) : Gv l G uL_lend 4 0 0 0 15 [none, none, none, none] [jv s0, iv s1, .ref s2] M (fL_lend_15 s0 s1 s2 M) := by
  unfold fL_lend_15
  refine xg_last hs2 dL_lend_15 (Eq.refl 16) hM hs0 ?_
  intro M1 hM1
  refine xg_goto (tgt := 22) dL_lend_16 (by decide) ?_
  refine xg_iconst dL_lend_22 (Eq.refl 23) ?_
  exact xg_iret rfl dL_lend_23 rfl hM1 (by decide)
theorem mL_lend {l : Launch} {G : xG} (hl : l.stackTraces = false) (x0 : Nat) (h0 : xOb 11 x0) (x1 : Int) (h1 : R32 x1) (x2 : Nat) (h2 : xAn 1 (xln x2) x2) (M : xM) (hM : xcan M) : CmW l G yL_lend cL_lend 4 (some .int) [(0, 16, 19, 13)] 4 0 1 6 [.ref x0, iv x1, .ref x2] M (fL_lend x0 x1 x2 M) := by
  refine xcmw_of (u := uL_lend) (ls := [some (.ref x0), some (iv x1), some (.ref x2), none]) 1 hl rfl (by decide +kernel) (Nat.le_of_ble_eq_true rfl) rfl ?_
  unfold fL_lend
  refine xg_aload_n dL_lend_0 (Eq.refl 1) rfl ?_
  refine xg_iconst dL_lend_1 (Eq.refl 2) ?_
  refine xg_aload_n dL_lend_2 (Eq.refl 3) rfl ?_
  refine xg_iload_n dL_lend_3 (Eq.refl 4) rfl ?_
  refine xg_callVC_Z (kc := 0) (ks := 0) (st := [iv 0, .ref x2]) (mX11_lend hl x0 h0 x1 h1 M hM) bX11_lend xcl11 h0 rfl xq_199 rfl (by decide) (Nat.le_of_ble_eq_true rfl) dL_lend_4 (Eq.refl 7) rfl (by decide) (by decide) ?_ ?_
  · intro z1 M2 hz1 hM2
    refine xg_if_eq (tgt := 14) dL_lend_7 (Eq.refl 10) (by decide) (B01.r hz1) ?_ ?_
    · refine xg_lconst (z := 0) dL_lend_14 (Eq.refl 15) rfl ?_
      exact xg_jump (gL_lend_15 hl 0 (by decide) 0 (by decide) x2 h2 M2 hM2) (xsb_n (xsb_n (xsb_n (xsb_n xsb_0)))) (by decide) (by decide)
    · refine xg_lconst (z := 1) dL_lend_10 (Eq.refl 11) rfl ?_
      refine xg_goto (tgt := 15) dL_lend_11 (by decide) ?_
      exact xg_jump (gL_lend_15 hl 1 (by decide) 0 (by decide) x2 h2 M2 hM2) (xsb_n (xsb_n (xsb_n (xsb_n xsb_0)))) (by decide) (by decide)
  · intro e M3 he hM3
    have he3 : e = 0 ∨ e = 1 ∨ e = 2 := by omega
    rcases he3 with rfl | rfl | rfl
    · refine xgx_c0 ?_
      refine xgx_catch (pre := tableOf []) (suf := tableOf []) (x := ⟨0, 16, 19, 13⟩) (j := 3) (ln := 1) rfl (fun z hz => by cases hz) (by decide) (by decide) (by decide) xq_132 (by decide) (Or.inr ⟨3, rfl, dL_lend_19, rfl⟩) ?_
      show Gv _ _ _ _ _ _ _ 20 _ _ _ _
      refine xg_iconst dL_lend_20 (Eq.refl 21) ?_
      exact xg_iret rfl dL_lend_21 rfl hM3 (by decide)
    · exact xgx_none
    · exact xgx_none
abbrev uL_relieve : xU := (RL, cL_relieve, 4, (some .int), tableOf [(0, 16, 19, 13)], "relieve")
theorem bL_relieve : xYW yL_relieve cL_relieve 4 (some .int) [(0, 16, 19, 13)] 3 := ⟨xq_213, xq_130, xq_214, ⟨by decide +kernel, by decide +kernel, by decide +kernel⟩, by decide⟩
theorem gL_relieve_15 {l : Launch} {G : xG} (hl : l.stackTraces = false) (s0 : Int) (hs0 : R64 s0) (s1 : Int) (hs1 : B01 s1) (s2 : Nat) (hs2 : xAn 1 (xln s2) s2) (M : xM) (hM : xcan M) : Gv l G uL_relieve 4 0 0 0 15 [none, none, none, none] [jv s0, iv s1, .ref s2] M (fL_relieve_15 s0 s1 s2 M) := by
  unfold fL_relieve_15
  refine xg_last hs2 dL_relieve_15 (Eq.refl 16) hM hs0 ?_
  intro M1 hM1
  refine xg_goto (tgt := 22) dL_relieve_16 (by decide) ?_
  refine xg_iconst dL_relieve_22 (Eq.refl 23) ?_
  exact xg_iret rfl dL_relieve_23 rfl hM1 (by decide)
theorem mL_relieve {l : Launch} {G : xG} (hl : l.stackTraces = false) (x0 : Nat) (h0 : xOb 11 x0) (x1 : Int) (h1 : R32 x1) (x2 : Nat) (h2 : xAn 1 (xln x2) x2) (M : xM) (hM : xcan M) : CmW l G yL_relieve cL_relieve 4 (some .int) [(0, 16, 19, 13)] 4 0 1 6 [.ref x0, iv x1, .ref x2] M (fL_relieve x0 x1 x2 M) := by
  refine xcmw_of (u := uL_relieve) (ls := [some (.ref x0), some (iv x1), some (.ref x2), none]) 1 hl rfl (by decide +kernel) (Nat.le_of_ble_eq_true rfl) rfl ?_
  unfold fL_relieve
  refine xg_aload_n dL_relieve_0 (Eq.refl 1) rfl ?_
  refine xg_iconst dL_relieve_1 (Eq.refl 2) ?_
  refine xg_aload_n dL_relieve_2 (Eq.refl 3) rfl ?_
  refine xg_iload_n dL_relieve_3 (Eq.refl 4) rfl ?_
  refine xg_callVC_Z (kc := 0) (ks := 0) (st := [iv 0, .ref x2]) (mX11_relieve hl x0 h0 x1 h1 M hM) bX11_relieve xcl11 h0 rfl xq_215 rfl (by decide) (Nat.le_of_ble_eq_true rfl) dL_relieve_4 (Eq.refl 7) rfl (by decide) (by decide) ?_ ?_
  · intro z1 M2 hz1 hM2
    refine xg_if_eq (tgt := 14) dL_relieve_7 (Eq.refl 10) (by decide) (B01.r hz1) ?_ ?_
    · refine xg_lconst (z := 0) dL_relieve_14 (Eq.refl 15) rfl ?_
      exact xg_jump (gL_relieve_15 hl 0 (by decide) 0 (by decide) x2 h2 M2 hM2) (xsb_n (xsb_n (xsb_n (xsb_n xsb_0)))) (by decide) (by decide)
    · refine xg_lconst (z := 1) dL_relieve_10 (Eq.refl 11) rfl ?_
      refine xg_goto (tgt := 15) dL_relieve_11 (by decide) ?_
      exact xg_jump (gL_relieve_15 hl 1 (by decide) 0 (by decide) x2 h2 M2 hM2) (xsb_n (xsb_n (xsb_n (xsb_n xsb_0)))) (by decide) (by decide)
  · intro e M3 he hM3
    have he3 : e = 0 ∨ e = 1 ∨ e = 2 := by omega
    rcases he3 with rfl | rfl | rfl
    · refine xgx_c0 ?_
      refine xgx_catch (pre := tableOf []) (suf := tableOf []) (x := ⟨0, 16, 19, 13⟩) (j := 3) (ln := 1) rfl (fun z hz => by cases hz) (by decide) (by decide) (by decide) xq_132 (by decide) (Or.inr ⟨3, rfl, dL_relieve_19, rfl⟩) ?_
      show Gv _ _ _ _ _ _ _ 20 _ _ _ _
      refine xg_iconst dL_relieve_20 (Eq.refl 21) ?_
      exact xg_iret rfl dL_relieve_21 rfl hM3 (by decide)
    · exact xgx_none
    · exact xgx_none
abbrev uL_treaty : xU := (RL, cL_treaty, 6, (some .int), tableOf [(0, 12, 15, 15)], "treaty")
theorem bL_treaty : xYW yL_treaty cL_treaty 6 (some .int) [(0, 12, 15, 15)] 5 := ⟨xq_225, xq_130, xq_226, ⟨by decide +kernel, by decide +kernel, by decide +kernel⟩, by decide⟩
theorem mL_treaty {l : Launch} {G : xG} (hl : l.stackTraces = false) (x0 : Nat) (h0 : xOb 11 x0) (x1 : Int) (h1 : R32 x1) (x2 : Int) (h2 : R32 x2) (x3 : Int) (h3 : R32 x3) (x4 : Nat) (h4 : xAn 1 (xln x4) x4) (M : xM) (hM : xcan M) : CmW l G yL_treaty cL_treaty 6 (some .int) [(0, 12, 15, 15)] 4 0 3 18 [.ref x0, iv x1, iv x2, iv x3, .ref x4] M (fL_treaty x0 x1 x2 x3 x4 M) := by
  refine xcmw_of (u := uL_treaty) (ls := [some (.ref x0), some (iv x1), some (iv x2), some (iv x3), some (.ref x4), none]) 1 hl rfl (by decide +kernel) (Nat.le_of_ble_eq_true rfl) rfl ?_
  unfold fL_treaty
  refine xg_aload dL_treaty_0 (Eq.refl 2) rfl ?_
  refine xg_iconst dL_treaty_2 (Eq.refl 3) ?_
  refine xg_aload_n dL_treaty_3 (Eq.refl 4) rfl ?_
  refine xg_iload_n dL_treaty_4 (Eq.refl 5) rfl ?_
  refine xg_iload_n dL_treaty_5 (Eq.refl 6) rfl ?_
  refine xg_iload_n dL_treaty_6 (Eq.refl 7) rfl ?_
  refine xg_callVC_I (kc := 0) (ks := 0) (st := [iv 0, .ref x4]) (mX11_treaty hl x0 h0 x1 h1 x2 h2 x3 h3 M hM) bX11_treaty xcl11 h0 rfl xq_227 rfl (by decide) (Nat.le_of_ble_eq_true rfl) dL_treaty_7 (Eq.refl 10) rfl (by decide) (by decide) ?_ ?_
  · intro z1 M2 hz1 hM2
    refine xg_i2l dL_treaty_10 (Eq.refl 11) hz1 ?_
    refine xg_last h4 dL_treaty_11 (Eq.refl 12) hM2 (R32.j hz1) ?_
    intro M3 hM3
    refine xg_goto (tgt := 19) dL_treaty_12 (by decide) ?_
    refine xg_iconst dL_treaty_19 (Eq.refl 20) ?_
    exact xg_iret rfl dL_treaty_20 rfl hM3 (by decide)
  · intro e M4 he hM4
    have he3 : e = 0 ∨ e = 1 ∨ e = 2 := by omega
    rcases he3 with rfl | rfl | rfl
    · exact xgx_none
    · refine xgx_c1 ?_
      refine xgx_catch (pre := tableOf []) (suf := tableOf []) (x := ⟨0, 12, 15, 15⟩) (j := 5) (ln := 2) rfl (fun z hz => by cases hz) (by decide) (by decide) (by decide) xq_133 (by decide) (Or.inl ⟨dL_treaty_15, rfl⟩) ?_
      show Gv _ _ _ _ _ _ _ 17 _ _ _ _
      refine xg_iconst dL_treaty_17 (Eq.refl 18) ?_
      exact xg_iret rfl dL_treaty_18 rfl hM4 (by decide)
    · exact xgx_none
abbrev uL_issue : xU := (RL, cL_issue, 8, (some .int), tableOf [(0, 16, 19, 13), (0, 16, 23, 15), (0, 16, 27, 17)], "issue")
theorem bL_issue : xYW yL_issue cL_issue 8 (some .int) [(0, 16, 19, 13), (0, 16, 23, 15), (0, 16, 27, 17)] 7 := ⟨xq_245, xq_130, xq_246, ⟨by decide +kernel, by decide +kernel, by decide +kernel⟩, by decide⟩
theorem mL_issue {l : Launch} {G : xG} (hl : l.stackTraces = false) (x0 : Nat) (h0 : xOb 11 x0) (x1 : Int) (h1 : R32 x1) (x2 : Int) (h2 : R32 x2) (x3 : Int) (h3 : R32 x3) (x4 : Int) (h4 : R32 x4) (x5 : Int) (h5 : R32 x5) (x6 : Nat) (h6 : xAn 1 (xln x6) x6) (M : xM) (hM : xcan M) : CmW l G yL_issue cL_issue 8 (some .int) [(0, 16, 19, 13), (0, 16, 23, 15), (0, 16, 27, 17)] 4 0 6 36 [.ref x0, iv x1, iv x2, iv x3, iv x4, iv x5, .ref x6] M (fL_issue x0 x1 x2 x3 x4 x5 x6 M) := by
  refine xcmw_of (u := uL_issue) (ls := [some (.ref x0), some (iv x1), some (iv x2), some (iv x3), some (iv x4), some (iv x5), some (.ref x6), none]) 1 hl rfl (by decide +kernel) (Nat.le_of_ble_eq_true rfl) rfl ?_
  unfold fL_issue
  refine xg_aload dL_issue_0 (Eq.refl 2) rfl ?_
  refine xg_iconst dL_issue_2 (Eq.refl 3) ?_
  refine xg_aload_n dL_issue_3 (Eq.refl 4) rfl ?_
  refine xg_iload_n dL_issue_4 (Eq.refl 5) rfl ?_
  refine xg_iload_n dL_issue_5 (Eq.refl 6) rfl ?_
  refine xg_iload_n dL_issue_6 (Eq.refl 7) rfl ?_
  refine xg_iload dL_issue_7 (Eq.refl 9) rfl ?_
  refine xg_iload dL_issue_9 (Eq.refl 11) rfl ?_
  refine xg_callVC_I (kc := 0) (ks := 0) (st := [iv 0, .ref x6]) (mX11_issue hl x0 h0 x1 h1 x2 h2 x3 h3 x4 h4 x5 h5 M hM) bX11_issue xcl11 h0 rfl xq_247 rfl (by decide) (Nat.le_of_ble_eq_true rfl) dL_issue_11 (Eq.refl 14) rfl (by decide) (by decide) ?_ ?_
  · intro z1 M2 hz1 hM2
    refine xg_i2l dL_issue_14 (Eq.refl 15) hz1 ?_
    refine xg_last h6 dL_issue_15 (Eq.refl 16) hM2 (R32.j hz1) ?_
    intro M3 hM3
    refine xg_goto (tgt := 31) dL_issue_16 (by decide) ?_
    refine xg_iconst dL_issue_31 (Eq.refl 32) ?_
    exact xg_iret rfl dL_issue_32 rfl hM3 (by decide)
  · intro e M4 he hM4
    have he3 : e = 0 ∨ e = 1 ∨ e = 2 := by omega
    rcases he3 with rfl | rfl | rfl
    · refine xgx_c0 ?_
      refine xgx_catch (pre := tableOf []) (suf := tableOf [(0, 16, 23, 15), (0, 16, 27, 17)]) (x := ⟨0, 16, 19, 13⟩) (j := 7) (ln := 2) rfl (fun z hz => by cases hz) (by decide) (by decide) (by decide) xq_132 (by decide) (Or.inl ⟨dL_issue_19, rfl⟩) ?_
      show Gv _ _ _ _ _ _ _ 21 _ _ _ _
      refine xg_iconst dL_issue_21 (Eq.refl 22) ?_
      exact xg_iret rfl dL_issue_22 rfl hM4 (by decide)
    · refine xgx_c1 ?_
      refine xgx_catch (pre := tableOf [(0, 16, 19, 13)]) (suf := tableOf [(0, 16, 27, 17)]) (x := ⟨0, 16, 23, 15⟩) (j := 7) (ln := 2) rfl (xpass1 (by decide) 0 xq_132 (by decide)) (by decide) (by decide) (by decide) xq_133 (by decide) (Or.inl ⟨dL_issue_23, rfl⟩) ?_
      show Gv _ _ _ _ _ _ _ 25 _ _ _ _
      refine xg_iconst dL_issue_25 (Eq.refl 26) ?_
      exact xg_iret rfl dL_issue_26 rfl hM4 (by decide)
    · refine xgx_c2 ?_
      refine xgx_catch (pre := tableOf [(0, 16, 19, 13), (0, 16, 23, 15)]) (suf := tableOf []) (x := ⟨0, 16, 27, 17⟩) (j := 7) (ln := 2) rfl (xpass2 (by decide) 0 xq_132 (by decide) (by decide) 1 xq_133 (by decide)) (by decide) (by decide) (by decide) xq_134 (by decide) (Or.inl ⟨dL_issue_27, rfl⟩) ?_
      show Gv _ _ _ _ _ _ _ 29 _ _ _ _
      refine xg_iconst dL_issue_29 (Eq.refl 30) ?_
      exact xg_iret rfl dL_issue_30 rfl hM4 (by decide)
abbrev uL_setPrice : xU := (RL, cL_setPrice, 5, (some .int), tableOf [(0, 10, 13, 13), (0, 10, 17, 15)], "setPrice")
theorem bL_setPrice : xYW yL_setPrice cL_setPrice 5 (some .int) [(0, 10, 13, 13), (0, 10, 17, 15)] 4 := ⟨xq_279, xq_130, xq_280, ⟨by decide +kernel, by decide +kernel, by decide +kernel⟩, by decide⟩
theorem mL_setPrice {l : Launch} {G : xG} (hl : l.stackTraces = false) (x0 : Nat) (h0 : xOb 11 x0) (x1 : Int) (h1 : R32 x1) (x2 : Int) (h2 : R32 x2) (x3 : Nat) (h3 : xAn 1 (xln x3) x3) (M : xM) (hM : xcan M) : CmW l G yL_setPrice cL_setPrice 5 (some .int) [(0, 10, 13, 13), (0, 10, 17, 15)] 4 0 2 12 [.ref x0, iv x1, iv x2, .ref x3] M (fL_setPrice x0 x1 x2 x3 M) := by
  refine xcmw_of (u := uL_setPrice) (ls := [some (.ref x0), some (iv x1), some (iv x2), some (.ref x3), none]) 1 hl rfl (by decide +kernel) (Nat.le_of_ble_eq_true rfl) rfl ?_
  unfold fL_setPrice
  refine xg_aload_n dL_setPrice_0 (Eq.refl 1) rfl ?_
  refine xg_iconst dL_setPrice_1 (Eq.refl 2) ?_
  refine xg_aload_n dL_setPrice_2 (Eq.refl 3) rfl ?_
  refine xg_iload_n dL_setPrice_3 (Eq.refl 4) rfl ?_
  refine xg_iload_n dL_setPrice_4 (Eq.refl 5) rfl ?_
  refine xg_callVC_I (kc := 0) (ks := 0) (st := [iv 0, .ref x3]) (mX11_setPrice hl x0 h0 x1 h1 x2 h2 M hM) bX11_setPrice xcl11 h0 rfl xq_281 rfl (by decide) (Nat.le_of_ble_eq_true rfl) dL_setPrice_5 (Eq.refl 8) rfl (by decide) (by decide) ?_ ?_
  · intro z1 M2 hz1 hM2
    refine xg_i2l dL_setPrice_8 (Eq.refl 9) hz1 ?_
    refine xg_last h3 dL_setPrice_9 (Eq.refl 10) hM2 (R32.j hz1) ?_
    intro M3 hM3
    refine xg_goto (tgt := 21) dL_setPrice_10 (by decide) ?_
    refine xg_iconst dL_setPrice_21 (Eq.refl 22) ?_
    exact xg_iret rfl dL_setPrice_22 rfl hM3 (by decide)
  · intro e M4 he hM4
    have he3 : e = 0 ∨ e = 1 ∨ e = 2 := by omega
    rcases he3 with rfl | rfl | rfl
    · refine xgx_c0 ?_
      refine xgx_catch (pre := tableOf []) (suf := tableOf [(0, 10, 17, 15)]) (x := ⟨0, 10, 13, 13⟩) (j := 4) (ln := 2) rfl (fun z hz => by cases hz) (by decide) (by decide) (by decide) xq_132 (by decide) (Or.inl ⟨dL_setPrice_13, rfl⟩) ?_
      show Gv _ _ _ _ _ _ _ 15 _ _ _ _
      refine xg_iconst dL_setPrice_15 (Eq.refl 16) ?_
      exact xg_iret rfl dL_setPrice_16 rfl hM4 (by decide)
    · refine xgx_c1 ?_
      refine xgx_catch (pre := tableOf [(0, 10, 13, 13)]) (suf := tableOf []) (x := ⟨0, 10, 17, 15⟩) (j := 4) (ln := 2) rfl (xpass1 (by decide) 0 xq_132 (by decide)) (by decide) (by decide) (by decide) xq_133 (by decide) (Or.inl ⟨dL_setPrice_17, rfl⟩) ?_
      show Gv _ _ _ _ _ _ _ 19 _ _ _ _
      refine xg_iconst dL_setPrice_19 (Eq.refl 20) ?_
      exact xg_iret rfl dL_setPrice_20 rfl hM4 (by decide)
    · exact xgx_none
abbrev uL_block : xU := (RL, cL_block, 6, (some .int), tableOf [(0, 11, 14, 13), (0, 11, 18, 15), (0, 11, 22, 17)], "block")
theorem bL_block : xYW yL_block cL_block 6 (some .int) [(0, 11, 14, 13), (0, 11, 18, 15), (0, 11, 22, 17)] 5 := ⟨xq_298, xq_130, xq_299, ⟨by decide +kernel, by decide +kernel, by decide +kernel⟩, by decide⟩
theorem mL_block {l : Launch} {G : xG} (hl : l.stackTraces = false) (x0 : Nat) (h0 : xOb 11 x0) (x1 : Int) (h1 : R32 x1) (x2 : Int) (h2 : R32 x2) (x3 : Int) (h3 : R32 x3) (x4 : Nat) (h4 : xAn 1 (xln x4) x4) (M : xM) (hM : xcan M) : CmW l G yL_block cL_block 6 (some .int) [(0, 11, 14, 13), (0, 11, 18, 15), (0, 11, 22, 17)] 4 0 4 24 [.ref x0, iv x1, iv x2, iv x3, .ref x4] M (fL_block x0 x1 x2 x3 x4 M) := by
  refine xcmw_of (u := uL_block) (ls := [some (.ref x0), some (iv x1), some (iv x2), some (iv x3), some (.ref x4), none]) 1 hl rfl (by decide +kernel) (Nat.le_of_ble_eq_true rfl) rfl ?_
  unfold fL_block
  refine xg_aload dL_block_0 (Eq.refl 2) rfl ?_
  refine xg_iconst dL_block_2 (Eq.refl 3) ?_
  refine xg_aload_n dL_block_3 (Eq.refl 4) rfl ?_
  refine xg_iload_n dL_block_4 (Eq.refl 5) rfl ?_
  refine xg_iload_n dL_block_5 (Eq.refl 6) rfl ?_
  refine xg_iload_n dL_block_6 (Eq.refl 7) rfl ?_
  refine xg_callVC_J (kc := 0) (ks := 0) (st := [iv 0, .ref x4]) (mX11_block hl x0 h0 x1 h1 x2 h2 x3 h3 M hM) bX11_block xcl11 h0 rfl xq_300 rfl (by decide) (Nat.le_of_ble_eq_true rfl) dL_block_7 (Eq.refl 10) rfl (by decide) (by decide) ?_ ?_
  · intro z1 M2 hz1 hM2
    refine xg_last h4 dL_block_10 (Eq.refl 11) hM2 hz1 ?_
    intro M3 hM3
    refine xg_goto (tgt := 26) dL_block_11 (by decide) ?_
    refine xg_iconst dL_block_26 (Eq.refl 27) ?_
    exact xg_iret rfl dL_block_27 rfl hM3 (by decide)
  · intro e M4 he hM4
    have he3 : e = 0 ∨ e = 1 ∨ e = 2 := by omega
    rcases he3 with rfl | rfl | rfl
    · refine xgx_c0 ?_
      refine xgx_catch (pre := tableOf []) (suf := tableOf [(0, 11, 18, 15), (0, 11, 22, 17)]) (x := ⟨0, 11, 14, 13⟩) (j := 5) (ln := 2) rfl (fun z hz => by cases hz) (by decide) (by decide) (by decide) xq_132 (by decide) (Or.inl ⟨dL_block_14, rfl⟩) ?_
      show Gv _ _ _ _ _ _ _ 16 _ _ _ _
      refine xg_iconst dL_block_16 (Eq.refl 17) ?_
      exact xg_iret rfl dL_block_17 rfl hM4 (by decide)
    · refine xgx_c1 ?_
      refine xgx_catch (pre := tableOf [(0, 11, 14, 13)]) (suf := tableOf [(0, 11, 22, 17)]) (x := ⟨0, 11, 18, 15⟩) (j := 5) (ln := 2) rfl (xpass1 (by decide) 0 xq_132 (by decide)) (by decide) (by decide) (by decide) xq_133 (by decide) (Or.inl ⟨dL_block_18, rfl⟩) ?_
      show Gv _ _ _ _ _ _ _ 20 _ _ _ _
      refine xg_iconst dL_block_20 (Eq.refl 21) ?_
      exact xg_iret rfl dL_block_21 rfl hM4 (by decide)
    · refine xgx_c2 ?_
      refine xgx_catch (pre := tableOf [(0, 11, 14, 13), (0, 11, 18, 15)]) (suf := tableOf []) (x := ⟨0, 11, 22, 17⟩) (j := 5) (ln := 2) rfl (xpass2 (by decide) 0 xq_132 (by decide) (by decide) 1 xq_133 (by decide)) (by decide) (by decide) (by decide) xq_134 (by decide) (Or.inl ⟨dL_block_22, rfl⟩) ?_
      show Gv _ _ _ _ _ _ _ 24 _ _ _ _
      refine xg_iconst dL_block_24 (Eq.refl 25) ?_
      exact xg_iret rfl dL_block_25 rfl hM4 (by decide)
abbrev uL_bring : xU := (RL, cL_bring, 5, (some .int), tableOf [(0, 9, 12, 13), (0, 9, 16, 15), (0, 9, 20, 17)], "bring")
theorem bL_bring : xYW yL_bring cL_bring 5 (some .int) [(0, 9, 12, 13), (0, 9, 16, 15), (0, 9, 20, 17)] 4 := ⟨xq_322, xq_130, xq_323, ⟨by decide +kernel, by decide +kernel, by decide +kernel⟩, by decide⟩
theorem mL_bring {l : Launch} {G : xG} (hl : l.stackTraces = false) (x0 : Nat) (h0 : xOb 11 x0) (x1 : Int) (h1 : R32 x1) (x2 : Int) (h2 : R32 x2) (x3 : Nat) (h3 : xAn 1 (xln x3) x3) (M : xM) (hM : xcan M) : CmW l G yL_bring cL_bring 5 (some .int) [(0, 9, 12, 13), (0, 9, 16, 15), (0, 9, 20, 17)] 5 0 3 18 [.ref x0, iv x1, iv x2, .ref x3] M (fL_bring x0 x1 x2 x3 M) := by
  refine xcmw_of (u := uL_bring) (ls := [some (.ref x0), some (iv x1), some (iv x2), some (.ref x3), none]) 1 hl rfl (by decide +kernel) (Nat.le_of_ble_eq_true rfl) rfl ?_
  unfold fL_bring
  refine xg_aload_n dL_bring_0 (Eq.refl 1) rfl ?_
  refine xg_iconst dL_bring_1 (Eq.refl 2) ?_
  refine xg_aload_n dL_bring_2 (Eq.refl 3) rfl ?_
  refine xg_iload_n dL_bring_3 (Eq.refl 4) rfl ?_
  refine xg_iload_n dL_bring_4 (Eq.refl 5) rfl ?_
  refine xg_callVC_J (kc := 0) (ks := 0) (st := [iv 0, .ref x3]) (mX11_bring hl x0 h0 x1 h1 x2 h2 M hM) bX11_bring xcl11 h0 rfl xq_324 rfl (by decide) (Nat.le_of_ble_eq_true rfl) dL_bring_5 (Eq.refl 8) rfl (by decide) (by decide) ?_ ?_
  · intro z1 M2 hz1 hM2
    refine xg_last h3 dL_bring_8 (Eq.refl 9) hM2 hz1 ?_
    intro M3 hM3
    refine xg_goto (tgt := 24) dL_bring_9 (by decide) ?_
    refine xg_iconst dL_bring_24 (Eq.refl 25) ?_
    exact xg_iret rfl dL_bring_25 rfl hM3 (by decide)
  · intro e M4 he hM4
    have he3 : e = 0 ∨ e = 1 ∨ e = 2 := by omega
    rcases he3 with rfl | rfl | rfl
    · refine xgx_c0 ?_
      refine xgx_catch (pre := tableOf []) (suf := tableOf [(0, 9, 16, 15), (0, 9, 20, 17)]) (x := ⟨0, 9, 12, 13⟩) (j := 4) (ln := 2) rfl (fun z hz => by cases hz) (by decide) (by decide) (by decide) xq_132 (by decide) (Or.inl ⟨dL_bring_12, rfl⟩) ?_
      show Gv _ _ _ _ _ _ _ 14 _ _ _ _
      refine xg_iconst dL_bring_14 (Eq.refl 15) ?_
      exact xg_iret rfl dL_bring_15 rfl hM4 (by decide)
    · refine xgx_c1 ?_
      refine xgx_catch (pre := tableOf [(0, 9, 12, 13)]) (suf := tableOf [(0, 9, 20, 17)]) (x := ⟨0, 9, 16, 15⟩) (j := 4) (ln := 2) rfl (xpass1 (by decide) 0 xq_132 (by decide)) (by decide) (by decide) (by decide) xq_133 (by decide) (Or.inl ⟨dL_bring_16, rfl⟩) ?_
      show Gv _ _ _ _ _ _ _ 18 _ _ _ _
      refine xg_iconst dL_bring_18 (Eq.refl 19) ?_
      exact xg_iret rfl dL_bring_19 rfl hM4 (by decide)
    · refine xgx_c2 ?_
      refine xgx_catch (pre := tableOf [(0, 9, 12, 13), (0, 9, 16, 15)]) (suf := tableOf []) (x := ⟨0, 9, 20, 17⟩) (j := 4) (ln := 2) rfl (xpass2 (by decide) 0 xq_132 (by decide) (by decide) 1 xq_133 (by decide)) (by decide) (by decide) (by decide) xq_134 (by decide) (Or.inl ⟨dL_bring_20, rfl⟩) ?_
      show Gv _ _ _ _ _ _ _ 22 _ _ _ _
      refine xg_iconst dL_bring_22 (Eq.refl 23) ?_
      exact xg_iret rfl dL_bring_23 rfl hM4 (by decide)
abbrev uL_instruct : xU := (RL, cL_instruct, 12, (some .int), tableOf [(0, 24, 27, 13), (0, 24, 31, 15), (0, 24, 35, 17)], "instruct")
theorem bL_instruct : xYW yL_instruct cL_instruct 12 (some .int) [(0, 24, 27, 13), (0, 24, 31, 15), (0, 24, 35, 17)] 11 := ⟨xq_379, xq_130, xq_380, ⟨by decide +kernel, by decide +kernel, by decide +kernel⟩, by decide⟩
theorem mL_instruct {l : Launch} {G : xG} (hl : l.stackTraces = false) (x0 : Nat) (h0 : xOb 11 x0) (x1 : Int) (h1 : R32 x1) (x2 : Int) (h2 : R32 x2) (x3 : Int) (h3 : B01 x3) (x4 : Int) (h4 : R32 x4) (x5 : Int) (h5 : R32 x5) (x6 : Int) (h6 : R32 x6) (x7 : Int) (h7 : R32 x7) (x8 : Int) (h8 : R32 x8) (x9 : Int) (h9 : R32 x9) (x10 : Nat) (h10 : xAn 1 (xln x10) x10) (M : xM) (hM : xcan M) : CmW l G yL_instruct cL_instruct 12 (some .int) [(0, 24, 27, 13), (0, 24, 31, 15), (0, 24, 35, 17)] 5 0 11 66 [.ref x0, iv x1, iv x2, iv x3, iv x4, iv x5, iv x6, iv x7, iv x8, iv x9, .ref x10] M (fL_instruct x0 x1 x2 x3 x4 x5 x6 x7 x8 x9 x10 M) := by
  refine xcmw_of (u := uL_instruct) (ls := [some (.ref x0), some (iv x1), some (iv x2), some (iv x3), some (iv x4), some (iv x5), some (iv x6), some (iv x7), some (iv x8), some (iv x9), some (.ref x10), none]) 1 hl rfl (by decide +kernel) (Nat.le_of_ble_eq_true rfl) rfl ?_
  unfold fL_instruct
  refine xg_aload dL_instruct_0 (Eq.refl 2) rfl ?_
  refine xg_iconst dL_instruct_2 (Eq.refl 3) ?_
  refine xg_aload_n dL_instruct_3 (Eq.refl 4) rfl ?_
  refine xg_iload_n dL_instruct_4 (Eq.refl 5) rfl ?_
  refine xg_iload_n dL_instruct_5 (Eq.refl 6) rfl ?_
  refine xg_iload_n dL_instruct_6 (Eq.refl 7) rfl ?_
  refine xg_iload dL_instruct_7 (Eq.refl 9) rfl ?_
  refine xg_iload dL_instruct_9 (Eq.refl 11) rfl ?_
  refine xg_iload dL_instruct_11 (Eq.refl 13) rfl ?_
  refine xg_iload dL_instruct_13 (Eq.refl 15) rfl ?_
  refine xg_iload dL_instruct_15 (Eq.refl 17) rfl ?_
  refine xg_iload dL_instruct_17 (Eq.refl 19) rfl ?_
  refine xg_callVC_I (kc := 0) (ks := 0) (st := [iv 0, .ref x10]) (mX11_instruct hl x0 h0 x1 h1 x2 h2 x3 h3 x4 h4 x5 h5 x6 h6 x7 h7 x8 h8 x9 h9 M hM) bX11_instruct xcl11 h0 rfl xq_381 rfl (by decide) (Nat.le_of_ble_eq_true rfl) dL_instruct_19 (Eq.refl 22) rfl (by decide) (by decide) ?_ ?_
  · intro z1 M2 hz1 hM2
    refine xg_i2l dL_instruct_22 (Eq.refl 23) hz1 ?_
    refine xg_last h10 dL_instruct_23 (Eq.refl 24) hM2 (R32.j hz1) ?_
    intro M3 hM3
    refine xg_goto (tgt := 39) dL_instruct_24 (by decide) ?_
    refine xg_iconst dL_instruct_39 (Eq.refl 40) ?_
    exact xg_iret rfl dL_instruct_40 rfl hM3 (by decide)
  · intro e M4 he hM4
    have he3 : e = 0 ∨ e = 1 ∨ e = 2 := by omega
    rcases he3 with rfl | rfl | rfl
    · refine xgx_c0 ?_
      refine xgx_catch (pre := tableOf []) (suf := tableOf [(0, 24, 31, 15), (0, 24, 35, 17)]) (x := ⟨0, 24, 27, 13⟩) (j := 11) (ln := 2) rfl (fun z hz => by cases hz) (by decide) (by decide) (by decide) xq_132 (by decide) (Or.inl ⟨dL_instruct_27, rfl⟩) ?_
      show Gv _ _ _ _ _ _ _ 29 _ _ _ _
      refine xg_iconst dL_instruct_29 (Eq.refl 30) ?_
      exact xg_iret rfl dL_instruct_30 rfl hM4 (by decide)
    · refine xgx_c1 ?_
      refine xgx_catch (pre := tableOf [(0, 24, 27, 13)]) (suf := tableOf [(0, 24, 35, 17)]) (x := ⟨0, 24, 31, 15⟩) (j := 11) (ln := 2) rfl (xpass1 (by decide) 0 xq_132 (by decide)) (by decide) (by decide) (by decide) xq_133 (by decide) (Or.inl ⟨dL_instruct_31, rfl⟩) ?_
      show Gv _ _ _ _ _ _ _ 33 _ _ _ _
      refine xg_iconst dL_instruct_33 (Eq.refl 34) ?_
      exact xg_iret rfl dL_instruct_34 rfl hM4 (by decide)
    · refine xgx_c2 ?_
      refine xgx_catch (pre := tableOf [(0, 24, 27, 13), (0, 24, 31, 15)]) (suf := tableOf []) (x := ⟨0, 24, 35, 17⟩) (j := 11) (ln := 2) rfl (xpass2 (by decide) 0 xq_132 (by decide) (by decide) 1 xq_133 (by decide)) (by decide) (by decide) (by decide) xq_134 (by decide) (Or.inl ⟨dL_instruct_35, rfl⟩) ?_
      show Gv _ _ _ _ _ _ _ 37 _ _ _ _
      refine xg_iconst dL_instruct_37 (Eq.refl 38) ?_
      exact xg_iret rfl dL_instruct_38 rfl hM4 (by decide)
abbrev uL_amend : xU := (RL, cL_amend, 5, (some .int), tableOf [(0, 10, 13, 13), (0, 10, 17, 15), (0, 10, 21, 17)], "amend")
theorem bL_amend : xYW yL_amend cL_amend 5 (some .int) [(0, 10, 13, 13), (0, 10, 17, 15), (0, 10, 21, 17)] 4 := ⟨xq_502, xq_130, xq_503, ⟨by decide +kernel, by decide +kernel, by decide +kernel⟩, by decide⟩
theorem mL_amend {l : Launch} {G : xG} (hl : l.stackTraces = false) (x0 : Nat) (h0 : xOb 11 x0) (x1 : Int) (h1 : R32 x1) (x2 : Int) (h2 : R32 x2) (x3 : Nat) (h3 : xAn 1 (xln x3) x3) (M : xM) (hM : xcan M) : CmW l G yL_amend cL_amend 5 (some .int) [(0, 10, 13, 13), (0, 10, 17, 15), (0, 10, 21, 17)] 5 0 4 24 [.ref x0, iv x1, iv x2, .ref x3] M (fL_amend x0 x1 x2 x3 M) := by
  refine xcmw_of (u := uL_amend) (ls := [some (.ref x0), some (iv x1), some (iv x2), some (.ref x3), none]) 1 hl rfl (by decide +kernel) (Nat.le_of_ble_eq_true rfl) rfl ?_
  unfold fL_amend
  refine xg_aload_n dL_amend_0 (Eq.refl 1) rfl ?_
  refine xg_iconst dL_amend_1 (Eq.refl 2) ?_
  refine xg_aload_n dL_amend_2 (Eq.refl 3) rfl ?_
  refine xg_iload_n dL_amend_3 (Eq.refl 4) rfl ?_
  refine xg_iload_n dL_amend_4 (Eq.refl 5) rfl ?_
  refine xg_callVC_I (kc := 0) (ks := 0) (st := [iv 0, .ref x3]) (mX11_amend hl x0 h0 x1 h1 x2 h2 M hM) bX11_amend xcl11 h0 rfl xq_504 rfl (by decide) (Nat.le_of_ble_eq_true rfl) dL_amend_5 (Eq.refl 8) rfl (by decide) (by decide) ?_ ?_
  · intro z1 M2 hz1 hM2
    refine xg_i2l dL_amend_8 (Eq.refl 9) hz1 ?_
    refine xg_last h3 dL_amend_9 (Eq.refl 10) hM2 (R32.j hz1) ?_
    intro M3 hM3
    refine xg_goto (tgt := 25) dL_amend_10 (by decide) ?_
    refine xg_iconst dL_amend_25 (Eq.refl 26) ?_
    exact xg_iret rfl dL_amend_26 rfl hM3 (by decide)
  · intro e M4 he hM4
    have he3 : e = 0 ∨ e = 1 ∨ e = 2 := by omega
    rcases he3 with rfl | rfl | rfl
    · refine xgx_c0 ?_
      refine xgx_catch (pre := tableOf []) (suf := tableOf [(0, 10, 17, 15), (0, 10, 21, 17)]) (x := ⟨0, 10, 13, 13⟩) (j := 4) (ln := 2) rfl (fun z hz => by cases hz) (by decide) (by decide) (by decide) xq_132 (by decide) (Or.inl ⟨dL_amend_13, rfl⟩) ?_
      show Gv _ _ _ _ _ _ _ 15 _ _ _ _
      refine xg_iconst dL_amend_15 (Eq.refl 16) ?_
      exact xg_iret rfl dL_amend_16 rfl hM4 (by decide)
    · refine xgx_c1 ?_
      refine xgx_catch (pre := tableOf [(0, 10, 13, 13)]) (suf := tableOf [(0, 10, 21, 17)]) (x := ⟨0, 10, 17, 15⟩) (j := 4) (ln := 2) rfl (xpass1 (by decide) 0 xq_132 (by decide)) (by decide) (by decide) (by decide) xq_133 (by decide) (Or.inl ⟨dL_amend_17, rfl⟩) ?_
      show Gv _ _ _ _ _ _ _ 19 _ _ _ _
      refine xg_iconst dL_amend_19 (Eq.refl 20) ?_
      exact xg_iret rfl dL_amend_20 rfl hM4 (by decide)
    · refine xgx_c2 ?_
      refine xgx_catch (pre := tableOf [(0, 10, 13, 13), (0, 10, 17, 15)]) (suf := tableOf []) (x := ⟨0, 10, 21, 17⟩) (j := 4) (ln := 2) rfl (xpass2 (by decide) 0 xq_132 (by decide) (by decide) 1 xq_133 (by decide)) (by decide) (by decide) (by decide) xq_134 (by decide) (Or.inl ⟨dL_amend_21, rfl⟩) ?_
      show Gv _ _ _ _ _ _ _ 23 _ _ _ _
      refine xg_iconst dL_amend_23 (Eq.refl 24) ?_
      exact xg_iret rfl dL_amend_24 rfl hM4 (by decide)
abbrev uL_cancel : xU := (RL, cL_cancel, 4, (some .int), tableOf [(0, 16, 19, 13), (0, 16, 22, 17)], "cancel")
theorem bL_cancel : xYW yL_cancel cL_cancel 4 (some .int) [(0, 16, 19, 13), (0, 16, 22, 17)] 3 := ⟨xq_522, xq_130, xq_523, ⟨by decide +kernel, by decide +kernel, by decide +kernel⟩, by decide⟩
theorem gL_cancel_15 {l : Launch} {G : xG} (hl : l.stackTraces = false) (s0 : Int) (hs0 : R64 s0) (s1 : Int) (hs1 : B01 s1) (s2 : Nat) (hs2 : xAn 1 (xln s2) s2) (M : xM) (hM : xcan M) : Gv l G uL_cancel 5 0 0 0 15 [none, none, none, none] [jv s0, iv s1, .ref s2] M (fL_cancel_15 s0 s1 s2 M) := by
  unfold fL_cancel_15
  refine xg_last hs2 dL_cancel_15 (Eq.refl 16) hM hs0 ?_
  intro M1 hM1
  refine xg_goto (tgt := 25) dL_cancel_16 (by decide) ?_
  refine xg_iconst dL_cancel_25 (Eq.refl 26) ?_
  exact xg_iret rfl dL_cancel_26 rfl hM1 (by decide)
theorem mL_cancel {l : Launch} {G : xG} (hl : l.stackTraces = false) (x0 : Nat) (h0 : xOb 11 x0) (x1 : Int) (h1 : R32 x1) (x2 : Nat) (h2 : xAn 1 (xln x2) x2) (M : xM) (hM : xcan M) : CmW l G yL_cancel cL_cancel 4 (some .int) [(0, 16, 19, 13), (0, 16, 22, 17)] 5 0 2 12 [.ref x0, iv x1, .ref x2] M (fL_cancel x0 x1 x2 M) := by
  refine xcmw_of (u := uL_cancel) (ls := [some (.ref x0), some (iv x1), some (.ref x2), none]) 1 hl rfl (by decide +kernel) (Nat.le_of_ble_eq_true rfl) rfl ?_
  unfold fL_cancel
  refine xg_aload_n dL_cancel_0 (Eq.refl 1) rfl ?_
  refine xg_iconst dL_cancel_1 (Eq.refl 2) ?_
  refine xg_aload_n dL_cancel_2 (Eq.refl 3) rfl ?_
  refine xg_iload_n dL_cancel_3 (Eq.refl 4) rfl ?_
  refine xg_callVC_Z (kc := 0) (ks := 0) (st := [iv 0, .ref x2]) (mX11_cancel hl x0 h0 x1 h1 M hM) bX11_cancel xcl11 h0 rfl xq_524 rfl (by decide) (Nat.le_of_ble_eq_true rfl) dL_cancel_4 (Eq.refl 7) rfl (by decide) (by decide) ?_ ?_
  · intro z1 M2 hz1 hM2
    refine xg_if_eq (tgt := 14) dL_cancel_7 (Eq.refl 10) (by decide) (B01.r hz1) ?_ ?_
    · refine xg_lconst (z := 0) dL_cancel_14 (Eq.refl 15) rfl ?_
      exact xg_jump (gL_cancel_15 hl 0 (by decide) 0 (by decide) x2 h2 M2 hM2) (xsb_n (xsb_n (xsb_n (xsb_n xsb_0)))) (by decide) (by decide)
    · refine xg_lconst (z := 1) dL_cancel_10 (Eq.refl 11) rfl ?_
      refine xg_goto (tgt := 15) dL_cancel_11 (by decide) ?_
      exact xg_jump (gL_cancel_15 hl 1 (by decide) 0 (by decide) x2 h2 M2 hM2) (xsb_n (xsb_n (xsb_n (xsb_n xsb_0)))) (by decide) (by decide)
  · intro e M3 he hM3
    have he3 : e = 0 ∨ e = 1 ∨ e = 2 := by omega
    rcases he3 with rfl | rfl | rfl
    · refine xgx_c0 ?_
      refine xgx_catch (pre := tableOf []) (suf := tableOf [(0, 16, 22, 17)]) (x := ⟨0, 16, 19, 13⟩) (j := 3) (ln := 1) rfl (fun z hz => by cases hz) (by decide) (by decide) (by decide) xq_132 (by decide) (Or.inr ⟨3, rfl, dL_cancel_19, rfl⟩) ?_
      show Gv _ _ _ _ _ _ _ 20 _ _ _ _
      refine xg_iconst dL_cancel_20 (Eq.refl 21) ?_
      exact xg_iret rfl dL_cancel_21 rfl hM3 (by decide)
    · exact xgx_none
    · refine xgx_c2 ?_
      refine xgx_catch (pre := tableOf [(0, 16, 19, 13)]) (suf := tableOf []) (x := ⟨0, 16, 22, 17⟩) (j := 3) (ln := 1) rfl (xpass1 (by decide) 0 xq_132 (by decide)) (by decide) (by decide) (by decide) xq_134 (by decide) (Or.inr ⟨3, rfl, dL_cancel_22, rfl⟩) ?_
      show Gv _ _ _ _ _ _ _ 23 _ _ _ _
      refine xg_iconst dL_cancel_23 (Eq.refl 24) ?_
      exact xg_iret rfl dL_cancel_24 rfl hM3 (by decide)
abbrev uL_hold : xU := (RL, cL_hold, 4, (some .int), tableOf [(0, 16, 19, 13), (0, 16, 22, 17)], "hold")
theorem bL_hold : xYW yL_hold cL_hold 4 (some .int) [(0, 16, 19, 13), (0, 16, 22, 17)] 3 := ⟨xq_571, xq_130, xq_572, ⟨by decide +kernel, by decide +kernel, by decide +kernel⟩, by decide⟩
theorem gL_hold_15 {l : Launch} {G : xG} (hl : l.stackTraces = false) (s0 : Int) (hs0 : R64 s0) (s1 : Int) (hs1 : B01 s1) (s2 : Nat) (hs2 : xAn 1 (xln s2) s2) (M : xM) (hM : xcan M) : Gv l G uL_hold 4 0 0 0 15 [none, none, none, none] [jv s0, iv s1, .ref s2] M (fL_hold_15 s0 s1 s2 M) := by
  unfold fL_hold_15
  refine xg_last hs2 dL_hold_15 (Eq.refl 16) hM hs0 ?_
  intro M1 hM1
  refine xg_goto (tgt := 25) dL_hold_16 (by decide) ?_
  refine xg_iconst dL_hold_25 (Eq.refl 26) ?_
  exact xg_iret rfl dL_hold_26 rfl hM1 (by decide)
theorem mL_hold {l : Launch} {G : xG} (hl : l.stackTraces = false) (x0 : Nat) (h0 : xOb 11 x0) (x1 : Int) (h1 : R32 x1) (x2 : Nat) (h2 : xAn 1 (xln x2) x2) (M : xM) (hM : xcan M) : CmW l G yL_hold cL_hold 4 (some .int) [(0, 16, 19, 13), (0, 16, 22, 17)] 4 0 2 12 [.ref x0, iv x1, .ref x2] M (fL_hold x0 x1 x2 M) := by
  refine xcmw_of (u := uL_hold) (ls := [some (.ref x0), some (iv x1), some (.ref x2), none]) 1 hl rfl (by decide +kernel) (Nat.le_of_ble_eq_true rfl) rfl ?_
  unfold fL_hold
  refine xg_aload_n dL_hold_0 (Eq.refl 1) rfl ?_
  refine xg_iconst dL_hold_1 (Eq.refl 2) ?_
  refine xg_aload_n dL_hold_2 (Eq.refl 3) rfl ?_
  refine xg_iload_n dL_hold_3 (Eq.refl 4) rfl ?_
  refine xg_callVC_Z (kc := 0) (ks := 0) (st := [iv 0, .ref x2]) (mX11_hold hl x0 h0 x1 h1 M hM) bX11_hold xcl11 h0 rfl xq_573 rfl (by decide) (Nat.le_of_ble_eq_true rfl) dL_hold_4 (Eq.refl 7) rfl (by decide) (by decide) ?_ ?_
  · intro z1 M2 hz1 hM2
    refine xg_if_eq (tgt := 14) dL_hold_7 (Eq.refl 10) (by decide) (B01.r hz1) ?_ ?_
    · refine xg_lconst (z := 0) dL_hold_14 (Eq.refl 15) rfl ?_
      exact xg_jump (gL_hold_15 hl 0 (by decide) 0 (by decide) x2 h2 M2 hM2) (xsb_n (xsb_n (xsb_n (xsb_n xsb_0)))) (by decide) (by decide)
    · refine xg_lconst (z := 1) dL_hold_10 (Eq.refl 11) rfl ?_
      refine xg_goto (tgt := 15) dL_hold_11 (by decide) ?_
      exact xg_jump (gL_hold_15 hl 1 (by decide) 0 (by decide) x2 h2 M2 hM2) (xsb_n (xsb_n (xsb_n (xsb_n xsb_0)))) (by decide) (by decide)
  · intro e M3 he hM3
    have he3 : e = 0 ∨ e = 1 ∨ e = 2 := by omega
    rcases he3 with rfl | rfl | rfl
    · refine xgx_c0 ?_
      refine xgx_catch (pre := tableOf []) (suf := tableOf [(0, 16, 22, 17)]) (x := ⟨0, 16, 19, 13⟩) (j := 3) (ln := 1) rfl (fun z hz => by cases hz) (by decide) (by decide) (by decide) xq_132 (by decide) (Or.inr ⟨3, rfl, dL_hold_19, rfl⟩) ?_
      show Gv _ _ _ _ _ _ _ 20 _ _ _ _
      refine xg_iconst dL_hold_20 (Eq.refl 21) ?_
      exact xg_iret rfl dL_hold_21 rfl hM3 (by decide)
    · exact xgx_none
    · refine xgx_c2 ?_
      refine xgx_catch (pre := tableOf [(0, 16, 19, 13)]) (suf := tableOf []) (x := ⟨0, 16, 22, 17⟩) (j := 3) (ln := 1) rfl (xpass1 (by decide) 0 xq_132 (by decide)) (by decide) (by decide) (by decide) xq_134 (by decide) (Or.inr ⟨3, rfl, dL_hold_22, rfl⟩) ?_
      show Gv _ _ _ _ _ _ _ 23 _ _ _ _
      refine xg_iconst dL_hold_23 (Eq.refl 24) ?_
      exact xg_iret rfl dL_hold_24 rfl hM3 (by decide)
abbrev uL_link : xU := (RL, cL_link, 6, (some .int), tableOf [(0, 12, 15, 13), (0, 12, 19, 15), (0, 12, 23, 17)], "link")
theorem bL_link : xYW yL_link cL_link 6 (some .int) [(0, 12, 15, 13), (0, 12, 19, 15), (0, 12, 23, 17)] 5 := ⟨xq_583, xq_130, xq_584, ⟨by decide +kernel, by decide +kernel, by decide +kernel⟩, by decide⟩
theorem mL_link {l : Launch} {G : xG} (hl : l.stackTraces = false) (x0 : Nat) (h0 : xOb 11 x0) (x1 : Int) (h1 : R32 x1) (x2 : Int) (h2 : R32 x2) (x3 : Int) (h3 : B01 x3) (x4 : Nat) (h4 : xAn 1 (xln x4) x4) (M : xM) (hM : xcan M) : CmW l G yL_link cL_link 6 (some .int) [(0, 12, 15, 13), (0, 12, 19, 15), (0, 12, 23, 17)] 4 0 5 30 [.ref x0, iv x1, iv x2, iv x3, .ref x4] M (fL_link x0 x1 x2 x3 x4 M) := by
  refine xcmw_of (u := uL_link) (ls := [some (.ref x0), some (iv x1), some (iv x2), some (iv x3), some (.ref x4), none]) 1 hl rfl (by decide +kernel) (Nat.le_of_ble_eq_true rfl) rfl ?_
  unfold fL_link
  refine xg_aload dL_link_0 (Eq.refl 2) rfl ?_
  refine xg_iconst dL_link_2 (Eq.refl 3) ?_
  refine xg_aload_n dL_link_3 (Eq.refl 4) rfl ?_
  refine xg_iload_n dL_link_4 (Eq.refl 5) rfl ?_
  refine xg_iload_n dL_link_5 (Eq.refl 6) rfl ?_
  refine xg_iload_n dL_link_6 (Eq.refl 7) rfl ?_
  refine xg_callVC_I (kc := 0) (ks := 0) (st := [iv 0, .ref x4]) (mX11_link hl x0 h0 x1 h1 x2 h2 x3 h3 M hM) bX11_link xcl11 h0 rfl xq_585 rfl (by decide) (Nat.le_of_ble_eq_true rfl) dL_link_7 (Eq.refl 10) rfl (by decide) (by decide) ?_ ?_
  · intro z1 M2 hz1 hM2
    refine xg_i2l dL_link_10 (Eq.refl 11) hz1 ?_
    refine xg_last h4 dL_link_11 (Eq.refl 12) hM2 (R32.j hz1) ?_
    intro M3 hM3
    refine xg_goto (tgt := 27) dL_link_12 (by decide) ?_
    refine xg_iconst dL_link_27 (Eq.refl 28) ?_
    exact xg_iret rfl dL_link_28 rfl hM3 (by decide)
  · intro e M4 he hM4
    have he3 : e = 0 ∨ e = 1 ∨ e = 2 := by omega
    rcases he3 with rfl | rfl | rfl
    · refine xgx_c0 ?_
      refine xgx_catch (pre := tableOf []) (suf := tableOf [(0, 12, 19, 15), (0, 12, 23, 17)]) (x := ⟨0, 12, 15, 13⟩) (j := 5) (ln := 2) rfl (fun z hz => by cases hz) (by decide) (by decide) (by decide) xq_132 (by decide) (Or.inl ⟨dL_link_15, rfl⟩) ?_
      show Gv _ _ _ _ _ _ _ 17 _ _ _ _
      refine xg_iconst dL_link_17 (Eq.refl 18) ?_
      exact xg_iret rfl dL_link_18 rfl hM4 (by decide)
    · refine xgx_c1 ?_
      refine xgx_catch (pre := tableOf [(0, 12, 15, 13)]) (suf := tableOf [(0, 12, 23, 17)]) (x := ⟨0, 12, 19, 15⟩) (j := 5) (ln := 2) rfl (xpass1 (by decide) 0 xq_132 (by decide)) (by decide) (by decide) (by decide) xq_133 (by decide) (Or.inl ⟨dL_link_19, rfl⟩) ?_
      show Gv _ _ _ _ _ _ _ 21 _ _ _ _
      refine xg_iconst dL_link_21 (Eq.refl 22) ?_
      exact xg_iret rfl dL_link_22 rfl hM4 (by decide)
    · refine xgx_c2 ?_
      refine xgx_catch (pre := tableOf [(0, 12, 15, 13), (0, 12, 19, 15)]) (suf := tableOf []) (x := ⟨0, 12, 23, 17⟩) (j := 5) (ln := 2) rfl (xpass2 (by decide) 0 xq_132 (by decide) (by decide) 1 xq_133 (by decide)) (by decide) (by decide) (by decide) xq_134 (by decide) (Or.inl ⟨dL_link_23, rfl⟩) ?_
      show Gv _ _ _ _ _ _ _ 25 _ _ _ _
      refine xg_iconst dL_link_25 (Eq.refl 26) ?_
      exact xg_iret rfl dL_link_26 rfl hM4 (by decide)
abbrev uL_endDay : xU := (RL, cL_endDay, 3, (some .int), tableOf [(0, 8, 11, 17)], "endDay")
theorem bL_endDay : xYW yL_endDay cL_endDay 3 (some .int) [(0, 8, 11, 17)] 2 := ⟨xq_916, xq_130, xq_917, ⟨by decide +kernel, by decide +kernel, by decide +kernel⟩, by decide⟩
theorem mL_endDay {l : Launch} {G : xG} (hl : l.stackTraces = false) (x0 : Nat) (h0 : xOb 11 x0) (x1 : Nat) (h1 : xAn 1 (xln x1) x1) (M : xM) (hM : xcan M) : CmW l G yL_endDay cL_endDay 3 (some .int) [(0, 8, 11, 17)] 9 0 1 6 [.ref x0, .ref x1] M (fL_endDay x0 x1 M) := by
  refine xcmw_of (u := uL_endDay) (ls := [some (.ref x0), some (.ref x1), none]) 1 hl rfl (by decide +kernel) (Nat.le_of_ble_eq_true rfl) rfl ?_
  unfold fL_endDay
  refine xg_aload_n dL_endDay_0 (Eq.refl 1) rfl ?_
  refine xg_iconst dL_endDay_1 (Eq.refl 2) ?_
  refine xg_aload_n dL_endDay_2 (Eq.refl 3) rfl ?_
  refine xg_callVC_I (kc := 0) (ks := 0) (st := [iv 0, .ref x1]) (mX11_endDay hl x0 h0 M hM) bX11_endDay xcl11 h0 rfl xq_918 rfl (by decide) (Nat.le_of_ble_eq_true rfl) dL_endDay_3 (Eq.refl 6) rfl (by decide) (by decide) ?_ ?_
  · intro z1 M2 hz1 hM2
    refine xg_i2l dL_endDay_6 (Eq.refl 7) hz1 ?_
    refine xg_last h1 dL_endDay_7 (Eq.refl 8) hM2 (R32.j hz1) ?_
    intro M3 hM3
    refine xg_goto (tgt := 14) dL_endDay_8 (by decide) ?_
    refine xg_iconst dL_endDay_14 (Eq.refl 15) ?_
    exact xg_iret rfl dL_endDay_15 rfl hM3 (by decide)
  · intro e M4 he hM4
    have he3 : e = 0 ∨ e = 1 ∨ e = 2 := by omega
    rcases he3 with rfl | rfl | rfl
    · exact xgx_none
    · exact xgx_none
    · refine xgx_c2 ?_
      refine xgx_catch (pre := tableOf []) (suf := tableOf []) (x := ⟨0, 8, 11, 17⟩) (j := 2) (ln := 1) rfl (fun z hz => by cases hz) (by decide) (by decide) (by decide) xq_134 (by decide) (Or.inr ⟨2, rfl, dL_endDay_11, rfl⟩) ?_
      show Gv _ _ _ _ _ _ _ 12 _ _ _ _
      refine xg_iconst dL_endDay_12 (Eq.refl 13) ?_
      exact xg_iret rfl dL_endDay_13 rfl hM4 (by decide)
abbrev uL_recall : xU := (RL, cL_recall, 4, (some .int), tableOf [(0, 8, 11, 13), (0, 8, 14, 17)], "recall")
theorem bL_recall : xYW yL_recall cL_recall 4 (some .int) [(0, 8, 11, 13), (0, 8, 14, 17)] 3 := ⟨xq_1171, xq_130, xq_1172, ⟨by decide +kernel, by decide +kernel, by decide +kernel⟩, by decide⟩
theorem mL_recall {l : Launch} {G : xG} (hl : l.stackTraces = false) (x0 : Nat) (h0 : xOb 11 x0) (x1 : Int) (h1 : R32 x1) (x2 : Nat) (h2 : xAn 1 (xln x2) x2) (M : xM) (hM : xcan M) : CmW l G yL_recall cL_recall 4 (some .int) [(0, 8, 11, 13), (0, 8, 14, 17)] 4 0 2 12 [.ref x0, iv x1, .ref x2] M (fL_recall x0 x1 x2 M) := by
  refine xcmw_of (u := uL_recall) (ls := [some (.ref x0), some (iv x1), some (.ref x2), none]) 1 hl rfl (by decide +kernel) (Nat.le_of_ble_eq_true rfl) rfl ?_
  unfold fL_recall
  refine xg_aload_n dL_recall_0 (Eq.refl 1) rfl ?_
  refine xg_iconst dL_recall_1 (Eq.refl 2) ?_
  refine xg_aload_n dL_recall_2 (Eq.refl 3) rfl ?_
  refine xg_iload_n dL_recall_3 (Eq.refl 4) rfl ?_
  refine xg_callVC_J (kc := 0) (ks := 0) (st := [iv 0, .ref x2]) (mX11_recall hl x0 h0 x1 h1 M hM) bX11_recall xcl11 h0 rfl xq_1173 rfl (by decide) (Nat.le_of_ble_eq_true rfl) dL_recall_4 (Eq.refl 7) rfl (by decide) (by decide) ?_ ?_
  · intro z1 M2 hz1 hM2
    refine xg_last h2 dL_recall_7 (Eq.refl 8) hM2 hz1 ?_
    intro M3 hM3
    refine xg_goto (tgt := 17) dL_recall_8 (by decide) ?_
    refine xg_iconst dL_recall_17 (Eq.refl 18) ?_
    exact xg_iret rfl dL_recall_18 rfl hM3 (by decide)
  · intro e M4 he hM4
    have he3 : e = 0 ∨ e = 1 ∨ e = 2 := by omega
    rcases he3 with rfl | rfl | rfl
    · refine xgx_c0 ?_
      refine xgx_catch (pre := tableOf []) (suf := tableOf [(0, 8, 14, 17)]) (x := ⟨0, 8, 11, 13⟩) (j := 3) (ln := 1) rfl (fun z hz => by cases hz) (by decide) (by decide) (by decide) xq_132 (by decide) (Or.inr ⟨3, rfl, dL_recall_11, rfl⟩) ?_
      show Gv _ _ _ _ _ _ _ 12 _ _ _ _
      refine xg_iconst dL_recall_12 (Eq.refl 13) ?_
      exact xg_iret rfl dL_recall_13 rfl hM4 (by decide)
    · exact xgx_none
    · refine xgx_c2 ?_
      refine xgx_catch (pre := tableOf [(0, 8, 11, 13)]) (suf := tableOf []) (x := ⟨0, 8, 14, 17⟩) (j := 3) (ln := 1) rfl (xpass1 (by decide) 0 xq_132 (by decide)) (by decide) (by decide) (by decide) xq_134 (by decide) (Or.inr ⟨3, rfl, dL_recall_14, rfl⟩) ?_
      show Gv _ _ _ _ _ _ _ 15 _ _ _ _
      refine xg_iconst dL_recall_15 (Eq.refl 16) ?_
      exact xg_iret rfl dL_recall_16 rfl hM4 (by decide)
abbrev uL_goBack : xU := (RL, cL_goBack, 3, (some .int), tableOf [(0, 8, 11, 17)], "goBack")
theorem bL_goBack : xYW yL_goBack cL_goBack 3 (some .int) [(0, 8, 11, 17)] 2 := ⟨xq_1288, xq_130, xq_1289, ⟨by decide +kernel, by decide +kernel, by decide +kernel⟩, by decide⟩
theorem mL_goBack {l : Launch} {G : xG} (hl : l.stackTraces = false) (x0 : Nat) (h0 : xOb 11 x0) (x1 : Nat) (h1 : xAn 1 (xln x1) x1) (M : xM) (hM : xcan M) : CmW l G yL_goBack cL_goBack 3 (some .int) [(0, 8, 11, 17)] 5 0 1 6 [.ref x0, .ref x1] M (fL_goBack x0 x1 M) := by
  refine xcmw_of (u := uL_goBack) (ls := [some (.ref x0), some (.ref x1), none]) 1 hl rfl (by decide +kernel) (Nat.le_of_ble_eq_true rfl) rfl ?_
  unfold fL_goBack
  refine xg_aload_n dL_goBack_0 (Eq.refl 1) rfl ?_
  refine xg_iconst dL_goBack_1 (Eq.refl 2) ?_
  refine xg_aload_n dL_goBack_2 (Eq.refl 3) rfl ?_
  refine xg_callVC_I (kc := 0) (ks := 0) (st := [iv 0, .ref x1]) (mX11_goBack hl x0 h0 M hM) bX11_goBack xcl11 h0 rfl xq_1290 rfl (by decide) (Nat.le_of_ble_eq_true rfl) dL_goBack_3 (Eq.refl 6) rfl (by decide) (by decide) ?_ ?_
  · intro z1 M2 hz1 hM2
    refine xg_i2l dL_goBack_6 (Eq.refl 7) hz1 ?_
    refine xg_last h1 dL_goBack_7 (Eq.refl 8) hM2 (R32.j hz1) ?_
    intro M3 hM3
    refine xg_goto (tgt := 14) dL_goBack_8 (by decide) ?_
    refine xg_iconst dL_goBack_14 (Eq.refl 15) ?_
    exact xg_iret rfl dL_goBack_15 rfl hM3 (by decide)
  · intro e M4 he hM4
    have he3 : e = 0 ∨ e = 1 ∨ e = 2 := by omega
    rcases he3 with rfl | rfl | rfl
    · exact xgx_none
    · exact xgx_none
    · refine xgx_c2 ?_
      refine xgx_catch (pre := tableOf []) (suf := tableOf []) (x := ⟨0, 8, 11, 17⟩) (j := 2) (ln := 1) rfl (fun z hz => by cases hz) (by decide) (by decide) (by decide) xq_134 (by decide) (Or.inr ⟨2, rfl, dL_goBack_11, rfl⟩) ?_
      show Gv _ _ _ _ _ _ _ 12 _ _ _ _
      refine xg_iconst dL_goBack_12 (Eq.refl 13) ?_
      exact xg_iret rfl dL_goBack_13 rfl hM4 (by decide)
abbrev uL_announce : xU := (RL, cL_announce, 10, (some .int), tableOf [(0, 20, 23, 13), (0, 20, 27, 15), (0, 20, 31, 17)], "announce")
theorem bL_announce : xYW yL_announce cL_announce 10 (some .int) [(0, 20, 23, 13), (0, 20, 27, 15), (0, 20, 31, 17)] 9 := ⟨xq_1299, xq_130, xq_1300, ⟨by decide +kernel, by decide +kernel, by decide +kernel⟩, by decide⟩
theorem mL_announce {l : Launch} {G : xG} (hl : l.stackTraces = false) (x0 : Nat) (h0 : xOb 11 x0) (x1 : Int) (h1 : R32 x1) (x2 : Int) (h2 : R32 x2) (x3 : Int) (h3 : R32 x3) (x4 : Int) (h4 : R32 x4) (x5 : Int) (h5 : R32 x5) (x6 : Int) (h6 : R32 x6) (x7 : Int) (h7 : R32 x7) (x8 : Nat) (h8 : xAn 1 (xln x8) x8) (M : xM) (hM : xcan M) : CmW l G yL_announce cL_announce 10 (some .int) [(0, 20, 23, 13), (0, 20, 27, 15), (0, 20, 31, 17)] 4 0 8 48 [.ref x0, iv x1, iv x2, iv x3, iv x4, iv x5, iv x6, iv x7, .ref x8] M (fL_announce x0 x1 x2 x3 x4 x5 x6 x7 x8 M) := by
  refine xcmw_of (u := uL_announce) (ls := [some (.ref x0), some (iv x1), some (iv x2), some (iv x3), some (iv x4), some (iv x5), some (iv x6), some (iv x7), some (.ref x8), none]) 1 hl rfl (by decide +kernel) (Nat.le_of_ble_eq_true rfl) rfl ?_
  unfold fL_announce
  refine xg_aload dL_announce_0 (Eq.refl 2) rfl ?_
  refine xg_iconst dL_announce_2 (Eq.refl 3) ?_
  refine xg_aload_n dL_announce_3 (Eq.refl 4) rfl ?_
  refine xg_iload_n dL_announce_4 (Eq.refl 5) rfl ?_
  refine xg_iload_n dL_announce_5 (Eq.refl 6) rfl ?_
  refine xg_iload_n dL_announce_6 (Eq.refl 7) rfl ?_
  refine xg_iload dL_announce_7 (Eq.refl 9) rfl ?_
  refine xg_iload dL_announce_9 (Eq.refl 11) rfl ?_
  refine xg_iload dL_announce_11 (Eq.refl 13) rfl ?_
  refine xg_iload dL_announce_13 (Eq.refl 15) rfl ?_
  refine xg_callVC_I (kc := 0) (ks := 0) (st := [iv 0, .ref x8]) (mX11_announce hl x0 h0 x1 h1 x2 h2 x3 h3 x4 h4 x5 h5 x6 h6 x7 h7 M hM) bX11_announce xcl11 h0 rfl xq_1301 rfl (by decide) (Nat.le_of_ble_eq_true rfl) dL_announce_15 (Eq.refl 18) rfl (by decide) (by decide) ?_ ?_
  · intro z1 M2 hz1 hM2
    refine xg_i2l dL_announce_18 (Eq.refl 19) hz1 ?_
    refine xg_last h8 dL_announce_19 (Eq.refl 20) hM2 (R32.j hz1) ?_
    intro M3 hM3
    refine xg_goto (tgt := 35) dL_announce_20 (by decide) ?_
    refine xg_iconst dL_announce_35 (Eq.refl 36) ?_
    exact xg_iret rfl dL_announce_36 rfl hM3 (by decide)
  · intro e M4 he hM4
    have he3 : e = 0 ∨ e = 1 ∨ e = 2 := by omega
    rcases he3 with rfl | rfl | rfl
    · refine xgx_c0 ?_
      refine xgx_catch (pre := tableOf []) (suf := tableOf [(0, 20, 27, 15), (0, 20, 31, 17)]) (x := ⟨0, 20, 23, 13⟩) (j := 9) (ln := 2) rfl (fun z hz => by cases hz) (by decide) (by decide) (by decide) xq_132 (by decide) (Or.inl ⟨dL_announce_23, rfl⟩) ?_
      show Gv _ _ _ _ _ _ _ 25 _ _ _ _
      refine xg_iconst dL_announce_25 (Eq.refl 26) ?_
      exact xg_iret rfl dL_announce_26 rfl hM4 (by decide)
    · refine xgx_c1 ?_
      refine xgx_catch (pre := tableOf [(0, 20, 23, 13)]) (suf := tableOf [(0, 20, 31, 17)]) (x := ⟨0, 20, 27, 15⟩) (j := 9) (ln := 2) rfl (xpass1 (by decide) 0 xq_132 (by decide)) (by decide) (by decide) (by decide) xq_133 (by decide) (Or.inl ⟨dL_announce_27, rfl⟩) ?_
      show Gv _ _ _ _ _ _ _ 29 _ _ _ _
      refine xg_iconst dL_announce_29 (Eq.refl 30) ?_
      exact xg_iret rfl dL_announce_30 rfl hM4 (by decide)
    · refine xgx_c2 ?_
      refine xgx_catch (pre := tableOf [(0, 20, 23, 13), (0, 20, 27, 15)]) (suf := tableOf []) (x := ⟨0, 20, 31, 17⟩) (j := 9) (ln := 2) rfl (xpass2 (by decide) 0 xq_132 (by decide) (by decide) 1 xq_133 (by decide)) (by decide) (by decide) (by decide) xq_134 (by decide) (Or.inl ⟨dL_announce_31, rfl⟩) ?_
      show Gv _ _ _ _ _ _ _ 33 _ _ _ _
      refine xg_iconst dL_announce_33 (Eq.refl 34) ?_
      exact xg_iret rfl dL_announce_34 rfl hM4 (by decide)
abbrev uL_elect : xU := (RL, cL_elect, 6, (some .int), tableOf [(0, 11, 14, 13), (0, 11, 18, 15), (0, 11, 22, 17)], "elect")
theorem bL_elect : xYW yL_elect cL_elect 6 (some .int) [(0, 11, 14, 13), (0, 11, 18, 15), (0, 11, 22, 17)] 5 := ⟨xq_1319, xq_130, xq_1320, ⟨by decide +kernel, by decide +kernel, by decide +kernel⟩, by decide⟩
theorem mL_elect {l : Launch} {G : xG} (hl : l.stackTraces = false) (x0 : Nat) (h0 : xOb 11 x0) (x1 : Int) (h1 : R32 x1) (x2 : Int) (h2 : R32 x2) (x3 : Int) (h3 : R32 x3) (x4 : Nat) (h4 : xAn 1 (xln x4) x4) (M : xM) (hM : xcan M) : CmW l G yL_elect cL_elect 6 (some .int) [(0, 11, 14, 13), (0, 11, 18, 15), (0, 11, 22, 17)] 4 0 5 30 [.ref x0, iv x1, iv x2, iv x3, .ref x4] M (fL_elect x0 x1 x2 x3 x4 M) := by
  refine xcmw_of (u := uL_elect) (ls := [some (.ref x0), some (iv x1), some (iv x2), some (iv x3), some (.ref x4), none]) 1 hl rfl (by decide +kernel) (Nat.le_of_ble_eq_true rfl) rfl ?_
  unfold fL_elect
  refine xg_aload dL_elect_0 (Eq.refl 2) rfl ?_
  refine xg_iconst dL_elect_2 (Eq.refl 3) ?_
  refine xg_aload_n dL_elect_3 (Eq.refl 4) rfl ?_
  refine xg_iload_n dL_elect_4 (Eq.refl 5) rfl ?_
  refine xg_iload_n dL_elect_5 (Eq.refl 6) rfl ?_
  refine xg_iload_n dL_elect_6 (Eq.refl 7) rfl ?_
  refine xg_callVC_J (kc := 0) (ks := 0) (st := [iv 0, .ref x4]) (mX11_elect hl x0 h0 x1 h1 x2 h2 x3 h3 M hM) bX11_elect xcl11 h0 rfl xq_1321 rfl (by decide) (Nat.le_of_ble_eq_true rfl) dL_elect_7 (Eq.refl 10) rfl (by decide) (by decide) ?_ ?_
  · intro z1 M2 hz1 hM2
    refine xg_last h4 dL_elect_10 (Eq.refl 11) hM2 hz1 ?_
    intro M3 hM3
    refine xg_goto (tgt := 26) dL_elect_11 (by decide) ?_
    refine xg_iconst dL_elect_26 (Eq.refl 27) ?_
    exact xg_iret rfl dL_elect_27 rfl hM3 (by decide)
  · intro e M4 he hM4
    have he3 : e = 0 ∨ e = 1 ∨ e = 2 := by omega
    rcases he3 with rfl | rfl | rfl
    · refine xgx_c0 ?_
      refine xgx_catch (pre := tableOf []) (suf := tableOf [(0, 11, 18, 15), (0, 11, 22, 17)]) (x := ⟨0, 11, 14, 13⟩) (j := 5) (ln := 2) rfl (fun z hz => by cases hz) (by decide) (by decide) (by decide) xq_132 (by decide) (Or.inl ⟨dL_elect_14, rfl⟩) ?_
      show Gv _ _ _ _ _ _ _ 16 _ _ _ _
      refine xg_iconst dL_elect_16 (Eq.refl 17) ?_
      exact xg_iret rfl dL_elect_17 rfl hM4 (by decide)
    · refine xgx_c1 ?_
      refine xgx_catch (pre := tableOf [(0, 11, 14, 13)]) (suf := tableOf [(0, 11, 22, 17)]) (x := ⟨0, 11, 18, 15⟩) (j := 5) (ln := 2) rfl (xpass1 (by decide) 0 xq_132 (by decide)) (by decide) (by decide) (by decide) xq_133 (by decide) (Or.inl ⟨dL_elect_18, rfl⟩) ?_
      show Gv _ _ _ _ _ _ _ 20 _ _ _ _
      refine xg_iconst dL_elect_20 (Eq.refl 21) ?_
      exact xg_iret rfl dL_elect_21 rfl hM4 (by decide)
    · refine xgx_c2 ?_
      refine xgx_catch (pre := tableOf [(0, 11, 14, 13), (0, 11, 18, 15)]) (suf := tableOf []) (x := ⟨0, 11, 22, 17⟩) (j := 5) (ln := 2) rfl (xpass2 (by decide) 0 xq_132 (by decide) (by decide) 1 xq_133 (by decide)) (by decide) (by decide) (by decide) xq_134 (by decide) (Or.inl ⟨dL_elect_22, rfl⟩) ?_
      show Gv _ _ _ _ _ _ _ 24 _ _ _ _
      refine xg_iconst dL_elect_24 (Eq.refl 25) ?_
      exact xg_iret rfl dL_elect_25 rfl hM4 (by decide)
abbrev uL_entitled : xU := (RL, cL_entitled, 5, (some .int), tableOf [(0, 9, 12, 13)], "entitled")
theorem bL_entitled : xYW yL_entitled cL_entitled 5 (some .int) [(0, 9, 12, 13)] 4 := ⟨xq_1346, xq_130, xq_1347, ⟨by decide +kernel, by decide +kernel, by decide +kernel⟩, by decide⟩
theorem mL_entitled {l : Launch} {G : xG} (hl : l.stackTraces = false) (x0 : Nat) (h0 : xOb 11 x0) (x1 : Int) (h1 : R32 x1) (x2 : Int) (h2 : R32 x2) (x3 : Nat) (h3 : xAn 1 (xln x3) x3) (M : xM) (hM : xcan M) : CmW l G yL_entitled cL_entitled 5 (some .int) [(0, 9, 12, 13)] 4 0 2 12 [.ref x0, iv x1, iv x2, .ref x3] M (fL_entitled x0 x1 x2 x3 M) := by
  refine xcmw_of (u := uL_entitled) (ls := [some (.ref x0), some (iv x1), some (iv x2), some (.ref x3), none]) 1 hl rfl (by decide +kernel) (Nat.le_of_ble_eq_true rfl) rfl ?_
  unfold fL_entitled
  refine xg_aload_n dL_entitled_0 (Eq.refl 1) rfl ?_
  refine xg_iconst dL_entitled_1 (Eq.refl 2) ?_
  refine xg_aload_n dL_entitled_2 (Eq.refl 3) rfl ?_
  refine xg_iload_n dL_entitled_3 (Eq.refl 4) rfl ?_
  refine xg_iload_n dL_entitled_4 (Eq.refl 5) rfl ?_
  refine xg_callVC_J (kc := 0) (ks := 0) (st := [iv 0, .ref x3]) (mX11_entitled hl x0 h0 x1 h1 x2 h2 M hM) bX11_entitled xcl11 h0 rfl xq_1348 rfl (by decide) (Nat.le_of_ble_eq_true rfl) dL_entitled_5 (Eq.refl 8) rfl (by decide) (by decide) ?_ ?_
  · intro z1 M2 hz1 hM2
    refine xg_last h3 dL_entitled_8 (Eq.refl 9) hM2 hz1 ?_
    intro M3 hM3
    refine xg_goto (tgt := 16) dL_entitled_9 (by decide) ?_
    refine xg_iconst dL_entitled_16 (Eq.refl 17) ?_
    exact xg_iret rfl dL_entitled_17 rfl hM3 (by decide)
  · intro e M4 he hM4
    have he3 : e = 0 ∨ e = 1 ∨ e = 2 := by omega
    rcases he3 with rfl | rfl | rfl
    · refine xgx_c0 ?_
      refine xgx_catch (pre := tableOf []) (suf := tableOf []) (x := ⟨0, 9, 12, 13⟩) (j := 4) (ln := 2) rfl (fun z hz => by cases hz) (by decide) (by decide) (by decide) xq_132 (by decide) (Or.inl ⟨dL_entitled_12, rfl⟩) ?_
      show Gv _ _ _ _ _ _ _ 14 _ _ _ _
      refine xg_iconst dL_entitled_14 (Eq.refl 15) ?_
      exact xg_iret rfl dL_entitled_15 rfl hM4 (by decide)
    · exact xgx_none
    · exact xgx_none
abbrev uL_entitledAnew : xU := (RL, cL_entitledAnew, 5, (some .int), tableOf [(0, 9, 12, 13)], "entitledAnew")
theorem bL_entitledAnew : xYW yL_entitledAnew cL_entitledAnew 5 (some .int) [(0, 9, 12, 13)] 4 := ⟨xq_1358, xq_130, xq_1359, ⟨by decide +kernel, by decide +kernel, by decide +kernel⟩, by decide⟩
theorem mL_entitledAnew {l : Launch} {G : xG} (hl : l.stackTraces = false) (x0 : Nat) (h0 : xOb 11 x0) (x1 : Int) (h1 : R32 x1) (x2 : Int) (h2 : R32 x2) (x3 : Nat) (h3 : xAn 1 (xln x3) x3) (M : xM) (hM : xcan M) : CmW l G yL_entitledAnew cL_entitledAnew 5 (some .int) [(0, 9, 12, 13)] 4 0 2 12 [.ref x0, iv x1, iv x2, .ref x3] M (fL_entitledAnew x0 x1 x2 x3 M) := by
  refine xcmw_of (u := uL_entitledAnew) (ls := [some (.ref x0), some (iv x1), some (iv x2), some (.ref x3), none]) 1 hl rfl (by decide +kernel) (Nat.le_of_ble_eq_true rfl) rfl ?_
  unfold fL_entitledAnew
  refine xg_aload_n dL_entitledAnew_0 (Eq.refl 1) rfl ?_
  refine xg_iconst dL_entitledAnew_1 (Eq.refl 2) ?_
  refine xg_aload_n dL_entitledAnew_2 (Eq.refl 3) rfl ?_
  refine xg_iload_n dL_entitledAnew_3 (Eq.refl 4) rfl ?_
  refine xg_iload_n dL_entitledAnew_4 (Eq.refl 5) rfl ?_
  refine xg_callVC_J (kc := 0) (ks := 0) (st := [iv 0, .ref x3]) (mX11_entitledAnew hl x0 h0 x1 h1 x2 h2 M hM) bX11_entitledAnew xcl11 h0 rfl xq_1360 rfl (by decide) (Nat.le_of_ble_eq_true rfl) dL_entitledAnew_5 (Eq.refl 8) rfl (by decide) (by decide) ?_ ?_
  · intro z1 M2 hz1 hM2
    refine xg_last h3 dL_entitledAnew_8 (Eq.refl 9) hM2 hz1 ?_
    intro M3 hM3
    refine xg_goto (tgt := 16) dL_entitledAnew_9 (by decide) ?_
    refine xg_iconst dL_entitledAnew_16 (Eq.refl 17) ?_
    exact xg_iret rfl dL_entitledAnew_17 rfl hM3 (by decide)
  · intro e M4 he hM4
    have he3 : e = 0 ∨ e = 1 ∨ e = 2 := by omega
    rcases he3 with rfl | rfl | rfl
    · refine xgx_c0 ?_
      refine xgx_catch (pre := tableOf []) (suf := tableOf []) (x := ⟨0, 9, 12, 13⟩) (j := 4) (ln := 2) rfl (fun z hz => by cases hz) (by decide) (by decide) (by decide) xq_132 (by decide) (Or.inl ⟨dL_entitledAnew_12, rfl⟩) ?_
      show Gv _ _ _ _ _ _ _ 14 _ _ _ _
      refine xg_iconst dL_entitledAnew_14 (Eq.refl 15) ?_
      exact xg_iret rfl dL_entitledAnew_15 rfl hM4 (by decide)
    · exact xgx_none
    · exact xgx_none
abbrev uL_isPaid : xU := (RL, cL_isPaid, 4, (some .int), tableOf [(0, 16, 19, 13)], "isPaid")
theorem bL_isPaid : xYW yL_isPaid cL_isPaid 4 (some .int) [(0, 16, 19, 13)] 3 := ⟨xq_1375, xq_130, xq_1376, ⟨by decide +kernel, by decide +kernel, by decide +kernel⟩, by decide⟩
theorem gL_isPaid_15 {l : Launch} {G : xG} (hl : l.stackTraces = false) (s0 : Int) (hs0 : R64 s0) (s1 : Int) (hs1 : B01 s1) (s2 : Nat) (hs2 : xAn 1 (xln s2) s2) (M : xM) (hM : xcan M) : Gv l G uL_isPaid 4 0 0 0 15 [none, none, none, none] [jv s0, iv s1, .ref s2] M (fL_isPaid_15 s0 s1 s2 M) := by
  unfold fL_isPaid_15
  refine xg_last hs2 dL_isPaid_15 (Eq.refl 16) hM hs0 ?_
  intro M1 hM1
  refine xg_goto (tgt := 22) dL_isPaid_16 (by decide) ?_
  refine xg_iconst dL_isPaid_22 (Eq.refl 23) ?_
  exact xg_iret rfl dL_isPaid_23 rfl hM1 (by decide)
theorem mL_isPaid {l : Launch} {G : xG} (hl : l.stackTraces = false) (x0 : Nat) (h0 : xOb 11 x0) (x1 : Int) (h1 : R32 x1) (x2 : Nat) (h2 : xAn 1 (xln x2) x2) (M : xM) (hM : xcan M) : CmW l G yL_isPaid cL_isPaid 4 (some .int) [(0, 16, 19, 13)] 4 0 1 6 [.ref x0, iv x1, .ref x2] M (fL_isPaid x0 x1 x2 M) := by
  refine xcmw_of (u := uL_isPaid) (ls := [some (.ref x0), some (iv x1), some (.ref x2), none]) 1 hl rfl (by decide +kernel) (Nat.le_of_ble_eq_true rfl) rfl ?_
  unfold fL_isPaid
  refine xg_aload_n dL_isPaid_0 (Eq.refl 1) rfl ?_
  refine xg_iconst dL_isPaid_1 (Eq.refl 2) ?_
  refine xg_aload_n dL_isPaid_2 (Eq.refl 3) rfl ?_
  refine xg_iload_n dL_isPaid_3 (Eq.refl 4) rfl ?_
  refine xg_callVC_Z (kc := 0) (ks := 0) (st := [iv 0, .ref x2]) (mX11_isPaid hl x0 h0 x1 h1 M hM) bX11_isPaid xcl11 h0 rfl xq_1377 rfl (by decide) (Nat.le_of_ble_eq_true rfl) dL_isPaid_4 (Eq.refl 7) rfl (by decide) (by decide) ?_ ?_
  · intro z1 M2 hz1 hM2
    refine xg_if_eq (tgt := 14) dL_isPaid_7 (Eq.refl 10) (by decide) (B01.r hz1) ?_ ?_
    · refine xg_lconst (z := 0) dL_isPaid_14 (Eq.refl 15) rfl ?_
      exact xg_jump (gL_isPaid_15 hl 0 (by decide) 0 (by decide) x2 h2 M2 hM2) (xsb_n (xsb_n (xsb_n (xsb_n xsb_0)))) (by decide) (by decide)
    · refine xg_lconst (z := 1) dL_isPaid_10 (Eq.refl 11) rfl ?_
      refine xg_goto (tgt := 15) dL_isPaid_11 (by decide) ?_
      exact xg_jump (gL_isPaid_15 hl 1 (by decide) 0 (by decide) x2 h2 M2 hM2) (xsb_n (xsb_n (xsb_n (xsb_n xsb_0)))) (by decide) (by decide)
  · intro e M3 he hM3
    have he3 : e = 0 ∨ e = 1 ∨ e = 2 := by omega
    rcases he3 with rfl | rfl | rfl
    · refine xgx_c0 ?_
      refine xgx_catch (pre := tableOf []) (suf := tableOf []) (x := ⟨0, 16, 19, 13⟩) (j := 3) (ln := 1) rfl (fun z hz => by cases hz) (by decide) (by decide) (by decide) xq_132 (by decide) (Or.inr ⟨3, rfl, dL_isPaid_19, rfl⟩) ?_
      show Gv _ _ _ _ _ _ _ 20 _ _ _ _
      refine xg_iconst dL_isPaid_20 (Eq.refl 21) ?_
      exact xg_iret rfl dL_isPaid_21 rfl hM3 (by decide)
    · exact xgx_none
    · exact xgx_none
abbrev uL_units : xU := (RL, cL_units, 5, (some .int), tableOf [(0, 9, 12, 13)], "units")
theorem bL_units : xYW yL_units cL_units 5 (some .int) [(0, 9, 12, 13)] 4 := ⟨xq_1386, xq_130, xq_1387, ⟨by decide +kernel, by decide +kernel, by decide +kernel⟩, by decide⟩
theorem mL_units {l : Launch} {G : xG} (hl : l.stackTraces = false) (x0 : Nat) (h0 : xOb 11 x0) (x1 : Int) (h1 : R32 x1) (x2 : Int) (h2 : R32 x2) (x3 : Nat) (h3 : xAn 1 (xln x3) x3) (M : xM) (hM : xcan M) : CmW l G yL_units cL_units 5 (some .int) [(0, 9, 12, 13)] 4 0 2 12 [.ref x0, iv x1, iv x2, .ref x3] M (fL_units x0 x1 x2 x3 M) := by
  refine xcmw_of (u := uL_units) (ls := [some (.ref x0), some (iv x1), some (iv x2), some (.ref x3), none]) 1 hl rfl (by decide +kernel) (Nat.le_of_ble_eq_true rfl) rfl ?_
  unfold fL_units
  refine xg_aload_n dL_units_0 (Eq.refl 1) rfl ?_
  refine xg_iconst dL_units_1 (Eq.refl 2) ?_
  refine xg_aload_n dL_units_2 (Eq.refl 3) rfl ?_
  refine xg_iload_n dL_units_3 (Eq.refl 4) rfl ?_
  refine xg_iload_n dL_units_4 (Eq.refl 5) rfl ?_
  refine xg_callVC_J (kc := 0) (ks := 0) (st := [iv 0, .ref x3]) (mX11_units hl x0 h0 x1 h1 x2 h2 M hM) bX11_units xcl11 h0 rfl xq_1388 rfl (by decide) (Nat.le_of_ble_eq_true rfl) dL_units_5 (Eq.refl 8) rfl (by decide) (by decide) ?_ ?_
  · intro z1 M2 hz1 hM2
    refine xg_last h3 dL_units_8 (Eq.refl 9) hM2 hz1 ?_
    intro M3 hM3
    refine xg_goto (tgt := 16) dL_units_9 (by decide) ?_
    refine xg_iconst dL_units_16 (Eq.refl 17) ?_
    exact xg_iret rfl dL_units_17 rfl hM3 (by decide)
  · intro e M4 he hM4
    have he3 : e = 0 ∨ e = 1 ∨ e = 2 := by omega
    rcases he3 with rfl | rfl | rfl
    · refine xgx_c0 ?_
      refine xgx_catch (pre := tableOf []) (suf := tableOf []) (x := ⟨0, 9, 12, 13⟩) (j := 4) (ln := 2) rfl (fun z hz => by cases hz) (by decide) (by decide) (by decide) xq_132 (by decide) (Or.inl ⟨dL_units_12, rfl⟩) ?_
      show Gv _ _ _ _ _ _ _ 14 _ _ _ _
      refine xg_iconst dL_units_14 (Eq.refl 15) ?_
      exact xg_iret rfl dL_units_15 rfl hM4 (by decide)
    · exact xgx_none
    · exact xgx_none
abbrev uL_free : xU := (RL, cL_free, 5, (some .int), tableOf [(0, 9, 12, 13)], "free")
theorem bL_free : xYW yL_free cL_free 5 (some .int) [(0, 9, 12, 13)] 4 := ⟨xq_1401, xq_130, xq_1402, ⟨by decide +kernel, by decide +kernel, by decide +kernel⟩, by decide⟩
theorem mL_free {l : Launch} {G : xG} (hl : l.stackTraces = false) (x0 : Nat) (h0 : xOb 11 x0) (x1 : Int) (h1 : R32 x1) (x2 : Int) (h2 : R32 x2) (x3 : Nat) (h3 : xAn 1 (xln x3) x3) (M : xM) (hM : xcan M) : CmW l G yL_free cL_free 5 (some .int) [(0, 9, 12, 13)] 4 0 2 12 [.ref x0, iv x1, iv x2, .ref x3] M (fL_free x0 x1 x2 x3 M) := by
  refine xcmw_of (u := uL_free) (ls := [some (.ref x0), some (iv x1), some (iv x2), some (.ref x3), none]) 1 hl rfl (by decide +kernel) (Nat.le_of_ble_eq_true rfl) rfl ?_
  unfold fL_free
  refine xg_aload_n dL_free_0 (Eq.refl 1) rfl ?_
  refine xg_iconst dL_free_1 (Eq.refl 2) ?_
  refine xg_aload_n dL_free_2 (Eq.refl 3) rfl ?_
  refine xg_iload_n dL_free_3 (Eq.refl 4) rfl ?_
  refine xg_iload_n dL_free_4 (Eq.refl 5) rfl ?_
  refine xg_callVC_J (kc := 0) (ks := 0) (st := [iv 0, .ref x3]) (mX11_free hl x0 h0 x1 h1 x2 h2 M hM) bX11_free xcl11 h0 rfl xq_1403 rfl (by decide) (Nat.le_of_ble_eq_true rfl) dL_free_5 (Eq.refl 8) rfl (by decide) (by decide) ?_ ?_
  · intro z1 M2 hz1 hM2
    refine xg_last h3 dL_free_8 (Eq.refl 9) hM2 hz1 ?_
    intro M3 hM3
    refine xg_goto (tgt := 16) dL_free_9 (by decide) ?_
    refine xg_iconst dL_free_16 (Eq.refl 17) ?_
    exact xg_iret rfl dL_free_17 rfl hM3 (by decide)
  · intro e M4 he hM4
    have he3 : e = 0 ∨ e = 1 ∨ e = 2 := by omega
    rcases he3 with rfl | rfl | rfl
    · refine xgx_c0 ?_
      refine xgx_catch (pre := tableOf []) (suf := tableOf []) (x := ⟨0, 9, 12, 13⟩) (j := 4) (ln := 2) rfl (fun z hz => by cases hz) (by decide) (by decide) (by decide) xq_132 (by decide) (Or.inl ⟨dL_free_12, rfl⟩) ?_
      show Gv _ _ _ _ _ _ _ 14 _ _ _ _
      refine xg_iconst dL_free_14 (Eq.refl 15) ?_
      exact xg_iret rfl dL_free_15 rfl hM4 (by decide)
    · exact xgx_none
    · exact xgx_none
abbrev uL_out : xU := (RL, cL_out, 4, (some .int), tableOf [(0, 8, 11, 13)], "out")
theorem bL_out : xYW yL_out cL_out 4 (some .int) [(0, 8, 11, 13)] 3 := ⟨xq_1413, xq_130, xq_1414, ⟨by decide +kernel, by decide +kernel, by decide +kernel⟩, by decide⟩
theorem mL_out {l : Launch} {G : xG} (hl : l.stackTraces = false) (x0 : Nat) (h0 : xOb 11 x0) (x1 : Int) (h1 : R32 x1) (x2 : Nat) (h2 : xAn 1 (xln x2) x2) (M : xM) (hM : xcan M) : CmW l G yL_out cL_out 4 (some .int) [(0, 8, 11, 13)] 4 0 1 6 [.ref x0, iv x1, .ref x2] M (fL_out x0 x1 x2 M) := by
  refine xcmw_of (u := uL_out) (ls := [some (.ref x0), some (iv x1), some (.ref x2), none]) 1 hl rfl (by decide +kernel) (Nat.le_of_ble_eq_true rfl) rfl ?_
  unfold fL_out
  refine xg_aload_n dL_out_0 (Eq.refl 1) rfl ?_
  refine xg_iconst dL_out_1 (Eq.refl 2) ?_
  refine xg_aload_n dL_out_2 (Eq.refl 3) rfl ?_
  refine xg_iload_n dL_out_3 (Eq.refl 4) rfl ?_
  refine xg_callVC_J (kc := 0) (ks := 0) (st := [iv 0, .ref x2]) (mX11_out hl x0 h0 x1 h1 M hM) bX11_out xcl11 h0 rfl xq_1415 rfl (by decide) (Nat.le_of_ble_eq_true rfl) dL_out_4 (Eq.refl 7) rfl (by decide) (by decide) ?_ ?_
  · intro z1 M2 hz1 hM2
    refine xg_last h2 dL_out_7 (Eq.refl 8) hM2 hz1 ?_
    intro M3 hM3
    refine xg_goto (tgt := 14) dL_out_8 (by decide) ?_
    refine xg_iconst dL_out_14 (Eq.refl 15) ?_
    exact xg_iret rfl dL_out_15 rfl hM3 (by decide)
  · intro e M4 he hM4
    have he3 : e = 0 ∨ e = 1 ∨ e = 2 := by omega
    rcases he3 with rfl | rfl | rfl
    · refine xgx_c0 ?_
      refine xgx_catch (pre := tableOf []) (suf := tableOf []) (x := ⟨0, 8, 11, 13⟩) (j := 3) (ln := 1) rfl (fun z hz => by cases hz) (by decide) (by decide) (by decide) xq_132 (by decide) (Or.inr ⟨3, rfl, dL_out_11, rfl⟩) ?_
      show Gv _ _ _ _ _ _ _ 12 _ _ _ _
      refine xg_iconst dL_out_12 (Eq.refl 13) ?_
      exact xg_iret rfl dL_out_13 rfl hM4 (by decide)
    · exact xgx_none
    · exact xgx_none
abbrev uL_cash : xU := (RL, cL_cash, 4, (some .int), tableOf [(0, 8, 11, 13)], "cash")
theorem bL_cash : xYW yL_cash cL_cash 4 (some .int) [(0, 8, 11, 13)] 3 := ⟨xq_1424, xq_130, xq_1425, ⟨by decide +kernel, by decide +kernel, by decide +kernel⟩, by decide⟩
theorem mL_cash {l : Launch} {G : xG} (hl : l.stackTraces = false) (x0 : Nat) (h0 : xOb 11 x0) (x1 : Int) (h1 : R32 x1) (x2 : Nat) (h2 : xAn 1 (xln x2) x2) (M : xM) (hM : xcan M) : CmW l G yL_cash cL_cash 4 (some .int) [(0, 8, 11, 13)] 4 0 1 6 [.ref x0, iv x1, .ref x2] M (fL_cash x0 x1 x2 M) := by
  refine xcmw_of (u := uL_cash) (ls := [some (.ref x0), some (iv x1), some (.ref x2), none]) 1 hl rfl (by decide +kernel) (Nat.le_of_ble_eq_true rfl) rfl ?_
  unfold fL_cash
  refine xg_aload_n dL_cash_0 (Eq.refl 1) rfl ?_
  refine xg_iconst dL_cash_1 (Eq.refl 2) ?_
  refine xg_aload_n dL_cash_2 (Eq.refl 3) rfl ?_
  refine xg_iload_n dL_cash_3 (Eq.refl 4) rfl ?_
  refine xg_callVC_J (kc := 0) (ks := 0) (st := [iv 0, .ref x2]) (mX11_cash hl x0 h0 x1 h1 M hM) bX11_cash xcl11 h0 rfl xq_1426 rfl (by decide) (Nat.le_of_ble_eq_true rfl) dL_cash_4 (Eq.refl 7) rfl (by decide) (by decide) ?_ ?_
  · intro z1 M2 hz1 hM2
    refine xg_last h2 dL_cash_7 (Eq.refl 8) hM2 hz1 ?_
    intro M3 hM3
    refine xg_goto (tgt := 14) dL_cash_8 (by decide) ?_
    refine xg_iconst dL_cash_14 (Eq.refl 15) ?_
    exact xg_iret rfl dL_cash_15 rfl hM3 (by decide)
  · intro e M4 he hM4
    have he3 : e = 0 ∨ e = 1 ∨ e = 2 := by omega
    rcases he3 with rfl | rfl | rfl
    · refine xgx_c0 ?_
      refine xgx_catch (pre := tableOf []) (suf := tableOf []) (x := ⟨0, 8, 11, 13⟩) (j := 3) (ln := 1) rfl (fun z hz => by cases hz) (by decide) (by decide) (by decide) xq_132 (by decide) (Or.inr ⟨3, rfl, dL_cash_11, rfl⟩) ?_
      show Gv _ _ _ _ _ _ _ 12 _ _ _ _
      refine xg_iconst dL_cash_12 (Eq.refl 13) ?_
      exact xg_iret rfl dL_cash_13 rfl hM4 (by decide)
    · exact xgx_none
    · exact xgx_none
abbrev uL_pledged : xU := (RL, cL_pledged, 4, (some .int), tableOf [(0, 8, 11, 13)], "pledged")
theorem bL_pledged : xYW yL_pledged cL_pledged 4 (some .int) [(0, 8, 11, 13)] 3 := ⟨xq_1435, xq_130, xq_1436, ⟨by decide +kernel, by decide +kernel, by decide +kernel⟩, by decide⟩
theorem mL_pledged {l : Launch} {G : xG} (hl : l.stackTraces = false) (x0 : Nat) (h0 : xOb 11 x0) (x1 : Int) (h1 : R32 x1) (x2 : Nat) (h2 : xAn 1 (xln x2) x2) (M : xM) (hM : xcan M) : CmW l G yL_pledged cL_pledged 4 (some .int) [(0, 8, 11, 13)] 4 0 1 6 [.ref x0, iv x1, .ref x2] M (fL_pledged x0 x1 x2 M) := by
  refine xcmw_of (u := uL_pledged) (ls := [some (.ref x0), some (iv x1), some (.ref x2), none]) 1 hl rfl (by decide +kernel) (Nat.le_of_ble_eq_true rfl) rfl ?_
  unfold fL_pledged
  refine xg_aload_n dL_pledged_0 (Eq.refl 1) rfl ?_
  refine xg_iconst dL_pledged_1 (Eq.refl 2) ?_
  refine xg_aload_n dL_pledged_2 (Eq.refl 3) rfl ?_
  refine xg_iload_n dL_pledged_3 (Eq.refl 4) rfl ?_
  refine xg_callVC_J (kc := 0) (ks := 0) (st := [iv 0, .ref x2]) (mX11_pledged hl x0 h0 x1 h1 M hM) bX11_pledged xcl11 h0 rfl xq_1437 rfl (by decide) (Nat.le_of_ble_eq_true rfl) dL_pledged_4 (Eq.refl 7) rfl (by decide) (by decide) ?_ ?_
  · intro z1 M2 hz1 hM2
    refine xg_last h2 dL_pledged_7 (Eq.refl 8) hM2 hz1 ?_
    intro M3 hM3
    refine xg_goto (tgt := 14) dL_pledged_8 (by decide) ?_
    refine xg_iconst dL_pledged_14 (Eq.refl 15) ?_
    exact xg_iret rfl dL_pledged_15 rfl hM3 (by decide)
  · intro e M4 he hM4
    have he3 : e = 0 ∨ e = 1 ∨ e = 2 := by omega
    rcases he3 with rfl | rfl | rfl
    · refine xgx_c0 ?_
      refine xgx_catch (pre := tableOf []) (suf := tableOf []) (x := ⟨0, 8, 11, 13⟩) (j := 3) (ln := 1) rfl (fun z hz => by cases hz) (by decide) (by decide) (by decide) xq_132 (by decide) (Or.inr ⟨3, rfl, dL_pledged_11, rfl⟩) ?_
      show Gv _ _ _ _ _ _ _ 12 _ _ _ _
      refine xg_iconst dL_pledged_12 (Eq.refl 13) ?_
      exact xg_iret rfl dL_pledged_13 rfl hM4 (by decide)
    · exact xgx_none
    · exact xgx_none
