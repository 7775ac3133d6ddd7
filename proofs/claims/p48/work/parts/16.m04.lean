abbrev uX11_units : xU := (RX11, cX11_units, 3, (some .long), [], "units")
theorem bX11_units : xYV yX11_units cX11_units 3 (some .long) 2 := ⟨xq_218, xq_219, xq_2, xq_220, ⟨by decide +kernel, by decide +kernel, by decide +kernel⟩, by decide⟩
theorem mX11_units {l : Launch} {G : xG} (hl : l.stackTraces = false) (x0 : Nat) (h0 : xOb 11 x0) (x1 : Int) (h1 : R32 x1) (x2 : Int) (h2 : R32 x2) (M : xM) (hM : xcan M) : Cm l G yX11_units cX11_units 3 (some .long) 3 2 2 12 [.ref x0, iv x1, iv x2] M (fX11_units x0 x1 x2 M) := by
  refine xcm_of (u := uX11_units) (ls := [some (.ref x0), some (iv x1), some (iv x2)]) 0 hl rfl (by decide +kernel) (Nat.le_of_ble_eq_true rfl) rfl ?_
  unfold fX11_units
  refine xg_aload_n dX11_units_0 (Eq.refl 1) rfl ?_
  refine xg_iload_n dX11_units_1 (Eq.refl 2) rfl ?_
  refine xg_callV_N (kc := 1) (ks := 6) (st := []) (mX11_needAccount hl x0 h0 x1 h1 M hM) bX11_needAccount xcl11 h0 rfl xq_141 rfl (by decide) rfl (by decide) dX11_units_2 (Eq.refl 5) rfl (by decide) (by decide) ?_
  intro z1 M2 hz1 hM2
  refine xg_aload_n dX11_units_5 (Eq.refl 6) rfl ?_
  refine xg_iload_n dX11_units_6 (Eq.refl 7) rfl ?_
  refine xg_callV_N (kc := 0) (ks := 0) (st := []) (mX11_needSecurity hl x0 h0 x2 h2 M2 hM2) bX11_needSecurity xcl11 h0 rfl xq_221 rfl (by decide) rfl (by decide) dX11_units_7 (Eq.refl 10) rfl (by decide) (by decide) ?_
  intro z3 M4 hz3 hM4
  refine xg_aload_n dX11_units_10 (Eq.refl 11) rfl ?_
  refine xg_getR (k := 1) xcl11 h0 rfl xq_18 rfl (xt_11_1 h0).1 dX11_units_11 (Eq.refl 14) ?_
  refine xg_iload_n dX11_units_14 (Eq.refl 15) rfl ?_
  refine xg_callV_R (cr := 0) (kc := 0) (ks := 0) (st := []) (mX1_account hl (xr x0 1) (xt_11_1 h0).2 x1 h1 M4 hM4) bX1_account xcl1 (xt_11_1 h0).2 rfl xq_158 rfl (by decide) rfl (by decide) dX11_units_15 (Eq.refl 18) rfl (by decide) (by decide) ?_
  intro z5 M6 hz5 hM6
  refine xg_iload_n dX11_units_18 (Eq.refl 19) rfl ?_
  refine xg_callV_J (kc := 0) (ks := 0) (st := []) (mX0_heldOf hl z5.toNat hz5 x2 h2 M6 hM6) bX0_heldOf xcl0 hz5 rfl xq_225 rfl (by decide) rfl (by decide) dX11_units_19 (Eq.refl 22) rfl (by decide) (by decide) ?_
  intro z7 M8 hz7 hM8
  exact xg_lret rfl dX11_units_22 rfl hM8 hz7
abbrev uX11_free : xU := (RX11, cX11_free, 3, (some .long), [], "free")
theorem bX11_free : xYV yX11_free cX11_free 3 (some .long) 2 := ⟨xq_230, xq_231, xq_2, xq_232, ⟨by decide +kernel, by decide +kernel, by decide +kernel⟩, by decide⟩
theorem mX11_free {l : Launch} {G : xG} (hl : l.stackTraces = false) (x0 : Nat) (h0 : xOb 11 x0) (x1 : Int) (h1 : R32 x1) (x2 : Int) (h2 : R32 x2) (M : xM) (hM : xcan M) : Cm l G yX11_free cX11_free 3 (some .long) 3 2 2 12 [.ref x0, iv x1, iv x2] M (fX11_free x0 x1 x2 M) := by
  refine xcm_of (u := uX11_free) (ls := [some (.ref x0), some (iv x1), some (iv x2)]) 0 hl rfl (by decide +kernel) (Nat.le_of_ble_eq_true rfl) rfl ?_
  unfold fX11_free
  refine xg_aload_n dX11_free_0 (Eq.refl 1) rfl ?_
  refine xg_iload_n dX11_free_1 (Eq.refl 2) rfl ?_
  refine xg_callV_N (kc := 1) (ks := 6) (st := []) (mX11_needAccount hl x0 h0 x1 h1 M hM) bX11_needAccount xcl11 h0 rfl xq_141 rfl (by decide) rfl (by decide) dX11_free_2 (Eq.refl 5) rfl (by decide) (by decide) ?_
  intro z1 M2 hz1 hM2
  refine xg_aload_n dX11_free_5 (Eq.refl 6) rfl ?_
  refine xg_iload_n dX11_free_6 (Eq.refl 7) rfl ?_
  refine xg_callV_N (kc := 0) (ks := 0) (st := []) (mX11_needSecurity hl x0 h0 x2 h2 M2 hM2) bX11_needSecurity xcl11 h0 rfl xq_221 rfl (by decide) rfl (by decide) dX11_free_7 (Eq.refl 10) rfl (by decide) (by decide) ?_
  intro z3 M4 hz3 hM4
  refine xg_aload_n dX11_free_10 (Eq.refl 11) rfl ?_
  refine xg_getR (k := 1) xcl11 h0 rfl xq_18 rfl (xt_11_1 h0).1 dX11_free_11 (Eq.refl 14) ?_
  refine xg_iload_n dX11_free_14 (Eq.refl 15) rfl ?_
  refine xg_callV_R (cr := 0) (kc := 0) (ks := 0) (st := []) (mX1_account hl (xr x0 1) (xt_11_1 h0).2 x1 h1 M4 hM4) bX1_account xcl1 (xt_11_1 h0).2 rfl xq_158 rfl (by decide) rfl (by decide) dX11_free_15 (Eq.refl 18) rfl (by decide) (by decide) ?_
  intro z5 M6 hz5 hM6
  refine xg_iload_n dX11_free_18 (Eq.refl 19) rfl ?_
  refine xg_callV_J (kc := 0) (ks := 0) (st := []) (mX0_freeOf hl z5.toNat hz5 x2 h2 M6 hM6) bX0_freeOf xcl0 hz5 rfl xq_233 rfl (by decide) rfl (by decide) dX11_free_19 (Eq.refl 22) rfl (by decide) (by decide) ?_
  intro z7 M8 hz7 hM8
  exact xg_lret rfl dX11_free_22 rfl hM8 hz7
abbrev uX11_out : xU := (RX11, cX11_out, 2, (some .long), [], "out")
theorem bX11_out : xYV yX11_out cX11_out 2 (some .long) 1 := ⟨xq_1019, xq_1020, xq_2, xq_1021, ⟨by decide +kernel, by decide +kernel, by decide +kernel⟩, by decide⟩
theorem mX11_out {l : Launch} {G : xG} (hl : l.stackTraces = false) (x0 : Nat) (h0 : xOb 11 x0) (x1 : Int) (h1 : R32 x1) (M : xM) (hM : xcan M) : Cm l G yX11_out cX11_out 2 (some .long) 3 2 1 6 [.ref x0, iv x1] M (fX11_out x0 x1 M) := by
  refine xcm_of (u := uX11_out) (ls := [some (.ref x0), some (iv x1)]) 0 hl rfl (by decide +kernel) (Nat.le_of_ble_eq_true rfl) rfl ?_
  unfold fX11_out
  refine xg_aload_n dX11_out_0 (Eq.refl 1) rfl ?_
  refine xg_iload_n dX11_out_1 (Eq.refl 2) rfl ?_
  refine xg_callV_N (kc := 0) (ks := 0) (st := []) (mX11_needSecurity hl x0 h0 x1 h1 M hM) bX11_needSecurity xcl11 h0 rfl xq_221 rfl (by decide) rfl (by decide) dX11_out_2 (Eq.refl 5) rfl (by decide) (by decide) ?_
  intro z1 M2 hz1 hM2
  refine xg_aload_n dX11_out_5 (Eq.refl 6) rfl ?_
  refine xg_getR (k := 1) xcl11 h0 rfl xq_18 rfl (xt_11_1 h0).1 dX11_out_6 (Eq.refl 9) ?_
  refine xg_iload_n dX11_out_9 (Eq.refl 10) rfl ?_
  refine xg_callV_R (cr := 9) (kc := 0) (ks := 0) (st := []) (mX1_security hl (xr x0 1) (xt_11_1 h0).2 x1 h1 M2 hM2) bX1_security xcl1 (xt_11_1 h0).2 rfl xq_186 rfl (by decide) rfl (by decide) dX11_out_10 (Eq.refl 13) rfl (by decide) (by decide) ?_
  intro z3 M4 hz3 hM4
  refine xg_getJ (k := 3) xcl9 hz3 rfl xq_184 rfl dX11_out_13 (Eq.refl 16) ?_
  exact xg_lret rfl dX11_out_16 rfl hM4 (hM4.J hz3 rfl)
abbrev uX11_cash : xU := (RX11, cX11_cash, 2, (some .long), [], "cash")
theorem bX11_cash : xYV yX11_cash cX11_cash 2 (some .long) 1 := ⟨xq_204, xq_205, xq_2, xq_206, ⟨by decide +kernel, by decide +kernel, by decide +kernel⟩, by decide⟩
theorem mX11_cash {l : Launch} {G : xG} (hl : l.stackTraces = false) (x0 : Nat) (h0 : xOb 11 x0) (x1 : Int) (h1 : R32 x1) (M : xM) (hM : xcan M) : Cm l G yX11_cash cX11_cash 2 (some .long) 3 2 1 6 [.ref x0, iv x1] M (fX11_cash x0 x1 M) := by
  refine xcm_of (u := uX11_cash) (ls := [some (.ref x0), some (iv x1)]) 0 hl rfl (by decide +kernel) (Nat.le_of_ble_eq_true rfl) rfl ?_
  unfold fX11_cash
  refine xg_aload_n dX11_cash_0 (Eq.refl 1) rfl ?_
  refine xg_iload_n dX11_cash_1 (Eq.refl 2) rfl ?_
  refine xg_callV_N (kc := 0) (ks := 0) (st := []) (mX11_needAccount hl x0 h0 x1 h1 M hM) bX11_needAccount xcl11 h0 rfl xq_141 rfl (by decide) rfl (by decide) dX11_cash_2 (Eq.refl 5) rfl (by decide) (by decide) ?_
  intro z1 M2 hz1 hM2
  refine xg_aload_n dX11_cash_5 (Eq.refl 6) rfl ?_
  refine xg_getR (k := 1) xcl11 h0 rfl xq_18 rfl (xt_11_1 h0).1 dX11_cash_6 (Eq.refl 9) ?_
  refine xg_iload_n dX11_cash_9 (Eq.refl 10) rfl ?_
  refine xg_callV_R (cr := 0) (kc := 0) (ks := 0) (st := []) (mX1_account hl (xr x0 1) (xt_11_1 h0).2 x1 h1 M2 hM2) bX1_account xcl1 (xt_11_1 h0).2 rfl xq_158 rfl (by decide) rfl (by decide) dX11_cash_10 (Eq.refl 13) rfl (by decide) (by decide) ?_
  intro z3 M4 hz3 hM4
  refine xg_getJ (k := 5) xcl0 hz3 rfl xq_139 rfl dX11_cash_13 (Eq.refl 16) ?_
  exact xg_lret rfl dX11_cash_16 rfl hM4 (hM4.J hz3 rfl)
abbrev uX11_pledged : xU := (RX11, cX11_pledged, 2, (some .long), [], "pledged")
theorem bX11_pledged : xYV yX11_pledged cX11_pledged 2 (some .long) 1 := ⟨xq_213, xq_214, xq_2, xq_215, ⟨by decide +kernel, by decide +kernel, by decide +kernel⟩, by decide⟩
theorem mX11_pledged {l : Launch} {G : xG} (hl : l.stackTraces = false) (x0 : Nat) (h0 : xOb 11 x0) (x1 : Int) (h1 : R32 x1) (M : xM) (hM : xcan M) : Cm l G yX11_pledged cX11_pledged 2 (some .long) 3 2 1 6 [.ref x0, iv x1] M (fX11_pledged x0 x1 M) := by
  refine xcm_of (u := uX11_pledged) (ls := [some (.ref x0), some (iv x1)]) 0 hl rfl (by decide +kernel) (Nat.le_of_ble_eq_true rfl) rfl ?_
  unfold fX11_pledged
  refine xg_aload_n dX11_pledged_0 (Eq.refl 1) rfl ?_
  refine xg_iload_n dX11_pledged_1 (Eq.refl 2) rfl ?_
  refine xg_callV_N (kc := 0) (ks := 0) (st := []) (mX11_needAccount hl x0 h0 x1 h1 M hM) bX11_needAccount xcl11 h0 rfl xq_141 rfl (by decide) rfl (by decide) dX11_pledged_2 (Eq.refl 5) rfl (by decide) (by decide) ?_
  intro z1 M2 hz1 hM2
  refine xg_aload_n dX11_pledged_5 (Eq.refl 6) rfl ?_
  refine xg_getR (k := 1) xcl11 h0 rfl xq_18 rfl (xt_11_1 h0).1 dX11_pledged_6 (Eq.refl 9) ?_
  refine xg_iload_n dX11_pledged_9 (Eq.refl 10) rfl ?_
  refine xg_callV_R (cr := 0) (kc := 0) (ks := 0) (st := []) (mX1_account hl (xr x0 1) (xt_11_1 h0).2 x1 h1 M2 hM2) bX1_account xcl1 (xt_11_1 h0).2 rfl xq_158 rfl (by decide) rfl (by decide) dX11_pledged_10 (Eq.refl 13) rfl (by decide) (by decide) ?_
  intro z3 M4 hz3 hM4
  refine xg_getJ (k := 6) xcl0 hz3 rfl xq_216 rfl dX11_pledged_13 (Eq.refl 16) ?_
  exact xg_lret rfl dX11_pledged_16 rfl hM4 (hM4.J hz3 rfl)
abbrev uX11_limit : xU := (RX11, cX11_limit, 2, (some .long), [], "limit")
theorem bX11_limit : xYV yX11_limit cX11_limit 2 (some .long) 1 := ⟨xq_1003, xq_1004, xq_2, xq_1005, ⟨by decide +kernel, by decide +kernel, by decide +kernel⟩, by decide⟩
theorem mX11_limit {l : Launch} {G : xG} (hl : l.stackTraces = false) (x0 : Nat) (h0 : xOb 11 x0) (x1 : Int) (h1 : R32 x1) (M : xM) (hM : xcan M) : Cm l G yX11_limit cX11_limit 2 (some .long) 3 2 1 6 [.ref x0, iv x1] M (fX11_limit x0 x1 M) := by
  refine xcm_of (u := uX11_limit) (ls := [some (.ref x0), some (iv x1)]) 0 hl rfl (by decide +kernel) (Nat.le_of_ble_eq_true rfl) rfl ?_
  unfold fX11_limit
  refine xg_aload_n dX11_limit_0 (Eq.refl 1) rfl ?_
  refine xg_iload_n dX11_limit_1 (Eq.refl 2) rfl ?_
  refine xg_callV_N (kc := 0) (ks := 0) (st := []) (mX11_needAccount hl x0 h0 x1 h1 M hM) bX11_needAccount xcl11 h0 rfl xq_141 rfl (by decide) rfl (by decide) dX11_limit_2 (Eq.refl 5) rfl (by decide) (by decide) ?_
  intro z1 M2 hz1 hM2
  refine xg_aload_n dX11_limit_5 (Eq.refl 6) rfl ?_
  refine xg_getR (k := 1) xcl11 h0 rfl xq_18 rfl (xt_11_1 h0).1 dX11_limit_6 (Eq.refl 9) ?_
  refine xg_aload_n dX11_limit_9 (Eq.refl 10) rfl ?_
  refine xg_getR (k := 1) xcl11 h0 rfl xq_18 rfl (xt_11_1 h0).1 dX11_limit_10 (Eq.refl 13) ?_
  refine xg_iload_n dX11_limit_13 (Eq.refl 14) rfl ?_
  refine xg_callV_R (cr := 0) (kc := 0) (ks := 0) (st := [.ref (xr x0 1)]) (mX1_account hl (xr x0 1) (xt_11_1 h0).2 x1 h1 M2 hM2) bX1_account xcl1 (xt_11_1 h0).2 rfl xq_158 rfl (by decide) rfl (Nat.le_of_ble_eq_true rfl) dX11_limit_14 (Eq.refl 17) rfl (by decide) (by decide) ?_
  intro z3 M4 hz3 hM4
  refine xg_callV_J (kc := 0) (ks := 0) (st := []) (mX1_limitOf hl (xr x0 1) (xt_11_1 h0).2 z3.toNat hz3 M4 hM4) bX1_limitOf xcl1 (xt_11_1 h0).2 rfl xq_1006 rfl (by decide) rfl (by decide) dX11_limit_17 (Eq.refl 20) rfl (by decide) (by decide) ?_
  intro z5 M6 hz5 hM6
  exact xg_lret rfl dX11_limit_20 rfl hM6 hz5
abbrev uX11_isSound : xU := (RX11, cX11_isSound, 2, (some .boolean), [], "isSound")
theorem bX11_isSound : xYV yX11_isSound cX11_isSound 2 (some .boolean) 1 := ⟨xq_1008, xq_1009, xq_2, xq_1010, ⟨by decide +kernel, by decide +kernel, by decide +kernel⟩, by decide⟩
theorem mX11_isSound {l : Launch} {G : xG} (hl : l.stackTraces = false) (x0 : Nat) (h0 : xOb 11 x0) (x1 : Int) (h1 : R32 x1) (M : xM) (hM : xcan M) : Cm l G yX11_isSound cX11_isSound 2 (some .boolean) 4 1 1 6 [.ref x0, iv x1] M (fX11_isSound x0 x1 M) := by
  refine xcm_of (u := uX11_isSound) (ls := [some (.ref x0), some (iv x1)]) 0 hl rfl (by decide +kernel) (Nat.le_of_ble_eq_true rfl) rfl ?_
  unfold fX11_isSound
  refine xg_aload_n dX11_isSound_0 (Eq.refl 1) rfl ?_
  refine xg_iload_n dX11_isSound_1 (Eq.refl 2) rfl ?_
  refine xg_callV_N (kc := 0) (ks := 0) (st := []) (mX11_needAccount hl x0 h0 x1 h1 M hM) bX11_needAccount xcl11 h0 rfl xq_141 rfl (by decide) rfl (by decide) dX11_isSound_2 (Eq.refl 5) rfl (by decide) (by decide) ?_
  intro z1 M2 hz1 hM2
  refine xg_aload_n dX11_isSound_5 (Eq.refl 6) rfl ?_
  refine xg_getR (k := 1) xcl11 h0 rfl xq_18 rfl (xt_11_1 h0).1 dX11_isSound_6 (Eq.refl 9) ?_
  refine xg_iload_n dX11_isSound_9 (Eq.refl 10) rfl ?_
  refine xg_callV_Z (kc := 0) (ks := 0) (st := []) (mX1_isFirm hl (xr x0 1) (xt_11_1 h0).2 x1 h1 M2 hM2) bX1_isFirm xcl1 (xt_11_1 h0).2 rfl xq_1011 rfl (by decide) rfl (by decide) dX11_isSound_10 (Eq.refl 13) rfl (by decide) (by decide) ?_
  intro z3 M4 hz3 hM4
  exact xg_zret rfl dX11_isSound_13 rfl hM4 hz3
abbrev uX11_used : xU := (RX11, cX11_used, 9, (some .double), [], "used")
theorem bX11_used : xYV yX11_used cX11_used 9 (some .double) 1 := ⟨xq_1013, xq_1014, xq_2, xq_1015, ⟨by decide +kernel, by decide +kernel, by decide +kernel⟩, by decide⟩
theorem mX11_used {l : Launch} {G : xG} (hl : l.stackTraces = false) (x0 : Nat) (h0 : xOb 11 x0) (x1 : Int) (h1 : R32 x1) (M : xM) (hM : xcan M) : Cm l G yX11_used cX11_used 9 (some .double) 3 4 1 6 [.ref x0, iv x1] M (fX11_used x0 x1 M) := by
  refine xcm_of (u := uX11_used) (ls := [some (.ref x0), some (iv x1), none, none, none, none, none, none, none]) 7 hl rfl (by decide +kernel) (Nat.le_of_ble_eq_true rfl) rfl ?_
  unfold fX11_used
  refine xg_aload_n dX11_used_0 (Eq.refl 1) rfl ?_
  refine xg_iload_n dX11_used_1 (Eq.refl 2) rfl ?_
  refine xg_callV_N (kc := 0) (ks := 0) (st := []) (mX11_needAccount hl x0 h0 x1 h1 M hM) bX11_needAccount xcl11 h0 rfl xq_141 rfl (by decide) rfl (by decide) dX11_used_2 (Eq.refl 5) rfl (by decide) (by decide) ?_
  intro z1 M2 hz1 hM2
  refine xg_aload_n dX11_used_5 (Eq.refl 6) rfl ?_
  refine xg_getR (k := 1) xcl11 h0 rfl xq_18 rfl (xt_11_1 h0).1 dX11_used_6 (Eq.refl 9) ?_
  refine xg_iload_n dX11_used_9 (Eq.refl 10) rfl ?_
  refine xg_callV_R (cr := 0) (kc := 0) (ks := 0) (st := []) (mX1_account hl (xr x0 1) (xt_11_1 h0).2 x1 h1 M2 hM2) bX1_account xcl1 (xt_11_1 h0).2 rfl xq_158 rfl (by decide) rfl (by decide) dX11_used_10 (Eq.refl 13) rfl (by decide) (by decide) ?_
  intro z3 M4 hz3 hM4
  refine xg_astore_n (ls2 := [some (.ref x0), some (iv x1), some (.ref z3.toNat), none, none, none, none, none, none]) dX11_used_13 (Eq.refl 14) (by decide) rfl ?_
  refine xg_aload_n dX11_used_14 (Eq.refl 15) rfl ?_
  refine xg_callV_J (kc := 0) (ks := 0) (st := []) (mX0_freeCash hl z3.toNat hz3 M4 hM4) bX0_freeCash xcl0 hz3 rfl xq_1017 rfl (by decide) rfl (by decide) dX11_used_15 (Eq.refl 18) rfl (by decide) (by decide) ?_
  intro z5 M6 hz5 hM6
  refine xg_lstore_n (ls2 := [some (.ref x0), some (iv x1), some (.ref z3.toNat), some (jv z5), none, none, none, none, none]) dX11_used_18 (Eq.refl 19) (by decide) rfl ?_
  refine xg_lload_n dX11_used_19 (Eq.refl 20) rfl ?_
  refine xg_lconst (z := 0) dX11_used_20 (Eq.refl 21) rfl ?_
  refine xg_lif_lt (tgt := 27) dX11_used_21 (Eq.refl 22) dX11_used_22 (Eq.refl 25) (by decide) hz5 (by decide) ?_ ?_
  · refine xg_aload_n dX11_used_27 (Eq.refl 28) rfl ?_
    refine xg_getR (k := 1) xcl11 h0 rfl xq_18 rfl (xt_11_1 h0).1 dX11_used_28 (Eq.refl 31) ?_
    refine xg_aload_n dX11_used_31 (Eq.refl 32) rfl ?_
    refine xg_callV_J (kc := 0) (ks := 0) (st := []) (mX1_limitOf hl (xr x0 1) (xt_11_1 h0).2 z3.toNat hz3 M6 hM6) bX1_limitOf xcl1 (xt_11_1 h0).2 rfl xq_1006 rfl (by decide) rfl (by decide) dX11_used_32 (Eq.refl 35) rfl (by decide) (by decide) ?_
    intro z7 M8 hz7 hM8
    refine xg_lstore (ls2 := [some (.ref x0), some (iv x1), some (.ref z3.toNat), some (jv z5), none, some (jv z7), none, none, none]) dX11_used_35 (Eq.refl 37) (by decide) rfl ?_
    refine xg_lload dX11_used_37 (Eq.refl 39) rfl ?_
    refine xg_lconst (z := 0) dX11_used_39 (Eq.refl 40) rfl ?_
    refine xg_lif_ne (tgt := 55) dX11_used_40 (Eq.refl 41) dX11_used_41 (Eq.refl 44) (by decide) hz7 (by decide) ?_ ?_
    · refine xg_ldc2d xq_1016 dX11_used_44 (Eq.refl 47) ?_
      refine xg_dstore (ls2 := [some (.ref x0), some (iv x1), some (.ref z3.toNat), some (jv z5), none, some (jv z7), none, some (.double (9094988921128908188 : UInt64)), none]) dX11_used_47 (Eq.refl 49) (by decide) rfl ?_
      refine xg_dload dX11_used_49 (Eq.refl 51) rfl ?_
      refine xg_dload dX11_used_51 (Eq.refl 53) rfl ?_
      refine xg_dmul dX11_used_53 (Eq.refl 54) ?_
      exact xg_dret rfl dX11_used_54 rfl hM8
    · refine xg_lload_n dX11_used_55 (Eq.refl 56) rfl ?_
      refine xg_lneg dX11_used_56 (Eq.refl 57) ?_
      refine xg_l2d dX11_used_57 (Eq.refl 58) ?_
      refine xg_lload dX11_used_58 (Eq.refl 60) rfl ?_
      refine xg_l2d dX11_used_60 (Eq.refl 61) ?_
      refine xg_ddiv dX11_used_61 (Eq.refl 62) ?_
      exact xg_dret rfl dX11_used_62 rfl hM8
  · refine xg_dconst0 dX11_used_25 (Eq.refl 26) ?_
    exact xg_dret rfl dX11_used_26 rfl hM6
abbrev uX11_ledger : xU := (RX11, cX11_ledger, 2, (some .long), [], "ledger")
theorem bX11_ledger : xYV yX11_ledger cX11_ledger 2 (some .long) 1 := ⟨xq_208, xq_209, xq_2, xq_210, ⟨by decide +kernel, by decide +kernel, by decide +kernel⟩, by decide⟩
theorem mX11_ledger {l : Launch} {G : xG} (hl : l.stackTraces = false) (x0 : Nat) (h0 : xOb 11 x0) (x1 : Int) (h1 : R32 x1) (M : xM) (hM : xcan M) : Cm l G yX11_ledger cX11_ledger 2 (some .long) 3 2 1 6 [.ref x0, iv x1] M (fX11_ledger x0 x1 M) := by
  refine xcm_of (u := uX11_ledger) (ls := [some (.ref x0), some (iv x1)]) 0 hl rfl (by decide +kernel) (Nat.le_of_ble_eq_true rfl) rfl ?_
  unfold fX11_ledger
  refine xg_aload_n dX11_ledger_0 (Eq.refl 1) rfl ?_
  refine xg_iload_n dX11_ledger_1 (Eq.refl 2) rfl ?_
  refine xg_callV_N (kc := 0) (ks := 0) (st := []) (mX11_needAccount hl x0 h0 x1 h1 M hM) bX11_needAccount xcl11 h0 rfl xq_141 rfl (by decide) rfl (by decide) dX11_ledger_2 (Eq.refl 5) rfl (by decide) (by decide) ?_
  intro z1 M2 hz1 hM2
  refine xg_aload_n dX11_ledger_5 (Eq.refl 6) rfl ?_
  refine xg_getR (k := 1) xcl11 h0 rfl xq_18 rfl (xt_11_1 h0).1 dX11_ledger_6 (Eq.refl 9) ?_
  refine xg_iload_n dX11_ledger_9 (Eq.refl 10) rfl ?_
  refine xg_callV_R (cr := 0) (kc := 0) (ks := 0) (st := []) (mX1_account hl (xr x0 1) (xt_11_1 h0).2 x1 h1 M2 hM2) bX1_account xcl1 (xt_11_1 h0).2 rfl xq_158 rfl (by decide) rfl (by decide) dX11_ledger_10 (Eq.refl 13) rfl (by decide) (by decide) ?_
  intro z3 M4 hz3 hM4
  refine xg_getJ (k := 8) xcl0 hz3 rfl xq_211 rfl dX11_ledger_13 (Eq.refl 16) ?_
  exact xg_lret rfl dX11_ledger_16 rfl hM4 (hM4.J hz3 rfl)
abbrev uX11_status : xU := (RX11, cX11_status, 2, (some .int), [], "status")
theorem bX11_status : xYV yX11_status cX11_status 2 (some .int) 1 := ⟨xq_238, xq_239, xq_2, xq_240, ⟨by decide +kernel, by decide +kernel, by decide +kernel⟩, by decide⟩
theorem mX11_status {l : Launch} {G : xG} (hl : l.stackTraces = false) (x0 : Nat) (h0 : xOb 11 x0) (x1 : Int) (h1 : R32 x1) (M : xM) (hM : xcan M) : Cm l G yX11_status cX11_status 2 (some .int) 3 0 1 6 [.ref x0, iv x1] M (fX11_status x0 x1 M) := by
  refine xcm_of (u := uX11_status) (ls := [some (.ref x0), some (iv x1)]) 0 hl rfl (by decide +kernel) (Nat.le_of_ble_eq_true rfl) rfl ?_
  unfold fX11_status
  refine xg_aload_n dX11_status_0 (Eq.refl 1) rfl ?_
  refine xg_iload_n dX11_status_1 (Eq.refl 2) rfl ?_
  refine xg_callV_N (kc := 0) (ks := 0) (st := []) (mX11_needInstruction hl x0 h0 x1 h1 M hM) bX11_needInstruction xcl11 h0 rfl xq_242 rfl (by decide) rfl (by decide) dX11_status_2 (Eq.refl 5) rfl (by decide) (by decide) ?_
  intro z1 M2 hz1 hM2
  refine xg_aload_n dX11_status_5 (Eq.refl 6) rfl ?_
  refine xg_getR (k := 1) xcl11 h0 rfl xq_18 rfl (xt_11_1 h0).1 dX11_status_6 (Eq.refl 9) ?_
  refine xg_iload_n dX11_status_9 (Eq.refl 10) rfl ?_
  refine xg_callV_R (cr := 5) (kc := 0) (ks := 0) (st := []) (mX1_instruction hl (xr x0 1) (xt_11_1 h0).2 x1 h1 M2 hM2) bX1_instruction xcl1 (xt_11_1 h0).2 rfl xq_247 rfl (by decide) rfl (by decide) dX11_status_10 (Eq.refl 13) rfl (by decide) (by decide) ?_
  intro z3 M4 hz3 hM4
  refine xg_getI (k := 9) xcl5 hz3 rfl xq_241 rfl dX11_status_13 (Eq.refl 16) ?_
  exact xg_iret rfl dX11_status_16 rfl hM4 (hM4.I hz3 rfl)
abbrev uX11_tradeOf : xU := (RX11, cX11_tradeOf, 2, (some .int), [], "tradeOf")
theorem bX11_tradeOf : xYV yX11_tradeOf cX11_tradeOf 2 (some .int) 1 := ⟨xq_504, xq_505, xq_2, xq_506, ⟨by decide +kernel, by decide +kernel, by decide +kernel⟩, by decide⟩
theorem mX11_tradeOf {l : Launch} {G : xG} (hl : l.stackTraces = false) (x0 : Nat) (h0 : xOb 11 x0) (x1 : Int) (h1 : R32 x1) (M : xM) (hM : xcan M) : Cm l G yX11_tradeOf cX11_tradeOf 2 (some .int) 3 0 1 6 [.ref x0, iv x1] M (fX11_tradeOf x0 x1 M) := by
  refine xcm_of (u := uX11_tradeOf) (ls := [some (.ref x0), some (iv x1)]) 0 hl rfl (by decide +kernel) (Nat.le_of_ble_eq_true rfl) rfl ?_
  unfold fX11_tradeOf
  refine xg_aload_n dX11_tradeOf_0 (Eq.refl 1) rfl ?_
  refine xg_iload_n dX11_tradeOf_1 (Eq.refl 2) rfl ?_
  refine xg_callV_N (kc := 0) (ks := 0) (st := []) (mX11_needInstruction hl x0 h0 x1 h1 M hM) bX11_needInstruction xcl11 h0 rfl xq_242 rfl (by decide) rfl (by decide) dX11_tradeOf_2 (Eq.refl 5) rfl (by decide) (by decide) ?_
  intro z1 M2 hz1 hM2
  refine xg_aload_n dX11_tradeOf_5 (Eq.refl 6) rfl ?_
  refine xg_getR (k := 1) xcl11 h0 rfl xq_18 rfl (xt_11_1 h0).1 dX11_tradeOf_6 (Eq.refl 9) ?_
  refine xg_iload_n dX11_tradeOf_9 (Eq.refl 10) rfl ?_
  refine xg_callV_R (cr := 5) (kc := 0) (ks := 0) (st := []) (mX1_instruction hl (xr x0 1) (xt_11_1 h0).2 x1 h1 M2 hM2) bX1_instruction xcl1 (xt_11_1 h0).2 rfl xq_247 rfl (by decide) rfl (by decide) dX11_tradeOf_10 (Eq.refl 13) rfl (by decide) (by decide) ?_
  intro z3 M4 hz3 hM4
  refine xg_getI (k := 10) xcl5 hz3 rfl xq_507 rfl dX11_tradeOf_13 (Eq.refl 16) ?_
  exact xg_iret rfl dX11_tradeOf_16 rfl hM4 (hM4.I hz3 rfl)
abbrev uX11_tradeUnits : xU := (RX11, cX11_tradeUnits, 2, (some .long), [], "tradeUnits")
theorem bX11_tradeUnits : xYV yX11_tradeUnits cX11_tradeUnits 2 (some .long) 1 := ⟨xq_252, xq_253, xq_2, xq_254, ⟨by decide +kernel, by decide +kernel, by decide +kernel⟩, by decide⟩
theorem mX11_tradeUnits {l : Launch} {G : xG} (hl : l.stackTraces = false) (x0 : Nat) (h0 : xOb 11 x0) (x1 : Int) (h1 : R32 x1) (M : xM) (hM : xcan M) : Cm l G yX11_tradeUnits cX11_tradeUnits 2 (some .long) 3 2 1 6 [.ref x0, iv x1] M (fX11_tradeUnits x0 x1 M) := by
  refine xcm_of (u := uX11_tradeUnits) (ls := [some (.ref x0), some (iv x1)]) 0 hl rfl (by decide +kernel) (Nat.le_of_ble_eq_true rfl) rfl ?_
  unfold fX11_tradeUnits
  refine xg_aload_n dX11_tradeUnits_0 (Eq.refl 1) rfl ?_
  refine xg_iload_n dX11_tradeUnits_1 (Eq.refl 2) rfl ?_
  refine xg_callV_N (kc := 0) (ks := 0) (st := []) (mX11_needTrade hl x0 h0 x1 h1 M hM) bX11_needTrade xcl11 h0 rfl xq_256 rfl (by decide) rfl (by decide) dX11_tradeUnits_2 (Eq.refl 5) rfl (by decide) (by decide) ?_
  intro z1 M2 hz1 hM2
  refine xg_aload_n dX11_tradeUnits_5 (Eq.refl 6) rfl ?_
  refine xg_getR (k := 1) xcl11 h0 rfl xq_18 rfl (xt_11_1 h0).1 dX11_tradeUnits_6 (Eq.refl 9) ?_
  refine xg_iload_n dX11_tradeUnits_9 (Eq.refl 10) rfl ?_
  refine xg_callV_R (cr := 10) (kc := 0) (ks := 0) (st := []) (mX1_trade hl (xr x0 1) (xt_11_1 h0).2 x1 h1 M2 hM2) bX1_trade xcl1 (xt_11_1 h0).2 rfl xq_261 rfl (by decide) rfl (by decide) dX11_tradeUnits_10 (Eq.refl 13) rfl (by decide) (by decide) ?_
  intro z3 M4 hz3 hM4
  refine xg_getJ (k := 6) xcl10 hz3 rfl xq_255 rfl dX11_tradeUnits_13 (Eq.refl 16) ?_
  exact xg_lret rfl dX11_tradeUnits_16 rfl hM4 (hM4.J hz3 rfl)
abbrev uX11_tradeAmount : xU := (RX11, cX11_tradeAmount, 2, (some .long), [], "tradeAmount")
theorem bX11_tradeAmount : xYV yX11_tradeAmount cX11_tradeAmount 2 (some .long) 1 := ⟨xq_266, xq_267, xq_2, xq_268, ⟨by decide +kernel, by decide +kernel, by decide +kernel⟩, by decide⟩
theorem mX11_tradeAmount {l : Launch} {G : xG} (hl : l.stackTraces = false) (x0 : Nat) (h0 : xOb 11 x0) (x1 : Int) (h1 : R32 x1) (M : xM) (hM : xcan M) : Cm l G yX11_tradeAmount cX11_tradeAmount 2 (some .long) 3 2 1 6 [.ref x0, iv x1] M (fX11_tradeAmount x0 x1 M) := by
  refine xcm_of (u := uX11_tradeAmount) (ls := [some (.ref x0), some (iv x1)]) 0 hl rfl (by decide +kernel) (Nat.le_of_ble_eq_true rfl) rfl ?_
  unfold fX11_tradeAmount
  refine xg_aload_n dX11_tradeAmount_0 (Eq.refl 1) rfl ?_
  refine xg_iload_n dX11_tradeAmount_1 (Eq.refl 2) rfl ?_
  refine xg_callV_N (kc := 0) (ks := 0) (st := []) (mX11_needTrade hl x0 h0 x1 h1 M hM) bX11_needTrade xcl11 h0 rfl xq_256 rfl (by decide) rfl (by decide) dX11_tradeAmount_2 (Eq.refl 5) rfl (by decide) (by decide) ?_
  intro z1 M2 hz1 hM2
  refine xg_aload_n dX11_tradeAmount_5 (Eq.refl 6) rfl ?_
  refine xg_getR (k := 1) xcl11 h0 rfl xq_18 rfl (xt_11_1 h0).1 dX11_tradeAmount_6 (Eq.refl 9) ?_
  refine xg_iload_n dX11_tradeAmount_9 (Eq.refl 10) rfl ?_
  refine xg_callV_R (cr := 10) (kc := 0) (ks := 0) (st := []) (mX1_trade hl (xr x0 1) (xt_11_1 h0).2 x1 h1 M2 hM2) bX1_trade xcl1 (xt_11_1 h0).2 rfl xq_261 rfl (by decide) rfl (by decide) dX11_tradeAmount_10 (Eq.refl 13) rfl (by decide) (by decide) ?_
  intro z3 M4 hz3 hM4
  refine xg_getJ (k := 7) xcl10 hz3 rfl xq_269 rfl dX11_tradeAmount_13 (Eq.refl 16) ?_
  exact xg_lret rfl dX11_tradeAmount_16 rfl hM4 (hM4.J hz3 rfl)
abbrev uX11_causer : xU := (RX11, cX11_causer, 3, (some .int), [], "causer")
theorem bX11_causer : xYV yX11_causer cX11_causer 3 (some .int) 1 := ⟨xq_1034, xq_1035, xq_2, xq_1036, ⟨by decide +kernel, by decide +kernel, by decide +kernel⟩, by decide⟩
theorem mX11_causer {l : Launch} {G : xG} (hl : l.stackTraces = false) (x0 : Nat) (h0 : xOb 11 x0) (x1 : Int) (h1 : R32 x1) (M : xM) (hM : xcan M) : Cm l G yX11_causer cX11_causer 3 (some .int) 4 0 2 12 [.ref x0, iv x1] M (fX11_causer x0 x1 M) := by
  refine xcm_of (u := uX11_causer) (ls := [some (.ref x0), some (iv x1), none]) 1 hl rfl (by decide +kernel) (Nat.le_of_ble_eq_true rfl) rfl ?_
  unfold fX11_causer
  refine xg_aload_n dX11_causer_0 (Eq.refl 1) rfl ?_
  refine xg_iload_n dX11_causer_1 (Eq.refl 2) rfl ?_
  refine xg_callV_N (kc := 1) (ks := 6) (st := []) (mX11_needTrade hl x0 h0 x1 h1 M hM) bX11_needTrade xcl11 h0 rfl xq_256 rfl (by decide) rfl (by decide) dX11_causer_2 (Eq.refl 5) rfl (by decide) (by decide) ?_
  intro z1 M2 hz1 hM2
  refine xg_aload_n dX11_causer_5 (Eq.refl 6) rfl ?_
  refine xg_getR (k := 1) xcl11 h0 rfl xq_18 rfl (xt_11_1 h0).1 dX11_causer_6 (Eq.refl 9) ?_
  refine xg_iload_n dX11_causer_9 (Eq.refl 10) rfl ?_
  refine xg_callV_R (cr := 10) (kc := 1) (ks := 6) (st := []) (mX1_trade hl (xr x0 1) (xt_11_1 h0).2 x1 h1 M2 hM2) bX1_trade xcl1 (xt_11_1 h0).2 rfl xq_261 rfl (by decide) rfl (by decide) dX11_causer_10 (Eq.refl 13) rfl (by decide) (by decide) ?_
  intro z3 M4 hz3 hM4
  refine xg_astore_n (ls2 := [some (.ref x0), some (iv x1), some (.ref z3.toNat)]) dX11_causer_13 (Eq.refl 14) (by decide) rfl ?_
  refine xg_aload_n dX11_causer_14 (Eq.refl 15) rfl ?_
  refine xg_getR (k := 1) xcl11 h0 rfl xq_18 rfl (xt_11_1 h0).1 dX11_causer_15 (Eq.refl 18) ?_
  refine xg_aload_n dX11_causer_18 (Eq.refl 19) rfl ?_
  refine xg_callV_Z (kc := 1) (ks := 6) (st := []) (mX1_isDue hl (xr x0 1) (xt_11_1 h0).2 z3.toNat hz3 M4 hM4) bX1_isDue xcl1 (xt_11_1 h0).2 rfl xq_1037 rfl (by decide) rfl (by decide) dX11_causer_19 (Eq.refl 22) rfl (by decide) (by decide) ?_
  intro z5 M6 hz5 hM6
  refine xg_callS_N (kc := 0) (ks := 0) (st := []) (mX11_needState hl z5 hz5 M6 hM6) bX11_needState xq_162 rfl (by decide) rfl (by decide) dX11_causer_22 (Eq.refl 25) rfl (by decide) (by decide) ?_
  intro z7 M8 hz7 hM8
  refine xg_aload_n dX11_causer_25 (Eq.refl 26) rfl ?_
  refine xg_getR (k := 1) xcl11 h0 rfl xq_18 rfl (xt_11_1 h0).1 dX11_causer_26 (Eq.refl 29) ?_
  refine xg_aload_n dX11_causer_29 (Eq.refl 30) rfl ?_
  refine xg_callV_I (kc := 0) (ks := 0) (st := []) (mX1_causerOf hl (xr x0 1) (xt_11_1 h0).2 z3.toNat hz3 M8 hM8) bX1_causerOf xcl1 (xt_11_1 h0).2 rfl xq_1038 rfl (by decide) rfl (by decide) dX11_causer_30 (Eq.refl 33) rfl (by decide) (by decide) ?_
  intro z9 M10 hz9 hM10
  exact xg_iret rfl dX11_causer_33 rfl hM10 hz9
abbrev uX11_loans : xU := (RX11, cX11_loans, 1, (some .int), [], "loans")
theorem bX11_loans : xYV yX11_loans cX11_loans 1 (some .int) 0 := ⟨xq_276, xq_277, xq_2, xq_278, ⟨by decide +kernel, by decide +kernel, by decide +kernel⟩, by decide⟩
theorem mX11_loans {l : Launch} {G : xG} (hl : l.stackTraces = false) (x0 : Nat) (h0 : xOb 11 x0) (M : xM) (hM : xcan M) : Cm l G yX11_loans cX11_loans 1 (some .int) 1 0 0 0 [.ref x0] M (fX11_loans x0 M) := by
  refine xcm_of (u := uX11_loans) (ls := [some (.ref x0)]) 0 hl rfl (by decide +kernel) (Nat.le_of_ble_eq_true rfl) rfl ?_
  unfold fX11_loans
  refine xg_aload_n dX11_loans_0 (Eq.refl 1) rfl ?_
  refine xg_getR (k := 1) xcl11 h0 rfl xq_18 rfl (xt_11_1 h0).1 dX11_loans_1 (Eq.refl 4) ?_
  refine xg_getI (k := 14) xcl1 (xt_11_1 h0).2 rfl xq_279 rfl dX11_loans_4 (Eq.refl 7) ?_
  exact xg_iret rfl dX11_loans_7 rfl hM (hM.I (xt_11_1 h0).2 rfl)
abbrev uL_cell : xU := (RL, cL_cell, 2, (some .int), [], "cell")
theorem bL_cell : xYS yL_cell cL_cell 2 (some .int) 2 := ⟨xq_116, xq_117, xq_118, ⟨by decide +kernel, by decide +kernel, by decide +kernel⟩, by decide⟩
theorem mL_cell {l : Launch} {G : xG} (hl : l.stackTraces = false) (sl : Nat) (sx : Nat → Int32) (hS : G.2.2.2.1.2 = (sl, sx)) (hsl : sl ≤ 2147483647) (x1 : Int) (h1 : R32 x1) (M : xM) (hM : xcan M) : Cm l G yL_cell cL_cell 2 (some .int) 1 0 0 0 [.ref xSCR, iv x1] M (fL_cell sl sx x1 M) := by
  refine xcm_of (u := uL_cell) (ls := [some (.ref xSCR), some (iv x1)]) 0 hl rfl (by decide +kernel) (Nat.le_of_ble_eq_true rfl) rfl ?_
  unfold fL_cell
  refine xg_iload_n dL_cell_0 (Eq.refl 1) rfl ?_
  refine xg_aload_n dL_cell_1 (Eq.refl 2) rfl ?_
  refine xg_slen hS dL_cell_2 (Eq.refl 3) ?_
  refine xg_icmp_ge (tgt := 12) dL_cell_3 (Eq.refl 6) (by decide) h1 (xsl_r hsl) ?_ ?_
  · refine xg_ldc (z := 2752637) xq_119 dL_cell_12 (Eq.refl 14) (by decide +kernel) ?_
    refine xg_iload_n dL_cell_14 (Eq.refl 15) rfl ?_
    refine xg_imul dL_cell_15 (Eq.refl 16) ?_
    refine xg_sipush dL_cell_16 (Eq.refl 19) (by decide +kernel) ?_
    refine xg_iadd dL_cell_19 (Eq.refl 20) ?_
    exact xg_iret rfl dL_cell_20 rfl hM (w32_r _)
  · refine xg_aload_n dL_cell_6 (Eq.refl 7) rfl ?_
    refine xg_iload_n dL_cell_7 (Eq.refl 8) rfl ?_
    refine xg_sld hS hsl dL_cell_8 (Eq.refl 9) ?_
    refine xg_goto (tgt := 20) dL_cell_9 (by decide) ?_
    exact xg_iret rfl dL_cell_20 rfl hM (xsx_r _)
abbrev uL_low : xU := (RL, cL_low, 2, (some .int), [], "low")
theorem bL_low : xYS yL_low cL_low 2 (some .int) 2 := ⟨xq_121, xq_117, xq_122, ⟨by decide +kernel, by decide +kernel, by decide +kernel⟩, by decide⟩
theorem mL_low {l : Launch} {G : xG} (hl : l.stackTraces = false) (x0 : Int) (h0 : R32 x0) (x1 : Int) (h1 : R32 x1) (M : xM) (hM : xcan M) : Cm l G yL_low cL_low 2 (some .int) 1 0 0 0 [iv x0, iv x1] M (fL_low x0 x1 M) := by
  refine xcm_of (u := uL_low) (ls := [some (iv x0), some (iv x1)]) 0 hl rfl (by decide +kernel) (Nat.le_of_ble_eq_true rfl) rfl ?_
  unfold fL_low
  refine xg_iload_n dL_low_0 (Eq.refl 1) rfl ?_
  refine xg_ldc (z := 2147483647) xq_123 dL_low_1 (Eq.refl 3) (by decide +kernel) ?_
  refine xg_iand dL_low_3 (Eq.refl 4) ?_
  refine xg_iload_n dL_low_4 (Eq.refl 5) rfl ?_
  refine xg_irem dL_low_5 (Eq.refl 6) (xand_r _ _) h1 ?_
  intro q1
  exact xg_iret rfl dL_low_6 rfl hM (xrm32_r ⟨q1, h1.2⟩)
abbrev uL_opens : xU := (RL, cL_opens, 7, (some .int), tableOf [(0, 11, 12, 15), (0, 11, 17, 17), (0, 11, 22, 19)], "opens")
theorem bL_opens : xYW yL_opens cL_opens 7 (some .int) [(0, 11, 12, 15), (0, 11, 17, 17), (0, 11, 22, 19)] 6 := ⟨xq_125, xq_117, xq_126, ⟨by decide +kernel, by decide +kernel, by decide +kernel⟩, by decide⟩
theorem mL_opens {l : Launch} {G : xG} (hl : l.stackTraces = false) (x0 : Nat) (h0 : xOb 11 x0) (x1 : Int) (h1 : R32 x1) (x2 : Int) (h2 : B01 x2) (x3 : Int) (h3 : R32 x3) (x4 : Int) (h4 : R32 x4) (x5 : Int) (h5 : R32 x5) (M : xM) (hM : xcan M) : CmW l G yL_opens cL_opens 7 (some .int) [(0, 11, 12, 15), (0, 11, 17, 17), (0, 11, 22, 19)] 4 0 6 36 [.ref x0, iv x1, iv x2, iv x3, iv x4, iv x5] M (fL_opens x0 x1 x2 x3 x4 x5 M) := by
  refine xcmw_of (u := uL_opens) (ls := [some (.ref x0), some (iv x1), some (iv x2), some (iv x3), some (iv x4), some (iv x5), none]) 1 hl rfl (by decide +kernel) (Nat.le_of_ble_eq_true rfl) rfl ?_
  unfold fL_opens
  refine xg_aload_n dL_opens_0 (Eq.refl 1) rfl ?_
  refine xg_iload_n dL_opens_1 (Eq.refl 2) rfl ?_
  refine xg_iload_n dL_opens_2 (Eq.refl 3) rfl ?_
  refine xg_iload_n dL_opens_3 (Eq.refl 4) rfl ?_
  refine xg_iload dL_opens_4 (Eq.refl 6) rfl ?_
  refine xg_iload dL_opens_6 (Eq.refl 8) rfl ?_
  refine xg_callVC_I (kc := 0) (ks := 0) (st := []) (mX11_open hl x0 h0 x1 h1 x2 h2 x3 h3 x4 h4 x5 h5 M hM) bX11_open xcl11 h0 rfl xq_130 rfl (by decide) (by decide) dL_opens_8 (Eq.refl 11) rfl (by omega) (by omega) ?_ ?_
  · intro z1 M2 hz1 hM2
    exact xg_iret rfl dL_opens_11 rfl hM2 hz1
  · intro e M3 he hM3
    have he3 : e = 0 ∨ e = 1 ∨ e = 2 := by omega
    rcases he3 with rfl | rfl | rfl
    · refine xgx_c0 ?_
      refine xgx_catch (pre := tableOf []) (suf := tableOf [(0, 11, 17, 17), (0, 11, 22, 19)]) (x := ⟨0, 11, 12, 15⟩) (j := 6) (ln := 2) rfl (fun z hz => by cases hz) (by decide) (by decide) (by decide) xq_127 (by decide) (Or.inl ⟨dL_opens_12, rfl⟩) ?_
      show Gv _ _ _ _ _ _ _ 14 _ _ _ _
      refine xg_bipush dL_opens_14 (Eq.refl 16) (by decide +kernel) ?_
      exact xg_iret rfl dL_opens_16 rfl hM3 (by decide)
    · refine xgx_c1 ?_
      refine xgx_catch (pre := tableOf [(0, 11, 12, 15)]) (suf := tableOf [(0, 11, 22, 19)]) (x := ⟨0, 11, 17, 17⟩) (j := 6) (ln := 2) rfl (xpass1 (by decide) 0 xq_127 (by decide)) (by decide) (by decide) (by decide) xq_128 (by decide) (Or.inl ⟨dL_opens_17, rfl⟩) ?_
      show Gv _ _ _ _ _ _ _ 19 _ _ _ _
      refine xg_bipush dL_opens_19 (Eq.refl 21) (by decide +kernel) ?_
      exact xg_iret rfl dL_opens_21 rfl hM3 (by decide)
    · refine xgx_c2 ?_
      refine xgx_catch (pre := tableOf [(0, 11, 12, 15), (0, 11, 17, 17)]) (suf := tableOf []) (x := ⟨0, 11, 22, 19⟩) (j := 6) (ln := 2) rfl (xpass2 (by decide) 0 xq_127 (by decide) (by decide) 1 xq_128 (by decide)) (by decide) (by decide) (by decide) xq_129 (by decide) (Or.inl ⟨dL_opens_22, rfl⟩) ?_
      show Gv _ _ _ _ _ _ _ 24 _ _ _ _
      refine xg_bipush dL_opens_24 (Eq.refl 26) (by decide +kernel) ?_
      exact xg_iret rfl dL_opens_26 rfl hM3 (by decide)
abbrev uL_issues : xU := (RL, cL_issues, 5, (some .int), tableOf [(0, 10, 11, 15), (0, 10, 16, 17), (0, 10, 21, 19)], "issues")
theorem bL_issues : xYW yL_issues cL_issues 5 (some .int) [(0, 10, 11, 15), (0, 10, 16, 17), (0, 10, 21, 19)] 4 := ⟨xq_173, xq_117, xq_174, ⟨by decide +kernel, by decide +kernel, by decide +kernel⟩, by decide⟩
theorem mL_issues {l : Launch} {G : xG} (hl : l.stackTraces = false) (x0 : Nat) (h0 : xOb 11 x0) (x1 : Int) (h1 : R32 x1) (x2 : Int) (h2 : R32 x2) (x3 : Int) (h3 : R32 x3) (M : xM) (hM : xcan M) : CmW l G yL_issues cL_issues 5 (some .int) [(0, 10, 11, 15), (0, 10, 16, 17), (0, 10, 21, 19)] 4 0 6 36 [.ref x0, iv x1, iv x2, iv x3] M (fL_issues x0 x1 x2 x3 M) := by
  refine xcmw_of (u := uL_issues) (ls := [some (.ref x0), some (iv x1), some (iv x2), some (iv x3), none]) 1 hl rfl (by decide +kernel) (Nat.le_of_ble_eq_true rfl) rfl ?_
  unfold fL_issues
  refine xg_aload_n dL_issues_0 (Eq.refl 1) rfl ?_
  refine xg_iload_n dL_issues_1 (Eq.refl 2) rfl ?_
  refine xg_iconst dL_issues_2 (Eq.refl 3) ?_
  refine xg_iload_n dL_issues_3 (Eq.refl 4) rfl ?_
  refine xg_iload_n dL_issues_4 (Eq.refl 5) rfl ?_
  refine xg_bipush dL_issues_5 (Eq.refl 7) (by decide +kernel) ?_
  refine xg_callVC_I (kc := 0) (ks := 0) (st := []) (mX11_issue hl x0 h0 x1 h1 0 (by decide) x2 h2 x3 h3 100 (by decide) M hM) bX11_issue xcl11 h0 rfl xq_175 rfl (by decide) (by decide) dL_issues_7 (Eq.refl 10) rfl (by omega) (by omega) ?_ ?_
  · intro z1 M2 hz1 hM2
    exact xg_iret rfl dL_issues_10 rfl hM2 hz1
  · intro e M3 he hM3
    have he3 : e = 0 ∨ e = 1 ∨ e = 2 := by omega
    rcases he3 with rfl | rfl | rfl
    · refine xgx_c0 ?_
      refine xgx_catch (pre := tableOf []) (suf := tableOf [(0, 10, 16, 17), (0, 10, 21, 19)]) (x := ⟨0, 10, 11, 15⟩) (j := 4) (ln := 2) rfl (fun z hz => by cases hz) (by decide) (by decide) (by decide) xq_127 (by decide) (Or.inl ⟨dL_issues_11, rfl⟩) ?_
      show Gv _ _ _ _ _ _ _ 13 _ _ _ _
      refine xg_bipush dL_issues_13 (Eq.refl 15) (by decide +kernel) ?_
      exact xg_iret rfl dL_issues_15 rfl hM3 (by decide)
    · refine xgx_c1 ?_
      refine xgx_catch (pre := tableOf [(0, 10, 11, 15)]) (suf := tableOf [(0, 10, 21, 19)]) (x := ⟨0, 10, 16, 17⟩) (j := 4) (ln := 2) rfl (xpass1 (by decide) 0 xq_127 (by decide)) (by decide) (by decide) (by decide) xq_128 (by decide) (Or.inl ⟨dL_issues_16, rfl⟩) ?_
      show Gv _ _ _ _ _ _ _ 18 _ _ _ _
      refine xg_bipush dL_issues_18 (Eq.refl 20) (by decide +kernel) ?_
      exact xg_iret rfl dL_issues_20 rfl hM3 (by decide)
    · refine xgx_c2 ?_
      refine xgx_catch (pre := tableOf [(0, 10, 11, 15), (0, 10, 16, 17)]) (suf := tableOf []) (x := ⟨0, 10, 21, 19⟩) (j := 4) (ln := 2) rfl (xpass2 (by decide) 0 xq_127 (by decide) (by decide) 1 xq_128 (by decide)) (by decide) (by decide) (by decide) xq_129 (by decide) (Or.inl ⟨dL_issues_21, rfl⟩) ?_
      show Gv _ _ _ _ _ _ _ 23 _ _ _ _
      refine xg_bipush dL_issues_23 (Eq.refl 25) (by decide +kernel) ?_
      exact xg_iret rfl dL_issues_25 rfl hM3 (by decide)
abbrev uL_blocks : xU := (RL, cL_blocks, 5, (some .long), tableOf [(0, 7, 8, 15), (0, 7, 14, 17), (0, 7, 20, 19)], "blocks")
theorem bL_blocks : xYW yL_blocks cL_blocks 5 (some .long) [(0, 7, 8, 15), (0, 7, 14, 17), (0, 7, 20, 19)] 4 := ⟨xq_509, xq_117, xq_510, ⟨by decide +kernel, by decide +kernel, by decide +kernel⟩, by decide⟩
theorem mL_blocks {l : Launch} {G : xG} (hl : l.stackTraces = false) (x0 : Nat) (h0 : xOb 11 x0) (x1 : Int) (h1 : R32 x1) (x2 : Int) (h2 : R32 x2) (x3 : Int) (h3 : R32 x3) (M : xM) (hM : xcan M) : CmW l G yL_blocks cL_blocks 5 (some .long) [(0, 7, 8, 15), (0, 7, 14, 17), (0, 7, 20, 19)] 4 2 4 24 [.ref x0, iv x1, iv x2, iv x3] M (fL_blocks x0 x1 x2 x3 M) := by
  refine xcmw_of (u := uL_blocks) (ls := [some (.ref x0), some (iv x1), some (iv x2), some (iv x3), none]) 1 hl rfl (by decide +kernel) (Nat.le_of_ble_eq_true rfl) rfl ?_
  unfold fL_blocks
  refine xg_aload_n dL_blocks_0 (Eq.refl 1) rfl ?_
  refine xg_iload_n dL_blocks_1 (Eq.refl 2) rfl ?_
  refine xg_iload_n dL_blocks_2 (Eq.refl 3) rfl ?_
  refine xg_iload_n dL_blocks_3 (Eq.refl 4) rfl ?_
  refine xg_callVC_J (kc := 0) (ks := 0) (st := []) (mX11_block hl x0 h0 x1 h1 x2 h2 x3 h3 M hM) bX11_block xcl11 h0 rfl xq_513 rfl (by decide) (by decide) dL_blocks_4 (Eq.refl 7) rfl (by omega) (by omega) ?_ ?_
  · intro z1 M2 hz1 hM2
    exact xg_lret rfl dL_blocks_7 rfl hM2 hz1
  · intro e M3 he hM3
    have he3 : e = 0 ∨ e = 1 ∨ e = 2 := by omega
    rcases he3 with rfl | rfl | rfl
    · refine xgx_c0 ?_
      refine xgx_catch (pre := tableOf []) (suf := tableOf [(0, 7, 14, 17), (0, 7, 20, 19)]) (x := ⟨0, 7, 8, 15⟩) (j := 4) (ln := 2) rfl (fun z hz => by cases hz) (by decide) (by decide) (by decide) xq_127 (by decide) (Or.inl ⟨dL_blocks_8, rfl⟩) ?_
      show Gv _ _ _ _ _ _ _ 10 _ _ _ _
      refine xg_ldc2 (z := (-2)) xq_4 dL_blocks_10 (Eq.refl 13) (by decide +kernel) ?_
      exact xg_lret rfl dL_blocks_13 rfl hM3 (by decide)
    · refine xgx_c1 ?_
      refine xgx_catch (pre := tableOf [(0, 7, 8, 15)]) (suf := tableOf [(0, 7, 20, 19)]) (x := ⟨0, 7, 14, 17⟩) (j := 4) (ln := 2) rfl (xpass1 (by decide) 0 xq_127 (by decide)) (by decide) (by decide) (by decide) xq_128 (by decide) (Or.inl ⟨dL_blocks_14, rfl⟩) ?_
      show Gv _ _ _ _ _ _ _ 16 _ _ _ _
      refine xg_ldc2 (z := (-3)) xq_511 dL_blocks_16 (Eq.refl 19) (by decide +kernel) ?_
      exact xg_lret rfl dL_blocks_19 rfl hM3 (by decide)
    · refine xgx_c2 ?_
      refine xgx_catch (pre := tableOf [(0, 7, 8, 15), (0, 7, 14, 17)]) (suf := tableOf []) (x := ⟨0, 7, 20, 19⟩) (j := 4) (ln := 2) rfl (xpass2 (by decide) 0 xq_127 (by decide) (by decide) 1 xq_128 (by decide)) (by decide) (by decide) (by decide) xq_129 (by decide) (Or.inl ⟨dL_blocks_20, rfl⟩) ?_
      show Gv _ _ _ _ _ _ _ 22 _ _ _ _
      refine xg_ldc2 (z := (-4)) xq_512 dL_blocks_22 (Eq.refl 25) (by decide +kernel) ?_
      exact xg_lret rfl dL_blocks_25 rfl hM3 (by decide)
abbrev uL_instructs : xU := (RL, cL_instructs, 10, (some .int), tableOf [(0, 24, 25, 15), (0, 24, 30, 17), (0, 24, 35, 19)], "instructs")
theorem bL_instructs : xYW yL_instructs cL_instructs 10 (some .int) [(0, 24, 25, 15), (0, 24, 30, 17), (0, 24, 35, 19)] 9 := ⟨xq_431, xq_117, xq_432, ⟨by decide +kernel, by decide +kernel, by decide +kernel⟩, by decide⟩
theorem mL_instructs {l : Launch} {G : xG} (hl : l.stackTraces = false) (x0 : Nat) (h0 : xOb 11 x0) (x1 : Int) (h1 : R32 x1) (x2 : Int) (h2 : R32 x2) (x3 : Int) (h3 : B01 x3) (x4 : Int) (h4 : R32 x4) (x5 : Int) (h5 : R32 x5) (x6 : Int) (h6 : R32 x6) (x7 : Int) (h7 : R32 x7) (x8 : Int) (h8 : R32 x8) (M : xM) (hM : xcan M) : CmW l G yL_instructs cL_instructs 10 (some .int) [(0, 24, 25, 15), (0, 24, 30, 17), (0, 24, 35, 19)] 5 0 11 66 [.ref x0, iv x1, iv x2, iv x3, iv x4, iv x5, iv x6, iv x7, iv x8] M (fL_instructs x0 x1 x2 x3 x4 x5 x6 x7 x8 M) := by
  refine xcmw_of (u := uL_instructs) (ls := [some (.ref x0), some (iv x1), some (iv x2), some (iv x3), some (iv x4), some (iv x5), some (iv x6), some (iv x7), some (iv x8), none]) 1 hl rfl (by decide +kernel) (Nat.le_of_ble_eq_true rfl) rfl ?_
  unfold fL_instructs
  refine xg_aload_n dL_instructs_0 (Eq.refl 1) rfl ?_
  refine xg_iload_n dL_instructs_1 (Eq.refl 2) rfl ?_
  refine xg_iload_n dL_instructs_2 (Eq.refl 3) rfl ?_
  refine xg_iload_n dL_instructs_3 (Eq.refl 4) rfl ?_
  refine xg_iload dL_instructs_4 (Eq.refl 6) rfl ?_
  refine xg_iload dL_instructs_6 (Eq.refl 8) rfl ?_
  refine xg_iload dL_instructs_8 (Eq.refl 10) rfl ?_
  refine xg_iload dL_instructs_10 (Eq.refl 12) rfl ?_
  refine xg_iload dL_instructs_12 (Eq.refl 14) rfl ?_
  refine xg_bipush dL_instructs_14 (Eq.refl 16) (by decide +kernel) ?_
  refine xg_callSC_I (kx9 := fun _ _ => none) (kc := 11) (ks := 66) (st := [iv x7, iv x6, iv x5, iv x4, iv x3, iv x2, iv x1, .ref x0]) (mL_low hl x5 h5 10 (by decide) M hM) bL_low xq_120 rfl (by decide) (Nat.le_of_ble_eq_true rfl) dL_instructs_16 (Eq.refl 19) rfl (by omega) (by omega) ?_ xgx_nm
  intro z1 M2 hz1 hM2
  refine xg_iload dL_instructs_19 (Eq.refl 21) rfl ?_
  refine xg_callVC_I (kc := 0) (ks := 0) (st := []) (mX11_instruct hl x0 h0 x1 h1 x2 h2 x3 h3 x4 h4 x5 h5 x6 h6 x7 h7 z1 hz1 x8 h8 M2 hM2) bX11_instruct xcl11 h0 rfl xq_433 rfl (by decide) (by decide) dL_instructs_21 (Eq.refl 24) rfl (by omega) (by omega) ?_ ?_
  · intro z3 M4 hz3 hM4
    exact xg_iret rfl dL_instructs_24 rfl hM4 hz3
  · intro e M5 he hM5
    have he3 : e = 0 ∨ e = 1 ∨ e = 2 := by omega
    rcases he3 with rfl | rfl | rfl
    · refine xgx_c0 ?_
      refine xgx_catch (pre := tableOf []) (suf := tableOf [(0, 24, 30, 17), (0, 24, 35, 19)]) (x := ⟨0, 24, 25, 15⟩) (j := 9) (ln := 2) rfl (fun z hz => by cases hz) (by decide) (by decide) (by decide) xq_127 (by decide) (Or.inl ⟨dL_instructs_25, rfl⟩) ?_
      show Gv _ _ _ _ _ _ _ 27 _ _ _ _
      refine xg_bipush dL_instructs_27 (Eq.refl 29) (by decide +kernel) ?_
      exact xg_iret rfl dL_instructs_29 rfl hM5 (by decide)
    · refine xgx_c1 ?_
      refine xgx_catch (pre := tableOf [(0, 24, 25, 15)]) (suf := tableOf [(0, 24, 35, 19)]) (x := ⟨0, 24, 30, 17⟩) (j := 9) (ln := 2) rfl (xpass1 (by decide) 0 xq_127 (by decide)) (by decide) (by decide) (by decide) xq_128 (by decide) (Or.inl ⟨dL_instructs_30, rfl⟩) ?_
      show Gv _ _ _ _ _ _ _ 32 _ _ _ _
      refine xg_bipush dL_instructs_32 (Eq.refl 34) (by decide +kernel) ?_
      exact xg_iret rfl dL_instructs_34 rfl hM5 (by decide)
    · refine xgx_c2 ?_
      refine xgx_catch (pre := tableOf [(0, 24, 25, 15), (0, 24, 30, 17)]) (suf := tableOf []) (x := ⟨0, 24, 35, 19⟩) (j := 9) (ln := 2) rfl (xpass2 (by decide) 0 xq_127 (by decide) (by decide) 1 xq_128 (by decide)) (by decide) (by decide) (by decide) xq_129 (by decide) (Or.inl ⟨dL_instructs_35, rfl⟩) ?_
      show Gv _ _ _ _ _ _ _ 37 _ _ _ _
      refine xg_bipush dL_instructs_37 (Eq.refl 39) (by decide +kernel) ?_
      exact xg_iret rfl dL_instructs_39 rfl hM5 (by decide)
abbrev uL_cancels : xU := (RL, cL_cancels, 3, (some .int), tableOf [(0, 13, 14, 15), (0, 13, 18, 19)], "cancels")
theorem bL_cancels : xYW yL_cancels cL_cancels 3 (some .int) [(0, 13, 14, 15), (0, 13, 18, 19)] 2 := ⟨xq_526, xq_117, xq_527, ⟨by decide +kernel, by decide +kernel, by decide +kernel⟩, by decide⟩
theorem mL_cancels {l : Launch} {G : xG} (hl : l.stackTraces = false) (x0 : Nat) (h0 : xOb 11 x0) (x1 : Int) (h1 : R32 x1) (M : xM) (hM : xcan M) : CmW l G yL_cancels cL_cancels 3 (some .int) [(0, 13, 14, 15), (0, 13, 18, 19)] 5 0 2 12 [.ref x0, iv x1] M (fL_cancels x0 x1 M) := by
  refine xcmw_of (u := uL_cancels) (ls := [some (.ref x0), some (iv x1), none]) 1 hl rfl (by decide +kernel) (Nat.le_of_ble_eq_true rfl) rfl ?_
  unfold fL_cancels
  refine xg_aload_n dL_cancels_0 (Eq.refl 1) rfl ?_
  refine xg_iload_n dL_cancels_1 (Eq.refl 2) rfl ?_
  refine xg_callVC_Z (kc := 0) (ks := 0) (st := []) (mX11_cancel hl x0 h0 x1 h1 M hM) bX11_cancel xcl11 h0 rfl xq_528 rfl (by decide) (by decide) dL_cancels_2 (Eq.refl 5) rfl (by omega) (by omega) ?_ ?_
  · intro z1 M2 hz1 hM2
    refine xg_if_eq (tgt := 12) dL_cancels_5 (Eq.refl 8) (by decide) (B01.r hz1) ?_ ?_
    · refine xg_iconst dL_cancels_12 (Eq.refl 13) ?_
      exact xg_iret rfl dL_cancels_13 rfl hM2 (by decide)
    · refine xg_iconst dL_cancels_8 (Eq.refl 9) ?_
      refine xg_goto (tgt := 13) dL_cancels_9 (by decide) ?_
      exact xg_iret rfl dL_cancels_13 rfl hM2 (by decide)
  · intro e M3 he hM3
    have he3 : e = 0 ∨ e = 1 ∨ e = 2 := by omega
    rcases he3 with rfl | rfl | rfl
    · refine xgx_c0 ?_
      refine xgx_catch (pre := tableOf []) (suf := tableOf [(0, 13, 18, 19)]) (x := ⟨0, 13, 14, 15⟩) (j := 2) (ln := 1) rfl (fun z hz => by cases hz) (by decide) (by decide) (by decide) xq_127 (by decide) (Or.inr ⟨2, rfl, dL_cancels_14, rfl⟩) ?_
      show Gv _ _ _ _ _ _ _ 15 _ _ _ _
      refine xg_bipush dL_cancels_15 (Eq.refl 17) (by decide +kernel) ?_
      exact xg_iret rfl dL_cancels_17 rfl hM3 (by decide)
    · exact xgx_none
    · refine xgx_c2 ?_
      refine xgx_catch (pre := tableOf [(0, 13, 14, 15)]) (suf := tableOf []) (x := ⟨0, 13, 18, 19⟩) (j := 2) (ln := 1) rfl (xpass1 (by decide) 0 xq_127 (by decide)) (by decide) (by decide) (by decide) xq_129 (by decide) (Or.inr ⟨2, rfl, dL_cancels_18, rfl⟩) ?_
      show Gv _ _ _ _ _ _ _ 19 _ _ _ _
      refine xg_bipush dL_cancels_19 (Eq.refl 21) (by decide +kernel) ?_
      exact xg_iret rfl dL_cancels_21 rfl hM3 (by decide)
abbrev uL_holds : xU := (RL, cL_holds, 3, (some .int), tableOf [(0, 13, 14, 15), (0, 13, 18, 19)], "holds")
theorem bL_holds : xYW yL_holds cL_holds 3 (some .int) [(0, 13, 14, 15), (0, 13, 18, 19)] 2 := ⟨xq_562, xq_117, xq_563, ⟨by decide +kernel, by decide +kernel, by decide +kernel⟩, by decide⟩
theorem mL_holds {l : Launch} {G : xG} (hl : l.stackTraces = false) (x0 : Nat) (h0 : xOb 11 x0) (x1 : Int) (h1 : R32 x1) (M : xM) (hM : xcan M) : CmW l G yL_holds cL_holds 3 (some .int) [(0, 13, 14, 15), (0, 13, 18, 19)] 4 0 2 12 [.ref x0, iv x1] M (fL_holds x0 x1 M) := by
  refine xcmw_of (u := uL_holds) (ls := [some (.ref x0), some (iv x1), none]) 1 hl rfl (by decide +kernel) (Nat.le_of_ble_eq_true rfl) rfl ?_
  unfold fL_holds
  refine xg_aload_n dL_holds_0 (Eq.refl 1) rfl ?_
  refine xg_iload_n dL_holds_1 (Eq.refl 2) rfl ?_
  refine xg_callVC_Z (kc := 0) (ks := 0) (st := []) (mX11_hold hl x0 h0 x1 h1 M hM) bX11_hold xcl11 h0 rfl xq_564 rfl (by decide) (by decide) dL_holds_2 (Eq.refl 5) rfl (by omega) (by omega) ?_ ?_
  · intro z1 M2 hz1 hM2
    refine xg_if_eq (tgt := 12) dL_holds_5 (Eq.refl 8) (by decide) (B01.r hz1) ?_ ?_
    · refine xg_iconst dL_holds_12 (Eq.refl 13) ?_
      exact xg_iret rfl dL_holds_13 rfl hM2 (by decide)
    · refine xg_iconst dL_holds_8 (Eq.refl 9) ?_
      refine xg_goto (tgt := 13) dL_holds_9 (by decide) ?_
      exact xg_iret rfl dL_holds_13 rfl hM2 (by decide)
  · intro e M3 he hM3
    have he3 : e = 0 ∨ e = 1 ∨ e = 2 := by omega
    rcases he3 with rfl | rfl | rfl
    · refine xgx_c0 ?_
      refine xgx_catch (pre := tableOf []) (suf := tableOf [(0, 13, 18, 19)]) (x := ⟨0, 13, 14, 15⟩) (j := 2) (ln := 1) rfl (fun z hz => by cases hz) (by decide) (by decide) (by decide) xq_127 (by decide) (Or.inr ⟨2, rfl, dL_holds_14, rfl⟩) ?_
      show Gv _ _ _ _ _ _ _ 15 _ _ _ _
      refine xg_bipush dL_holds_15 (Eq.refl 17) (by decide +kernel) ?_
      exact xg_iret rfl dL_holds_17 rfl hM3 (by decide)
    · exact xgx_none
    · refine xgx_c2 ?_
      refine xgx_catch (pre := tableOf [(0, 13, 14, 15)]) (suf := tableOf []) (x := ⟨0, 13, 18, 19⟩) (j := 2) (ln := 1) rfl (xpass1 (by decide) 0 xq_127 (by decide)) (by decide) (by decide) (by decide) xq_129 (by decide) (Or.inr ⟨2, rfl, dL_holds_18, rfl⟩) ?_
      show Gv _ _ _ _ _ _ _ 19 _ _ _ _
      refine xg_bipush dL_holds_19 (Eq.refl 21) (by decide +kernel) ?_
      exact xg_iret rfl dL_holds_21 rfl hM3 (by decide)
abbrev uL_links : xU := (RL, cL_links, 5, (some .int), tableOf [(0, 7, 8, 15), (0, 7, 13, 17), (0, 7, 18, 19)], "links")
theorem bL_links : xYW yL_links cL_links 5 (some .int) [(0, 7, 8, 15), (0, 7, 13, 17), (0, 7, 18, 19)] 4 := ⟨xq_570, xq_117, xq_571, ⟨by decide +kernel, by decide +kernel, by decide +kernel⟩, by decide⟩
theorem mL_links {l : Launch} {G : xG} (hl : l.stackTraces = false) (x0 : Nat) (h0 : xOb 11 x0) (x1 : Int) (h1 : R32 x1) (x2 : Int) (h2 : R32 x2) (x3 : Int) (h3 : B01 x3) (M : xM) (hM : xcan M) : CmW l G yL_links cL_links 5 (some .int) [(0, 7, 8, 15), (0, 7, 13, 17), (0, 7, 18, 19)] 4 0 5 30 [.ref x0, iv x1, iv x2, iv x3] M (fL_links x0 x1 x2 x3 M) := by
  refine xcmw_of (u := uL_links) (ls := [some (.ref x0), some (iv x1), some (iv x2), some (iv x3), none]) 1 hl rfl (by decide +kernel) (Nat.le_of_ble_eq_true rfl) rfl ?_
  unfold fL_links
  refine xg_aload_n dL_links_0 (Eq.refl 1) rfl ?_
  refine xg_iload_n dL_links_1 (Eq.refl 2) rfl ?_
  refine xg_iload_n dL_links_2 (Eq.refl 3) rfl ?_
  refine xg_iload_n dL_links_3 (Eq.refl 4) rfl ?_
  refine xg_callVC_I (kc := 0) (ks := 0) (st := []) (mX11_link hl x0 h0 x1 h1 x2 h2 x3 h3 M hM) bX11_link xcl11 h0 rfl xq_572 rfl (by decide) (by decide) dL_links_4 (Eq.refl 7) rfl (by omega) (by omega) ?_ ?_
  · intro z1 M2 hz1 hM2
    exact xg_iret rfl dL_links_7 rfl hM2 hz1
  · intro e M3 he hM3
    have he3 : e = 0 ∨ e = 1 ∨ e = 2 := by omega
    rcases he3 with rfl | rfl | rfl
    · refine xgx_c0 ?_
      refine xgx_catch (pre := tableOf []) (suf := tableOf [(0, 7, 13, 17), (0, 7, 18, 19)]) (x := ⟨0, 7, 8, 15⟩) (j := 4) (ln := 2) rfl (fun z hz => by cases hz) (by decide) (by decide) (by decide) xq_127 (by decide) (Or.inl ⟨dL_links_8, rfl⟩) ?_
      show Gv _ _ _ _ _ _ _ 10 _ _ _ _
      refine xg_bipush dL_links_10 (Eq.refl 12) (by decide +kernel) ?_
      exact xg_iret rfl dL_links_12 rfl hM3 (by decide)
    · refine xgx_c1 ?_
      refine xgx_catch (pre := tableOf [(0, 7, 8, 15)]) (suf := tableOf [(0, 7, 18, 19)]) (x := ⟨0, 7, 13, 17⟩) (j := 4) (ln := 2) rfl (xpass1 (by decide) 0 xq_127 (by decide)) (by decide) (by decide) (by decide) xq_128 (by decide) (Or.inl ⟨dL_links_13, rfl⟩) ?_
      show Gv _ _ _ _ _ _ _ 15 _ _ _ _
      refine xg_bipush dL_links_15 (Eq.refl 17) (by decide +kernel) ?_
      exact xg_iret rfl dL_links_17 rfl hM3 (by decide)
    · refine xgx_c2 ?_
      refine xgx_catch (pre := tableOf [(0, 7, 8, 15), (0, 7, 13, 17)]) (suf := tableOf []) (x := ⟨0, 7, 18, 19⟩) (j := 4) (ln := 2) rfl (xpass2 (by decide) 0 xq_127 (by decide) (by decide) 1 xq_128 (by decide)) (by decide) (by decide) (by decide) xq_129 (by decide) (Or.inl ⟨dL_links_18, rfl⟩) ?_
      show Gv _ _ _ _ _ _ _ 20 _ _ _ _
      refine xg_bipush dL_links_20 (Eq.refl 22) (by decide +kernel) ?_
      exact xg_iret rfl dL_links_22 rfl hM3 (by decide)
abbrev uL_recalls : xU := (RL, cL_recalls, 3, (some .long), tableOf [(0, 5, 6, 15), (0, 5, 11, 19)], "recalls")
theorem bL_recalls : xYW yL_recalls cL_recalls 3 (some .long) [(0, 5, 6, 15), (0, 5, 11, 19)] 2 := ⟨xq_587, xq_117, xq_588, ⟨by decide +kernel, by decide +kernel, by decide +kernel⟩, by decide⟩
theorem mL_recalls {l : Launch} {G : xG} (hl : l.stackTraces = false) (x0 : Nat) (h0 : xOb 11 x0) (x1 : Int) (h1 : R32 x1) (M : xM) (hM : xcan M) : CmW l G yL_recalls cL_recalls 3 (some .long) [(0, 5, 6, 15), (0, 5, 11, 19)] 4 2 2 12 [.ref x0, iv x1] M (fL_recalls x0 x1 M) := by
  refine xcmw_of (u := uL_recalls) (ls := [some (.ref x0), some (iv x1), none]) 1 hl rfl (by decide +kernel) (Nat.le_of_ble_eq_true rfl) rfl ?_
  unfold fL_recalls
  refine xg_aload_n dL_recalls_0 (Eq.refl 1) rfl ?_
  refine xg_iload_n dL_recalls_1 (Eq.refl 2) rfl ?_
  refine xg_callVC_J (kc := 0) (ks := 0) (st := []) (mX11_recall hl x0 h0 x1 h1 M hM) bX11_recall xcl11 h0 rfl xq_589 rfl (by decide) (by decide) dL_recalls_2 (Eq.refl 5) rfl (by omega) (by omega) ?_ ?_
  · intro z1 M2 hz1 hM2
    exact xg_lret rfl dL_recalls_5 rfl hM2 hz1
  · intro e M3 he hM3
    have he3 : e = 0 ∨ e = 1 ∨ e = 2 := by omega
    rcases he3 with rfl | rfl | rfl
    · refine xgx_c0 ?_
      refine xgx_catch (pre := tableOf []) (suf := tableOf [(0, 5, 11, 19)]) (x := ⟨0, 5, 6, 15⟩) (j := 2) (ln := 1) rfl (fun z hz => by cases hz) (by decide) (by decide) (by decide) xq_127 (by decide) (Or.inr ⟨2, rfl, dL_recalls_6, rfl⟩) ?_
      show Gv _ _ _ _ _ _ _ 7 _ _ _ _
      refine xg_ldc2 (z := (-2)) xq_4 dL_recalls_7 (Eq.refl 10) (by decide +kernel) ?_
      exact xg_lret rfl dL_recalls_10 rfl hM3 (by decide)
    · exact xgx_none
    · refine xgx_c2 ?_
      refine xgx_catch (pre := tableOf [(0, 5, 6, 15)]) (suf := tableOf []) (x := ⟨0, 5, 11, 19⟩) (j := 2) (ln := 1) rfl (xpass1 (by decide) 0 xq_127 (by decide)) (by decide) (by decide) (by decide) xq_129 (by decide) (Or.inr ⟨2, rfl, dL_recalls_11, rfl⟩) ?_
      show Gv _ _ _ _ _ _ _ 12 _ _ _ _
      refine xg_ldc2 (z := (-4)) xq_512 dL_recalls_12 (Eq.refl 15) (by decide +kernel) ?_
      exact xg_lret rfl dL_recalls_15 rfl hM3 (by decide)
abbrev uL_announces : xU := (RL, cL_announces, 7, (some .int), tableOf [(0, 17, 18, 15), (0, 17, 23, 17), (0, 17, 28, 19)], "announces")
theorem bL_announces : xYW yL_announces cL_announces 7 (some .int) [(0, 17, 18, 15), (0, 17, 23, 17), (0, 17, 28, 19)] 6 := ⟨xq_605, xq_117, xq_606, ⟨by decide +kernel, by decide +kernel, by decide +kernel⟩, by decide⟩
theorem mL_announces {l : Launch} {G : xG} (hl : l.stackTraces = false) (x0 : Nat) (h0 : xOb 11 x0) (x1 : Int) (h1 : R32 x1) (x2 : Int) (h2 : R32 x2) (x3 : Int) (h3 : R32 x3) (x4 : Int) (h4 : R32 x4) (x5 : Int) (h5 : R32 x5) (M : xM) (hM : xcan M) : CmW l G yL_announces cL_announces 7 (some .int) [(0, 17, 18, 15), (0, 17, 23, 17), (0, 17, 28, 19)] 4 0 8 48 [.ref x0, iv x1, iv x2, iv x3, iv x4, iv x5] M (fL_announces x0 x1 x2 x3 x4 x5 M) := by
  refine xcmw_of (u := uL_announces) (ls := [some (.ref x0), some (iv x1), some (iv x2), some (iv x3), some (iv x4), some (iv x5), none]) 1 hl rfl (by decide +kernel) (Nat.le_of_ble_eq_true rfl) rfl ?_
  unfold fL_announces
  refine xg_aload_n dL_announces_0 (Eq.refl 1) rfl ?_
  refine xg_iload_n dL_announces_1 (Eq.refl 2) rfl ?_
  refine xg_iload_n dL_announces_2 (Eq.refl 3) rfl ?_
  refine xg_iload_n dL_announces_3 (Eq.refl 4) rfl ?_
  refine xg_iload dL_announces_4 (Eq.refl 6) rfl ?_
  refine xg_bipush dL_announces_6 (Eq.refl 8) (by decide +kernel) ?_
  refine xg_iload dL_announces_8 (Eq.refl 10) rfl ?_
  refine xg_iload dL_announces_10 (Eq.refl 12) rfl ?_
  refine xg_iconst dL_announces_12 (Eq.refl 13) ?_
  refine xg_iadd dL_announces_13 (Eq.refl 14) ?_
  refine xg_callVC_I (kc := 0) (ks := 0) (st := []) (mX11_announce hl x0 h0 x1 h1 x2 h2 x3 h3 x4 h4 20 (by decide) x5 h5 (w32 (x5 + 1)) (w32_r _) M hM) bX11_announce xcl11 h0 rfl xq_607 rfl (by decide) (by decide) dL_announces_14 (Eq.refl 17) rfl (by omega) (by omega) ?_ ?_
  · intro z1 M2 hz1 hM2
    exact xg_iret rfl dL_announces_17 rfl hM2 hz1
  · intro e M3 he hM3
    have he3 : e = 0 ∨ e = 1 ∨ e = 2 := by omega
    rcases he3 with rfl | rfl | rfl
    · refine xgx_c0 ?_
      refine xgx_catch (pre := tableOf []) (suf := tableOf [(0, 17, 23, 17), (0, 17, 28, 19)]) (x := ⟨0, 17, 18, 15⟩) (j := 6) (ln := 2) rfl (fun z hz => by cases hz) (by decide) (by decide) (by decide) xq_127 (by decide) (Or.inl ⟨dL_announces_18, rfl⟩) ?_
      show Gv _ _ _ _ _ _ _ 20 _ _ _ _
      refine xg_bipush dL_announces_20 (Eq.refl 22) (by decide +kernel) ?_
      exact xg_iret rfl dL_announces_22 rfl hM3 (by decide)
    · refine xgx_c1 ?_
      refine xgx_catch (pre := tableOf [(0, 17, 18, 15)]) (suf := tableOf [(0, 17, 28, 19)]) (x := ⟨0, 17, 23, 17⟩) (j := 6) (ln := 2) rfl (xpass1 (by decide) 0 xq_127 (by decide)) (by decide) (by decide) (by decide) xq_128 (by decide) (Or.inl ⟨dL_announces_23, rfl⟩) ?_
      show Gv _ _ _ _ _ _ _ 25 _ _ _ _
      refine xg_bipush dL_announces_25 (Eq.refl 27) (by decide +kernel) ?_
      exact xg_iret rfl dL_announces_27 rfl hM3 (by decide)
    · refine xgx_c2 ?_
      refine xgx_catch (pre := tableOf [(0, 17, 18, 15), (0, 17, 23, 17)]) (suf := tableOf []) (x := ⟨0, 17, 28, 19⟩) (j := 6) (ln := 2) rfl (xpass2 (by decide) 0 xq_127 (by decide) (by decide) 1 xq_128 (by decide)) (by decide) (by decide) (by decide) xq_129 (by decide) (Or.inl ⟨dL_announces_28, rfl⟩) ?_
      show Gv _ _ _ _ _ _ _ 30 _ _ _ _
      refine xg_bipush dL_announces_30 (Eq.refl 32) (by decide +kernel) ?_
      exact xg_iret rfl dL_announces_32 rfl hM3 (by decide)
abbrev uL_causers : xU := (RL, cL_causers, 3, (some .int), tableOf [(0, 5, 6, 15), (0, 5, 10, 19)], "causers")
theorem bL_causers : xYW yL_causers cL_causers 3 (some .int) [(0, 5, 6, 15), (0, 5, 10, 19)] 2 := ⟨xq_1031, xq_117, xq_1032, ⟨by decide +kernel, by decide +kernel, by decide +kernel⟩, by decide⟩
theorem mL_causers {l : Launch} {G : xG} (hl : l.stackTraces = false) (x0 : Nat) (h0 : xOb 11 x0) (x1 : Int) (h1 : R32 x1) (M : xM) (hM : xcan M) : CmW l G yL_causers cL_causers 3 (some .int) [(0, 5, 6, 15), (0, 5, 10, 19)] 5 0 2 12 [.ref x0, iv x1] M (fL_causers x0 x1 M) := by
  refine xcmw_of (u := uL_causers) (ls := [some (.ref x0), some (iv x1), none]) 1 hl rfl (by decide +kernel) (Nat.le_of_ble_eq_true rfl) rfl ?_
  unfold fL_causers
  refine xg_aload_n dL_causers_0 (Eq.refl 1) rfl ?_
  refine xg_iload_n dL_causers_1 (Eq.refl 2) rfl ?_
  refine xg_callVC_I (kc := 0) (ks := 0) (st := []) (mX11_causer hl x0 h0 x1 h1 M hM) bX11_causer xcl11 h0 rfl xq_1033 rfl (by decide) (by decide) dL_causers_2 (Eq.refl 5) rfl (by omega) (by omega) ?_ ?_
  · intro z1 M2 hz1 hM2
    exact xg_iret rfl dL_causers_5 rfl hM2 hz1
  · intro e M3 he hM3
    have he3 : e = 0 ∨ e = 1 ∨ e = 2 := by omega
    rcases he3 with rfl | rfl | rfl
    · refine xgx_c0 ?_
      refine xgx_catch (pre := tableOf []) (suf := tableOf [(0, 5, 10, 19)]) (x := ⟨0, 5, 6, 15⟩) (j := 2) (ln := 1) rfl (fun z hz => by cases hz) (by decide) (by decide) (by decide) xq_127 (by decide) (Or.inr ⟨2, rfl, dL_causers_6, rfl⟩) ?_
      show Gv _ _ _ _ _ _ _ 7 _ _ _ _
      refine xg_bipush dL_causers_7 (Eq.refl 9) (by decide +kernel) ?_
      exact xg_iret rfl dL_causers_9 rfl hM3 (by decide)
    · exact xgx_none
    · refine xgx_c2 ?_
      refine xgx_catch (pre := tableOf [(0, 5, 6, 15)]) (suf := tableOf []) (x := ⟨0, 5, 10, 19⟩) (j := 2) (ln := 1) rfl (xpass1 (by decide) 0 xq_127 (by decide)) (by decide) (by decide) (by decide) xq_129 (by decide) (Or.inr ⟨2, rfl, dL_causers_10, rfl⟩) ?_
      show Gv _ _ _ _ _ _ _ 11 _ _ _ _
      refine xg_bipush dL_causers_11 (Eq.refl 13) (by decide +kernel) ?_
      exact xg_iret rfl dL_causers_13 rfl hM3 (by decide)
abbrev uL_tell : xU := (RL, cL_tell, 5, (some (.array .long)), [], "tell")
theorem bL_tell : xYS yL_tell cL_tell 5 (some (.array .long)) 2 := ⟨xq_199, xq_117, xq_200, ⟨by decide +kernel, by decide +kernel, by decide +kernel⟩, by decide⟩
theorem gL_tell_133 {l : Launch} {G : xG} (hl : l.stackTraces = false) (x0 : Nat) (h0 : xOb 11 x0) (x1 : Nat) (h1 : xAn 0 5 x1) (x2 : Nat) (h2 : xTa G x2) : ∀ (n : Nat) (x3 : Int) (_ : R32 x3) (M : xM) (_ : xcan M), Gv l G uL_tell 21 6 (n * 2 + 0) (n * 12 + 0) 133 [some (.ref x0), some (.ref x1), some (.ref x2), some (iv x3), none] [] M (fL_tell_133 x0 x1 x2 n x3 M) := by
  intro n; induction n with
  | zero => intro x3 h3 M hM; exact xg_none
  | succ n ih =>
    intro x3 h3 M hM
    rw [fL_tell_133]
    refine xg_room (kc' := ((n * 2 + 0) + 2)) (ks' := ((n * 12 + 0) + 12)) ?_ (by omega) (by omega)
    refine xg_iload_n dL_tell_133 (Eq.refl 134) rfl ?_
    refine xg_aload_n dL_tell_134 (Eq.refl 135) rfl ?_
    refine xg_iconst dL_tell_135 (Eq.refl 136) ?_
    refine xg_ialdk (k := 3) h1 dL_tell_136 (Eq.refl 137) rfl (by decide) ?_
    refine xg_icmp_ge (tgt := 167) dL_tell_137 (Eq.refl 140) (by decide) h3 (hM.ai h1) ?_ ?_
    · refine xg_room (kc' := 0) (ks' := 0) ?_ (by omega) (by omega)
      refine xg_aload_n dL_tell_167 (Eq.refl 168) rfl ?_
      refine xg_bipush dL_tell_168 (Eq.refl 170) (by decide +kernel) ?_
      refine xg_aload_n dL_tell_170 (Eq.refl 171) rfl ?_
      refine xg_callV_I (kc := 0) (ks := 0) (st := [iv 55, .ref x2]) (mX11_today hl x0 h0 M hM) bX11_today xcl11 h0 rfl xq_270 rfl (by decide) rfl (Nat.le_of_ble_eq_true rfl) dL_tell_171 (Eq.refl 174) rfl (by omega) (by omega) ?_
      intro z1 M2 hz1 hM2
      refine xg_i2l dL_tell_174 (Eq.refl 175) hz1 ?_
      refine xg_tast h2 dL_tell_175 (Eq.refl 176) hM2 ?_
      intro M3 hM3
      refine xg_aload_n dL_tell_176 (Eq.refl 177) rfl ?_
      refine xg_bipush dL_tell_177 (Eq.refl 179) (by decide +kernel) ?_
      refine xg_aload_n dL_tell_179 (Eq.refl 180) rfl ?_
      refine xg_callV_I (kc := 0) (ks := 0) (st := [iv 56, .ref x2]) (mX11_loans hl x0 h0 M3 hM3) bX11_loans xcl11 h0 rfl xq_275 rfl (by decide) rfl (Nat.le_of_ble_eq_true rfl) dL_tell_180 (Eq.refl 183) rfl (by omega) (by omega) ?_
      intro z4 M5 hz4 hM5
      refine xg_i2l dL_tell_183 (Eq.refl 184) hz4 ?_
      refine xg_tast h2 dL_tell_184 (Eq.refl 185) hM5 ?_
      intro M6 hM6
      refine xg_aload_n dL_tell_185 (Eq.refl 186) rfl ?_
      refine xg_bipush dL_tell_186 (Eq.refl 188) (by decide +kernel) ?_
      refine xg_aload_n dL_tell_188 (Eq.refl 189) rfl ?_
      refine xg_callV_J (kc := 0) (ks := 0) (st := [iv 57, .ref x2]) (mX11_best hl x0 h0 M6 hM6) bX11_best xcl11 h0 rfl xq_280 rfl (by decide) rfl (Nat.le_of_ble_eq_true rfl) dL_tell_189 (Eq.refl 192) rfl (by omega) (by omega) ?_
      intro z7 M8 hz7 hM8
      refine xg_tast h2 dL_tell_192 (Eq.refl 193) hM8 ?_
      intro M9 hM9
      refine xg_aload_n dL_tell_193 (Eq.refl 194) rfl ?_
      exact xg_tret rfl dL_tell_194 rfl hM9
    · refine xg_aload_n dL_tell_140 (Eq.refl 141) rfl ?_
      refine xg_bipush dL_tell_141 (Eq.refl 143) (by decide +kernel) ?_
      refine xg_iload_n dL_tell_143 (Eq.refl 144) rfl ?_
      refine xg_iadd dL_tell_144 (Eq.refl 145) ?_
      refine xg_ldc2 (z := 1000000) xq_201 dL_tell_145 (Eq.refl 148) (by decide +kernel) ?_
      refine xg_aload_n dL_tell_148 (Eq.refl 149) rfl ?_
      refine xg_iload_n dL_tell_149 (Eq.refl 150) rfl ?_
      refine xg_callV_J (kc := ((n * 2 + 0) + 1)) (ks := ((n * 12 + 0) + 6)) (st := [jv 1000000, iv (w32 (33 + x3)), .ref x2]) (mX11_tradeUnits hl x0 h0 x3 h3 M hM) bX11_tradeUnits xcl11 h0 rfl xq_251 rfl (by decide) rfl (Nat.le_of_ble_eq_true rfl) dL_tell_150 (Eq.refl 153) rfl (by omega) (by omega) ?_
      intro z10 M11 hz10 hM11
      refine xg_lmul dL_tell_153 (Eq.refl 154) ?_
      refine xg_aload_n dL_tell_154 (Eq.refl 155) rfl ?_
      refine xg_iload_n dL_tell_155 (Eq.refl 156) rfl ?_
      refine xg_callV_J (kc := ((n * 2 + 0) + 0)) (ks := ((n * 12 + 0) + 0)) (st := [jv (w64 (1000000 * z10)), iv (w32 (33 + x3)), .ref x2]) (mX11_tradeAmount hl x0 h0 x3 h3 M11 hM11) bX11_tradeAmount xcl11 h0 rfl xq_265 rfl (by decide) rfl (Nat.le_of_ble_eq_true rfl) dL_tell_156 (Eq.refl 159) rfl (by omega) (by omega) ?_
      intro z12 M13 hz12 hM13
      refine xg_ladd dL_tell_159 (Eq.refl 160) ?_
      refine xg_tast h2 dL_tell_160 (Eq.refl 161) hM13 ?_
      intro M14 hM14
      refine xg_iinc (ls2 := [some (.ref x0), some (.ref x1), some (.ref x2), some (iv (w32 (x3 + 1))), none]) dL_tell_161 (Eq.refl 164) rfl (by decide) rfl ?_
      refine xg_goto (tgt := 133) dL_tell_164 (by decide) ?_
      exact xg_jump (ih (w32 (x3 + 1)) (w32_r _) M14 hM14) (xsb_s (xsb_s (xsb_s (xsb_s (xsb_n xsb_0))))) (by omega) (by omega)
theorem gL_tell_99 {l : Launch} {G : xG} (hl : l.stackTraces = false) (x0 : Nat) (h0 : xOb 11 x0) (x1 : Nat) (h1 : xAn 0 5 x1) (x2 : Nat) (h2 : xTa G x2) : ∀ (n : Nat) (x3 : Int) (_ : R32 x3) (M : xM) (_ : xcan M), Gv l G uL_tell 21 6 (n * 1 + 30) (n * 6 + 180) 99 [some (.ref x0), some (.ref x1), some (.ref x2), some (iv x3), none] [] M (fL_tell_99 x0 x1 x2 n x3 M) := by
  intro n; induction n with
  | zero => intro x3 h3 M hM; exact xg_none
  | succ n ih =>
    intro x3 h3 M hM
    rw [fL_tell_99]
    refine xg_room (kc' := ((n * 1 + 30) + 1)) (ks' := ((n * 6 + 180) + 6)) ?_ (by omega) (by omega)
    refine xg_iload_n dL_tell_99 (Eq.refl 100) rfl ?_
    refine xg_aload_n dL_tell_100 (Eq.refl 101) rfl ?_
    refine xg_iconst dL_tell_101 (Eq.refl 102) ?_
    refine xg_ialdk (k := 2) h1 dL_tell_102 (Eq.refl 103) rfl (by decide) ?_
    refine xg_icmp_ge (tgt := 131) dL_tell_103 (Eq.refl 106) (by decide) h3 (hM.ai h1) ?_ ?_
    · refine xg_room (kc' := 30) (ks' := 180) ?_ (by omega) (by omega)
      refine xg_iconst dL_tell_131 (Eq.refl 132) ?_
      refine xg_istore_n (ls2 := [some (.ref x0), some (.ref x1), some (.ref x2), some (iv 0), none]) dL_tell_132 (Eq.refl 133) (by decide) rfl ?_
      exact xg_jump (gL_tell_133 hl x0 h0 x1 h1 x2 h2 15 0 (by decide) M hM) (xsb_s (xsb_s (xsb_s (xsb_s (xsb_n xsb_0))))) (by omega) (by omega)
    · refine xg_aload_n dL_tell_106 (Eq.refl 107) rfl ?_
      refine xg_bipush dL_tell_107 (Eq.refl 109) (by decide +kernel) ?_
      refine xg_ldc2 (z := 5) xq_202 dL_tell_109 (Eq.refl 112) (by decide +kernel) ?_
      refine xg_aload_n dL_tell_112 (Eq.refl 113) rfl ?_
      refine xg_bipush dL_tell_113 (Eq.refl 115) (by decide +kernel) ?_
      refine xg_tald h2 dL_tell_115 (Eq.refl 116) ?_
      refine xg_lmul dL_tell_116 (Eq.refl 117) ?_
      refine xg_aload_n dL_tell_117 (Eq.refl 118) rfl ?_
      refine xg_iload_n dL_tell_118 (Eq.refl 119) rfl ?_
      refine xg_callV_I (kc := ((n * 1 + 30) + 0)) (ks := ((n * 6 + 180) + 0)) (st := [jv (w64 (5 * (w64 (M x2 32)))), iv 32, .ref x2]) (mX11_status hl x0 h0 x3 h3 M hM) bX11_status xcl11 h0 rfl xq_237 rfl (by decide) rfl (Nat.le_of_ble_eq_true rfl) dL_tell_119 (Eq.refl 122) rfl (by omega) (by omega) ?_
      intro z1 M2 hz1 hM2
      refine xg_i2l dL_tell_122 (Eq.refl 123) hz1 ?_
      refine xg_ladd dL_tell_123 (Eq.refl 124) ?_
      refine xg_tast h2 dL_tell_124 (Eq.refl 125) hM2 ?_
      intro M3 hM3
      refine xg_iinc (ls2 := [some (.ref x0), some (.ref x1), some (.ref x2), some (iv (w32 (x3 + 1))), none]) dL_tell_125 (Eq.refl 128) rfl (by decide) rfl ?_
      refine xg_goto (tgt := 99) dL_tell_128 (by decide) ?_
      exact xg_jump (ih (w32 (x3 + 1)) (w32_r _) M3 hM3) (xsb_s (xsb_s (xsb_s (xsb_s (xsb_n xsb_0))))) (by omega) (by omega)
theorem gL_tell_47 {l : Launch} {G : xG} (hl : l.stackTraces = false) (k s : Nat) (rc7 : Int → xM → xO) (x0 : Nat) (h0 : xOb 11 x0) (x1 : Nat) (h1 : xAn 0 5 x1) (x2 : Nat) (h2 : xTa G x2) (x3 : Int) (h3 : R32 x3) (hr7 : ∀ w3 : Int, R32 w3 → ∀ M : xM, xcan M → Gv l G uL_tell 21 6 k s 7 [some (.ref x0), some (.ref x1), some (.ref x2), some (iv w3), none] [] M (rc7 w3 M)) : ∀ (n : Nat) (x4 : Int) (_ : R32 x4) (M : xM) (_ : xcan M), Gv l G uL_tell 21 6 (n * 4 + (k + 0)) (n * 24 + (s + 0)) 47 [some (.ref x0), some (.ref x1), some (.ref x2), some (iv x3), some (iv x4)] [] M (fL_tell_47 rc7 x0 x1 x2 x3 n x4 M) := by
  intro n; induction n with
  | zero => intro x4 h4 M hM; exact xg_none
  | succ n ih =>
    intro x4 h4 M hM
    rw [fL_tell_47]
    refine xg_room (kc' := ((n * 4 + (k + 0)) + 4)) (ks' := ((n * 24 + (s + 0)) + 24)) ?_ (by omega) (by omega)
    refine xg_iload dL_tell_47 (Eq.refl 49) rfl ?_
    refine xg_aload_n dL_tell_49 (Eq.refl 50) rfl ?_
    refine xg_iconst dL_tell_50 (Eq.refl 51) ?_
    refine xg_ialdk (k := 1) h1 dL_tell_51 (Eq.refl 52) rfl (by decide) ?_
    refine xg_icmp_ge (tgt := 91) dL_tell_52 (Eq.refl 55) (by decide) h4 (hM.ai h1) ?_ ?_
    · refine xg_room (kc' := (k + 0)) (ks' := (s + 0)) ?_ (by omega) (by omega)
      refine xg_iinc (ls2 := [some (.ref x0), some (.ref x1), some (.ref x2), some (iv (w32 (x3 + 1))), some (iv x4)]) dL_tell_91 (Eq.refl 94) rfl (by decide) rfl ?_
      refine xg_goto (tgt := 7) dL_tell_94 (by decide) ?_
      exact xg_jump (hr7 (w32 (x3 + 1)) (w32_r _) M hM) (xsb_s (xsb_s (xsb_s (xsb_s (xsb_n xsb_0))))) (by omega) (by omega)
    · refine xg_aload_n dL_tell_55 (Eq.refl 56) rfl ?_
      refine xg_bipush dL_tell_56 (Eq.refl 58) (by decide +kernel) ?_
      refine xg_iconst dL_tell_58 (Eq.refl 59) ?_
      refine xg_iload_n dL_tell_59 (Eq.refl 60) rfl ?_
      refine xg_imul dL_tell_60 (Eq.refl 61) ?_
      refine xg_iadd dL_tell_61 (Eq.refl 62) ?_
      refine xg_iload dL_tell_62 (Eq.refl 64) rfl ?_
      refine xg_iadd dL_tell_64 (Eq.refl 65) ?_
      refine xg_ldc2 (z := 1000000) xq_201 dL_tell_65 (Eq.refl 68) (by decide +kernel) ?_
      refine xg_aload_n dL_tell_68 (Eq.refl 69) rfl ?_
      refine xg_iload_n dL_tell_69 (Eq.refl 70) rfl ?_
      refine xg_iload dL_tell_70 (Eq.refl 72) rfl ?_
      refine xg_callV_J (kc := ((n * 4 + (k + 0)) + 2)) (ks := ((n * 24 + (s + 0)) + 12)) (st := [jv 1000000, iv (w32 ((w32 (18 + (w32 (2 * x3)))) + x4)), .ref x2]) (mX11_units hl x0 h0 x3 h3 x4 h4 M hM) bX11_units xcl11 h0 rfl xq_217 rfl (by decide) rfl (Nat.le_of_ble_eq_true rfl) dL_tell_72 (Eq.refl 75) rfl (by omega) (by omega) ?_
      intro z2 M3 hz2 hM3
      refine xg_lmul dL_tell_75 (Eq.refl 76) ?_
      refine xg_aload_n dL_tell_76 (Eq.refl 77) rfl ?_
      refine xg_iload_n dL_tell_77 (Eq.refl 78) rfl ?_
      refine xg_iload dL_tell_78 (Eq.refl 80) rfl ?_
      refine xg_callV_J (kc := ((n * 4 + (k + 0)) + 0)) (ks := ((n * 24 + (s + 0)) + 0)) (st := [jv (w64 (1000000 * z2)), iv (w32 ((w32 (18 + (w32 (2 * x3)))) + x4)), .ref x2]) (mX11_free hl x0 h0 x3 h3 x4 h4 M3 hM3) bX11_free xcl11 h0 rfl xq_229 rfl (by decide) rfl (Nat.le_of_ble_eq_true rfl) dL_tell_80 (Eq.refl 83) rfl (by omega) (by omega) ?_
      intro z4 M5 hz4 hM5
      refine xg_ladd dL_tell_83 (Eq.refl 84) ?_
      refine xg_tast h2 dL_tell_84 (Eq.refl 85) hM5 ?_
      intro M6 hM6
      refine xg_iinc (ls2 := [some (.ref x0), some (.ref x1), some (.ref x2), some (iv x3), some (iv (w32 (x4 + 1)))]) dL_tell_85 (Eq.refl 88) rfl (by decide) rfl ?_
      refine xg_goto (tgt := 47) dL_tell_88 (by decide) ?_
      exact xg_jump (ih (w32 (x4 + 1)) (w32_r _) M6 hM6) (xsb_s (xsb_s (xsb_s (xsb_s (xsb_s xsb_0))))) (by omega) (by omega)
theorem gL_tell_7 {l : Launch} {G : xG} (hl : l.stackTraces = false) (x0 : Nat) (h0 : xOb 11 x0) (x1 : Nat) (h1 : xAn 0 5 x1) (x2 : Nat) (h2 : xTa G x2) : ∀ (n : Nat) (x3 : Int) (_ : R32 x3) (M : xM) (_ : xcan M), Gv l G uL_tell 21 6 (n * 15 + 59) (n * 90 + 354) 7 [some (.ref x0), some (.ref x1), some (.ref x2), some (iv x3), none] [] M (fL_tell_7 x0 x1 x2 n x3 M) := by
  intro n; induction n with
  | zero => intro x3 h3 M hM; exact xg_none
  | succ n ih =>
    intro x3 h3 M hM
    rw [fL_tell_7]
    refine xg_room (kc' := ((n * 15 + 59) + 15)) (ks' := ((n * 90 + 354) + 90)) ?_ (by omega) (by omega)
    refine xg_iload_n dL_tell_7 (Eq.refl 8) rfl ?_
    refine xg_aload_n dL_tell_8 (Eq.refl 9) rfl ?_
    refine xg_iconst dL_tell_9 (Eq.refl 10) ?_
    refine xg_ialdk (k := 0) h1 dL_tell_10 (Eq.refl 11) rfl (by decide) ?_
    refine xg_icmp_ge (tgt := 97) dL_tell_11 (Eq.refl 14) (by decide) h3 (hM.ai h1) ?_ ?_
    · refine xg_room (kc' := 59) (ks' := 354) ?_ (by omega) (by omega)
      refine xg_iconst dL_tell_97 (Eq.refl 98) ?_
      refine xg_istore_n (ls2 := [some (.ref x0), some (.ref x1), some (.ref x2), some (iv 0), none]) dL_tell_98 (Eq.refl 99) (by decide) rfl ?_
      exact xg_jump (gL_tell_99 hl x0 h0 x1 h1 x2 h2 29 0 (by decide) M hM) (xsb_s (xsb_s (xsb_s (xsb_s (xsb_n xsb_0))))) (by omega) (by omega)
    · refine xg_aload_n dL_tell_14 (Eq.refl 15) rfl ?_
      refine xg_iload_n dL_tell_15 (Eq.refl 16) rfl ?_
      refine xg_aload_n dL_tell_16 (Eq.refl 17) rfl ?_
      refine xg_iload_n dL_tell_17 (Eq.refl 18) rfl ?_
      refine xg_callV_J (kc := ((n * 15 + 59) + 14)) (ks := ((n * 90 + 354) + 84)) (st := [iv x3, .ref x2]) (mX11_cash hl x0 h0 x3 h3 M hM) bX11_cash xcl11 h0 rfl xq_203 rfl (by decide) rfl (Nat.le_of_ble_eq_true rfl) dL_tell_18 (Eq.refl 21) rfl (by omega) (by omega) ?_
      intro z1 M2 hz1 hM2
      refine xg_tast h2 dL_tell_21 (Eq.refl 22) hM2 ?_
      intro M3 hM3
      refine xg_aload_n dL_tell_22 (Eq.refl 23) rfl ?_
      refine xg_bipush dL_tell_23 (Eq.refl 25) (by decide +kernel) ?_
      refine xg_iload_n dL_tell_25 (Eq.refl 26) rfl ?_
      refine xg_iadd dL_tell_26 (Eq.refl 27) ?_
      refine xg_aload_n dL_tell_27 (Eq.refl 28) rfl ?_
      refine xg_iload_n dL_tell_28 (Eq.refl 29) rfl ?_
      refine xg_callV_J (kc := ((n * 15 + 59) + 13)) (ks := ((n * 90 + 354) + 78)) (st := [iv (w32 (6 + x3)), .ref x2]) (mX11_ledger hl x0 h0 x3 h3 M3 hM3) bX11_ledger xcl11 h0 rfl xq_207 rfl (by decide) rfl (Nat.le_of_ble_eq_true rfl) dL_tell_29 (Eq.refl 32) rfl (by omega) (by omega) ?_
      intro z4 M5 hz4 hM5
      refine xg_tast h2 dL_tell_32 (Eq.refl 33) hM5 ?_
      intro M6 hM6
      refine xg_aload_n dL_tell_33 (Eq.refl 34) rfl ?_
      refine xg_bipush dL_tell_34 (Eq.refl 36) (by decide +kernel) ?_
      refine xg_iload_n dL_tell_36 (Eq.refl 37) rfl ?_
      refine xg_iadd dL_tell_37 (Eq.refl 38) ?_
      refine xg_aload_n dL_tell_38 (Eq.refl 39) rfl ?_
      refine xg_iload_n dL_tell_39 (Eq.refl 40) rfl ?_
      refine xg_callV_J (kc := ((n * 15 + 59) + 12)) (ks := ((n * 90 + 354) + 72)) (st := [iv (w32 (12 + x3)), .ref x2]) (mX11_pledged hl x0 h0 x3 h3 M6 hM6) bX11_pledged xcl11 h0 rfl xq_212 rfl (by decide) rfl (Nat.le_of_ble_eq_true rfl) dL_tell_40 (Eq.refl 43) rfl (by omega) (by omega) ?_
      intro z7 M8 hz7 hM8
      refine xg_tast h2 dL_tell_43 (Eq.refl 44) hM8 ?_
      intro M9 hM9
      refine xg_iconst dL_tell_44 (Eq.refl 45) ?_
      refine xg_istore (ls2 := [some (.ref x0), some (.ref x1), some (.ref x2), some (iv x3), some (iv 0)]) dL_tell_45 (Eq.refl 47) (by decide) rfl ?_
      exact xg_jump (gL_tell_47 hl ((n * 15 + 59)) ((n * 90 + 354)) (fL_tell_7 x0 x1 x2 n) x0 h0 x1 h1 x2 h2 x3 h3 ih 3 0 (by decide) M9 hM9) (xsb_s (xsb_s (xsb_s (xsb_s (xsb_s xsb_0))))) (by omega) (by omega)
theorem gL_tell {l : Launch} {G : xG} (hl : l.stackTraces = false) (x0 : Nat) (h0 : xOb 11 x0) (x1 : Nat) (h1 : xAn 0 5 x1) (x2 : Nat) (h2 : xTa G x2) (M : xM) (hM : xcan M) : Gv l G uL_tell 21 6 164 984 5 [some (.ref x0), some (.ref x1), some (.ref x2), none, none] [] M (fL_tell x0 x1 x2 M) := by
  unfold fL_tell
  refine xg_iconst dL_tell_5 (Eq.refl 6) ?_
  refine xg_istore_n (ls2 := [some (.ref x0), some (.ref x1), some (.ref x2), some (iv 0), none]) dL_tell_6 (Eq.refl 7) (by decide) rfl ?_
  exact xg_jump (gL_tell_7 hl x0 h0 x1 h1 x2 h2 7 0 (by decide) M hM) (xsb_s (xsb_s (xsb_s (xsb_s (xsb_n xsb_0))))) (by omega) (by omega)
abbrev uL_same : xU := (RL, cL_same, 3, (some .boolean), [], "same")
theorem bL_same : xYS yL_same cL_same 3 (some .boolean) 2 := ⟨xq_628, xq_117, xq_629, ⟨by decide +kernel, by decide +kernel, by decide +kernel⟩, by decide⟩
theorem gL_same_2 {l : Launch} {G : xG} (hl : l.stackTraces = false) (x0 : Nat) (h0 : xTa G x0) (x1 : Nat) (h1 : xTa G x1) : ∀ (n : Nat) (x2 : Int) (_ : R32 x2) (M : xM) (_ : xcan M), Gv l G uL_same 1 1 (n * 0 + 0) (n * 0 + 0) 2 [some (.ref x0), some (.ref x1), some (iv x2)] [] M (fL_same_2 x0 x1 n x2 M) := by
  intro n; induction n with
  | zero => intro x2 h2 M hM; exact xg_none
  | succ n ih =>
    intro x2 h2 M hM
    rw [fL_same_2]
    refine xg_room (kc' := ((n * 0 + 0) + 0)) (ks' := ((n * 0 + 0) + 0)) ?_ (by omega) (by omega)
    refine xg_iload_n dL_same_2 (Eq.refl 3) rfl ?_
    refine xg_bipush dL_same_3 (Eq.refl 5) (by decide +kernel) ?_
    refine xg_icmp_ge (tgt := 26) dL_same_5 (Eq.refl 8) (by decide) h2 (by decide) ?_ ?_
    · refine xg_room (kc' := 0) (ks' := 0) ?_ (by omega) (by omega)
      refine xg_iconst dL_same_26 (Eq.refl 27) ?_
      exact xg_zret rfl dL_same_27 rfl hM (by decide)
    · refine xg_aload_n dL_same_8 (Eq.refl 9) rfl ?_
      refine xg_iload_n dL_same_9 (Eq.refl 10) rfl ?_
      refine xg_tald h0 dL_same_10 (Eq.refl 11) ?_
      refine xg_aload_n dL_same_11 (Eq.refl 12) rfl ?_
      refine xg_iload_n dL_same_12 (Eq.refl 13) rfl ?_
      refine xg_tald h1 dL_same_13 (Eq.refl 14) ?_
      refine xg_lif_eq (tgt := 20) dL_same_14 (Eq.refl 15) dL_same_15 (Eq.refl 18) (by decide) (w64_r _) (w64_r _) ?_ ?_
      · refine xg_iinc (ls2 := [some (.ref x0), some (.ref x1), some (iv (w32 (x2 + 1)))]) dL_same_20 (Eq.refl 23) rfl (by decide) rfl ?_
        refine xg_goto (tgt := 2) dL_same_23 (by decide) ?_
        exact xg_jump (ih (w32 (x2 + 1)) (w32_r _) M hM) (xsb_s (xsb_s (xsb_s xsb_0))) (by omega) (by omega)
      · refine xg_room (kc' := 0) (ks' := 0) ?_ (by omega) (by omega)
        refine xg_iconst dL_same_18 (Eq.refl 19) ?_
        exact xg_zret rfl dL_same_19 rfl hM (by decide)
theorem mL_same {l : Launch} {G : xG} (hl : l.stackTraces = false) (x0 : Nat) (h0 : xTa G x0) (x1 : Nat) (h1 : xTa G x1) (M : xM) (hM : xcan M) : Cm l G yL_same cL_same 3 (some .boolean) 1 1 0 0 [.ref x0, .ref x1] M (fL_same x0 x1 M) := by
  refine xcm_of (u := uL_same) (ls := [some (.ref x0), some (.ref x1), none]) 1 hl rfl (by decide +kernel) (Nat.le_of_ble_eq_true rfl) rfl ?_
  unfold fL_same
  refine xg_iconst dL_same_0 (Eq.refl 1) ?_
  refine xg_istore_n (ls2 := [some (.ref x0), some (.ref x1), some (iv 0)]) dL_same_1 (Eq.refl 2) (by decide) rfl ?_
  exact xg_jump (gL_same_2 hl x0 h0 x1 h1 61 0 (by decide) M hM) (xsb_s (xsb_s (xsb_s xsb_0))) (by omega) (by omega)
abbrev uL_cash : xU := (RL, cL_cash, 5, (some .long), [], "cash")
theorem bL_cash : xYS yL_cash cL_cash 5 (some .long) 2 := ⟨xq_631, xq_117, xq_632, ⟨by decide +kernel, by decide +kernel, by decide +kernel⟩, by decide⟩
theorem gL_cash_5 {l : Launch} {G : xG} (hl : l.stackTraces = false) (x0 : Nat) (h0 : xOb 11 x0) (x1 : Nat) (h1 : xAn 0 5 x1) : ∀ (n : Nat) (x2 : Int) (_ : R64 x2) (x4 : Int) (_ : R32 x4) (M : xM) (_ : xcan M), Gv l G uL_cash 4 2 (n * 1 + 0) (n * 6 + 0) 5 [some (.ref x0), some (.ref x1), some (jv x2), none, some (iv x4)] [] M (fL_cash_5 x0 x1 n x2 x4 M) := by
  intro n; induction n with
  | zero => intro x2 h2 x4 h4 M hM; exact xg_none
  | succ n ih =>
    intro x2 h2 x4 h4 M hM
    rw [fL_cash_5]
    refine xg_room (kc' := ((n * 1 + 0) + 1)) (ks' := ((n * 6 + 0) + 6)) ?_ (by omega) (by omega)
    refine xg_iload dL_cash_5 (Eq.refl 7) rfl ?_
    refine xg_aload_n dL_cash_7 (Eq.refl 8) rfl ?_
    refine xg_iconst dL_cash_8 (Eq.refl 9) ?_
    refine xg_ialdk (k := 0) h1 dL_cash_9 (Eq.refl 10) rfl (by decide) ?_
    refine xg_icmp_ge (tgt := 28) dL_cash_10 (Eq.refl 13) (by decide) h4 (hM.ai h1) ?_ ?_
    · refine xg_room (kc' := 0) (ks' := 0) ?_ (by omega) (by omega)
      refine xg_lload_n dL_cash_28 (Eq.refl 29) rfl ?_
      exact xg_lret rfl dL_cash_29 rfl hM h2
    · refine xg_lload_n dL_cash_13 (Eq.refl 14) rfl ?_
      refine xg_aload_n dL_cash_14 (Eq.refl 15) rfl ?_
      refine xg_iload dL_cash_15 (Eq.refl 17) rfl ?_
      refine xg_callV_J (kc := ((n * 1 + 0) + 0)) (ks := ((n * 6 + 0) + 0)) (st := [jv x2]) (mX11_cash hl x0 h0 x4 h4 M hM) bX11_cash xcl11 h0 rfl xq_203 rfl (by decide) rfl (Nat.le_of_ble_eq_true rfl) dL_cash_17 (Eq.refl 20) rfl (by omega) (by omega) ?_
      intro z1 M2 hz1 hM2
      refine xg_ladd dL_cash_20 (Eq.refl 21) ?_
      refine xg_lstore_nL (P := R64) (ls2 := fun y3 => [some (.ref x0), some (.ref x1), some (jv y3), none, some (iv x4)]) dL_cash_21 (Eq.refl 22) (by decide) (w64_r _) (fun _ => rfl) ?_
      intro y3 hy3
      refine xg_iinc (ls2 := [some (.ref x0), some (.ref x1), some (jv y3), none, some (iv (w32 (x4 + 1)))]) dL_cash_22 (Eq.refl 25) rfl (by decide) rfl ?_
      refine xg_goto (tgt := 5) dL_cash_25 (by decide) ?_
      exact xg_jump (ih y3 hy3 (w32 (x4 + 1)) (w32_r _) M2 hM2) (xsb_s (xsb_s (xsb_s (xsb_n (xsb_s xsb_0))))) (by omega) (by omega)
theorem mL_cash {l : Launch} {G : xG} (hl : l.stackTraces = false) (x0 : Nat) (h0 : xOb 11 x0) (x1 : Nat) (h1 : xAn 0 5 x1) (M : xM) (hM : xcan M) : Cm l G yL_cash cL_cash 5 (some .long) 4 2 7 42 [.ref x0, .ref x1] M (fL_cash x0 x1 M) := by
  refine xcm_of (u := uL_cash) (ls := [some (.ref x0), some (.ref x1), none, none, none]) 3 hl rfl (by decide +kernel) (Nat.le_of_ble_eq_true rfl) rfl ?_
  unfold fL_cash
  refine xg_lconst (z := 0) dL_cash_0 (Eq.refl 1) rfl ?_
  refine xg_lstore_n (ls2 := [some (.ref x0), some (.ref x1), some (jv 0), none, none]) dL_cash_1 (Eq.refl 2) (by decide) rfl ?_
  refine xg_iconst dL_cash_2 (Eq.refl 3) ?_
  refine xg_istore (ls2 := [some (.ref x0), some (.ref x1), some (jv 0), none, some (iv 0)]) dL_cash_3 (Eq.refl 5) (by decide) rfl ?_
  exact xg_jump (gL_cash_5 hl x0 h0 x1 h1 7 0 (by decide) 0 (by decide) M hM) (xsb_s (xsb_s (xsb_s (xsb_n (xsb_s xsb_0))))) (by omega) (by omega)
abbrev uL_asks : xU := (RL, cL_asks, 8, (some .boolean), [], "asks")
theorem bL_asks : xYS yL_asks cL_asks 8 (some .boolean) 2 := ⟨xq_1000, xq_117, xq_1001, ⟨by decide +kernel, by decide +kernel, by decide +kernel⟩, by decide⟩
theorem gL_asks_336 {l : Launch} {G : xG} (hl : l.stackTraces = false) (k s : Nat) (rc264 : Int → xM → xO) (x0 : Nat) (h0 : xOb 11 x0) (x1 : Nat) (h1 : xAn 0 5 x1) (x2 : Int) (h2 : R64 x2) (x4 : Int) (h4 : R32 x4) (hr264 : ∀ w4 : Int, R32 w4 → ∀ M : xM, xcan M → Gv l G uL_asks 21 1 k s 264 [some (.ref x0), some (.ref x1), some (jv x2), none, some (iv w4), none, none, none] [] M (rc264 w4 M)) (M : xM) (hM : xcan M) : Gv l G uL_asks 21 1 (k + 0) (s + 0) 336 [some (.ref x0), some (.ref x1), some (jv x2), none, some (iv x4), none, none, none] [] M (fL_asks_336 rc264 x0 x1 x2 x4 M) := by
  unfold fL_asks_336
  refine xg_iinc (ls2 := [some (.ref x0), some (.ref x1), some (jv x2), none, some (iv (w32 (x4 + 1))), none, none, none]) dL_asks_336 (Eq.refl 339) rfl (by decide) rfl ?_
  refine xg_goto (tgt := 264) dL_asks_339 (by decide) ?_
  exact xg_jump (hr264 (w32 (x4 + 1)) (w32_r _) M hM) (xsb_s (xsb_s (xsb_s (xsb_n (xsb_s (xsb_n (xsb_n (xsb_n xsb_0)))))))) (by omega) (by omega)
theorem gL_asks_324 {l : Launch} {G : xG} (hl : l.stackTraces = false) (k s : Nat) (rc264 : Int → xM → xO) (x0 : Nat) (h0 : xOb 11 x0) (x1 : Nat) (h1 : xAn 0 5 x1) (x2 : Int) (h2 : R64 x2) (x4 : Int) (h4 : R32 x4) (x5 : Int) (h5 : R32 x5) (x6 : Int) (h6 : R32 x6) (hr264 : ∀ w4 : Int, R32 w4 → ∀ M : xM, xcan M → Gv l G uL_asks 21 1 k s 264 [some (.ref x0), some (.ref x1), some (jv x2), none, some (iv w4), none, none, none] [] M (rc264 w4 M)) (M : xM) (hM : xcan M) : Gv l G uL_asks 21 1 (k + 0) (s + 0) 324 [some (.ref x0), some (.ref x1), some (jv x2), none, some (iv x4), some (iv x5), some (iv x6), none] [] M (fL_asks_324 rc264 x0 x1 x2 x4 x5 x6 M) := by
  unfold fL_asks_324
  refine xg_iload dL_asks_324 (Eq.refl 326) rfl ?_
  refine xg_if_ne (tgt := 336) dL_asks_326 (Eq.refl 329) (by decide) h6 ?_ ?_
  · refine xg_iload dL_asks_329 (Eq.refl 331) rfl ?_
    refine xg_if_lt (tgt := 336) dL_asks_331 (Eq.refl 334) (by decide) h5 ?_ ?_
    · exact xg_jump (gL_asks_336 hl (k) (s) rc264 x0 h0 x1 h1 x2 h2 x4 h4 hr264 M hM) (xsb_s (xsb_s (xsb_s (xsb_n (xsb_s (xsb_n (xsb_n (xsb_n xsb_0)))))))) (by omega) (by omega)
    · refine xg_iconst dL_asks_334 (Eq.refl 335) ?_
      exact xg_zret rfl dL_asks_335 rfl hM (by decide)
  · exact xg_jump (gL_asks_336 hl (k) (s) rc264 x0 h0 x1 h1 x2 h2 x4 h4 hr264 M hM) (xsb_s (xsb_s (xsb_s (xsb_n (xsb_s (xsb_n (xsb_n (xsb_n xsb_0)))))))) (by omega) (by omega)
theorem gL_asks_313 {l : Launch} {G : xG} (hl : l.stackTraces = false) (k s : Nat) (rc264 : Int → xM → xO) (x0 : Nat) (h0 : xOb 11 x0) (x1 : Nat) (h1 : xAn 0 5 x1) (x2 : Int) (h2 : R64 x2) (x4 : Int) (h4 : R32 x4) (x5 : Int) (h5 : R32 x5) (x6 : Int) (h6 : R32 x6) (hr264 : ∀ w4 : Int, R32 w4 → ∀ M : xM, xcan M → Gv l G uL_asks 21 1 k s 264 [some (.ref x0), some (.ref x1), some (jv x2), none, some (iv w4), none, none, none] [] M (rc264 w4 M)) (M : xM) (hM : xcan M) : Gv l G uL_asks 21 1 (k + 0) (s + 0) 313 [some (.ref x0), some (.ref x1), some (jv x2), none, some (iv x4), some (iv x5), some (iv x6), none] [] M (fL_asks_313 rc264 x0 x1 x2 x4 x5 x6 M) := by
  unfold fL_asks_313
  refine xg_iload dL_asks_313 (Eq.refl 315) rfl ?_
  refine xg_iconst dL_asks_315 (Eq.refl 316) ?_
  refine xg_icmp_ne (tgt := 324) dL_asks_316 (Eq.refl 319) (by decide) h6 (by decide) ?_ ?_
  · refine xg_iload dL_asks_319 (Eq.refl 321) rfl ?_
    refine xg_if_lt (tgt := 334) dL_asks_321 (Eq.refl 324) (by decide) h5 ?_ ?_
    · refine xg_iconst dL_asks_334 (Eq.refl 335) ?_
      exact xg_zret rfl dL_asks_335 rfl hM (by decide)
    · exact xg_jump (gL_asks_324 hl (k) (s) rc264 x0 h0 x1 h1 x2 h2 x4 h4 x5 h5 x6 h6 hr264 M hM) (xsb_s (xsb_s (xsb_s (xsb_n (xsb_s (xsb_s (xsb_s (xsb_n xsb_0)))))))) (by omega) (by omega)
  · exact xg_jump (gL_asks_324 hl (k) (s) rc264 x0 h0 x1 h1 x2 h2 x4 h4 x5 h5 x6 h6 hr264 M hM) (xsb_s (xsb_s (xsb_s (xsb_n (xsb_s (xsb_s (xsb_s (xsb_n xsb_0)))))))) (by omega) (by omega)
theorem gL_asks_264 {l : Launch} {G : xG} (hl : l.stackTraces = false) (x0 : Nat) (h0 : xOb 11 x0) (x1 : Nat) (h1 : xAn 0 5 x1) (x2 : Int) (h2 : R64 x2) : ∀ (n : Nat) (x4 : Int) (_ : R32 x4) (M : xM) (_ : xcan M), Gv l G uL_asks 21 1 (n * 2 + 2) (n * 12 + 12) 264 [some (.ref x0), some (.ref x1), some (jv x2), none, some (iv x4), none, none, none] [] M (fL_asks_264 x0 x1 x2 n x4 M) := by
  intro n; induction n with
  | zero => intro x4 h4 M hM; exact xg_none
  | succ n ih =>
    intro x4 h4 M hM
    rw [fL_asks_264]
    refine xg_room (kc' := ((n * 2 + 2) + 2)) (ks' := ((n * 12 + 12) + 12)) ?_ (by omega) (by omega)
    refine xg_iload dL_asks_264 (Eq.refl 266) rfl ?_
    refine xg_aload_n dL_asks_266 (Eq.refl 267) rfl ?_
    refine xg_iconst dL_asks_267 (Eq.refl 268) ?_
    refine xg_ialdk (k := 2) h1 dL_asks_268 (Eq.refl 269) rfl (by decide) ?_
    refine xg_icmp_ge (tgt := 342) dL_asks_269 (Eq.refl 272) (by decide) h4 (hM.ai h1) ?_ ?_
    · refine xg_room (kc' := 2) (ks' := 12) ?_ (by omega) (by omega)
      refine xg_lload_n dL_asks_342 (Eq.refl 343) rfl ?_
      refine xg_lconst (z := 0) dL_asks_343 (Eq.refl 344) rfl ?_
      refine xg_lif_ne (tgt := 376) dL_asks_344 (Eq.refl 345) dL_asks_345 (Eq.refl 348) (by decide) h2 (by decide) ?_ ?_
      · refine xg_aload_n dL_asks_348 (Eq.refl 349) rfl ?_
        refine xg_callV_J (kc := 2) (ks := 12) (st := []) (mX11_best hl x0 h0 M hM) bX11_best xcl11 h0 rfl xq_280 rfl (by decide) rfl (by decide) dL_asks_349 (Eq.refl 352) rfl (by omega) (by omega) ?_
        intro z1 M2 hz1 hM2
        refine xg_aload_n dL_asks_352 (Eq.refl 353) rfl ?_
        refine xg_callV_J (kc := 2) (ks := 12) (st := [jv z1]) (mX11_bestByAll hl x0 h0 M2 hM2) bX11_bestByAll xcl11 h0 rfl xq_1022 rfl (by decide) rfl (Nat.le_of_ble_eq_true rfl) dL_asks_353 (Eq.refl 356) rfl (by omega) (by omega) ?_
        intro z3 M4 hz3 hM4
        refine xg_lif_ne (tgt := 376) dL_asks_356 (Eq.refl 357) dL_asks_357 (Eq.refl 360) (by decide) hz1 hz3 ?_ ?_
        · refine xg_aload_n dL_asks_360 (Eq.refl 361) rfl ?_
          refine xg_aload_n dL_asks_361 (Eq.refl 362) rfl ?_
          refine xg_iconst dL_asks_362 (Eq.refl 363) ?_
          refine xg_ialdk (k := 3) h1 dL_asks_363 (Eq.refl 364) rfl (by decide) ?_
          refine xg_callWC_I (kc := 0) (ks := 0) (st := []) (mL_causers hl x0 h0 (M4 x1 3) (hM4.ai h1) M4 hM4) bL_causers xq_1030 rfl (by decide) (by decide) dL_asks_364 (Eq.refl 367) rfl (by omega) (by omega) ?_
          intro z5 M6 hz5 hM6
          refine xg_bipush dL_asks_367 (Eq.refl 369) (by decide +kernel) ?_
          refine xg_icmp_ne (tgt := 376) dL_asks_369 (Eq.refl 372) (by decide) hz5 (by decide) ?_ ?_
          · refine xg_iconst dL_asks_372 (Eq.refl 373) ?_
            refine xg_goto (tgt := 377) dL_asks_373 (by decide) ?_
            exact xg_zret rfl dL_asks_377 rfl hM6 (by decide)
          · refine xg_iconst dL_asks_376 (Eq.refl 377) ?_
            exact xg_zret rfl dL_asks_377 rfl hM6 (by decide)
        · refine xg_iconst dL_asks_376 (Eq.refl 377) ?_
          exact xg_zret rfl dL_asks_377 rfl hM4 (by decide)
      · refine xg_iconst dL_asks_376 (Eq.refl 377) ?_
        exact xg_zret rfl dL_asks_377 rfl hM (by decide)
    · refine xg_aload_n dL_asks_272 (Eq.refl 273) rfl ?_
      refine xg_iload dL_asks_273 (Eq.refl 275) rfl ?_
      refine xg_callV_I (kc := ((n * 2 + 2) + 1)) (ks := ((n * 12 + 12) + 6)) (st := []) (mX11_tradeOf hl x0 h0 x4 h4 M hM) bX11_tradeOf xcl11 h0 rfl xq_503 rfl (by decide) rfl (by decide) dL_asks_275 (Eq.refl 278) rfl (by omega) (by omega) ?_
      intro z7 M8 hz7 hM8
      refine xg_istore (ls2 := [some (.ref x0), some (.ref x1), some (jv x2), none, some (iv x4), some (iv z7), none, none]) dL_asks_278 (Eq.refl 280) (by decide) rfl ?_
      refine xg_aload_n dL_asks_280 (Eq.refl 281) rfl ?_
      refine xg_iload dL_asks_281 (Eq.refl 283) rfl ?_
      refine xg_callV_I (kc := ((n * 2 + 2) + 0)) (ks := ((n * 12 + 12) + 0)) (st := []) (mX11_status hl x0 h0 x4 h4 M8 hM8) bX11_status xcl11 h0 rfl xq_237 rfl (by decide) rfl (by decide) dL_asks_283 (Eq.refl 286) rfl (by omega) (by omega) ?_
      intro z9 M10 hz9 hM10
      refine xg_istore (ls2 := [some (.ref x0), some (.ref x1), some (jv x2), none, some (iv x4), some (iv z7), some (iv z9), none]) dL_asks_286 (Eq.refl 288) (by decide) rfl ?_
      refine xg_iload dL_asks_288 (Eq.refl 290) rfl ?_
      refine xg_iconst dL_asks_290 (Eq.refl 291) ?_
      refine xg_icmp_lt (tgt := 334) dL_asks_291 (Eq.refl 294) (by decide) hz7 (by decide) ?_ ?_
      · refine xg_room (kc' := 2) (ks' := 12) ?_ (by omega) (by omega)
        refine xg_iconst dL_asks_334 (Eq.refl 335) ?_
        exact xg_zret rfl dL_asks_335 rfl hM10 (by decide)
      · refine xg_iload dL_asks_294 (Eq.refl 296) rfl ?_
        refine xg_aload_n dL_asks_296 (Eq.refl 297) rfl ?_
        refine xg_iconst dL_asks_297 (Eq.refl 298) ?_
        refine xg_ialdk (k := 3) h1 dL_asks_298 (Eq.refl 299) rfl (by decide) ?_
        refine xg_icmp_ge (tgt := 334) dL_asks_299 (Eq.refl 302) (by decide) hz7 (hM10.ai h1) ?_ ?_
        · refine xg_room (kc' := 2) (ks' := 12) ?_ (by omega) (by omega)
          refine xg_iconst dL_asks_334 (Eq.refl 335) ?_
          exact xg_zret rfl dL_asks_335 rfl hM10 (by decide)
        · refine xg_iload dL_asks_302 (Eq.refl 304) rfl ?_
          refine xg_iconst dL_asks_304 (Eq.refl 305) ?_
          refine xg_icmp_ne (tgt := 313) dL_asks_305 (Eq.refl 308) (by decide) hz9 (by decide) ?_ ?_
          · refine xg_iload dL_asks_308 (Eq.refl 310) rfl ?_
            refine xg_if_lt (tgt := 334) dL_asks_310 (Eq.refl 313) (by decide) hz7 ?_ ?_
            · refine xg_room (kc' := 2) (ks' := 12) ?_ (by omega) (by omega)
              refine xg_iconst dL_asks_334 (Eq.refl 335) ?_
              exact xg_zret rfl dL_asks_335 rfl hM10 (by decide)
            · exact xg_jump (gL_asks_313 hl ((n * 2 + 2)) ((n * 12 + 12)) (fL_asks_264 x0 x1 x2 n) x0 h0 x1 h1 x2 h2 x4 h4 z7 hz7 z9 hz9 ih M10 hM10) (xsb_s (xsb_s (xsb_s (xsb_n (xsb_s (xsb_s (xsb_s (xsb_n xsb_0)))))))) (by omega) (by omega)
          · exact xg_jump (gL_asks_313 hl ((n * 2 + 2)) ((n * 12 + 12)) (fL_asks_264 x0 x1 x2 n) x0 h0 x1 h1 x2 h2 x4 h4 z7 hz7 z9 hz9 ih M10 hM10) (xsb_s (xsb_s (xsb_s (xsb_n (xsb_s (xsb_s (xsb_s (xsb_n xsb_0)))))))) (by omega) (by omega)
theorem gL_asks_214 {l : Launch} {G : xG} (hl : l.stackTraces = false) (k s : Nat) (rc200 : Int → xM → xO) (x0 : Nat) (h0 : xOb 11 x0) (x1 : Nat) (h1 : xAn 0 5 x1) (x2 : Int) (h2 : R64 x2) (x4 : Int) (h4 : R32 x4) (hr200 : ∀ w4 : Int, R32 w4 → ∀ M : xM, xcan M → Gv l G uL_asks 21 1 k s 200 [some (.ref x0), some (.ref x1), some (jv x2), none, some (iv w4), none, none, none] [] M (rc200 w4 M)) : ∀ (n : Nat) (x5 : Int) (_ : R64 x5) (x7 : Int) (_ : R32 x7) (M : xM) (_ : xcan M), Gv l G uL_asks 21 1 (n * 2 + (k + 1)) (n * 12 + (s + 6)) 214 [some (.ref x0), some (.ref x1), some (jv x2), none, some (iv x4), some (jv x5), none, some (iv x7)] [] M (fL_asks_214 rc200 x0 x1 x2 x4 n x5 x7 M) := by
  intro n; induction n with
  | zero => intro x5 h5 x7 h7 M hM; exact xg_none
  | succ n ih =>
    intro x5 h5 x7 h7 M hM
    rw [fL_asks_214]
    refine xg_room (kc' := ((n * 2 + (k + 1)) + 2)) (ks' := ((n * 12 + (s + 6)) + 12)) ?_ (by omega) (by omega)
    refine xg_iload dL_asks_214 (Eq.refl 216) rfl ?_
    refine xg_aload_n dL_asks_216 (Eq.refl 217) rfl ?_
    refine xg_iconst dL_asks_217 (Eq.refl 218) ?_
    refine xg_ialdk (k := 0) h1 dL_asks_218 (Eq.refl 219) rfl (by decide) ?_
    refine xg_icmp_ge (tgt := 241) dL_asks_219 (Eq.refl 222) (by decide) h7 (hM.ai h1) ?_ ?_
    · refine xg_room (kc' := (k + 1)) (ks' := (s + 6)) ?_ (by omega) (by omega)
      refine xg_lload dL_asks_241 (Eq.refl 243) rfl ?_
      refine xg_aload_n dL_asks_243 (Eq.refl 244) rfl ?_
      refine xg_iload dL_asks_244 (Eq.refl 246) rfl ?_
      refine xg_callV_J (kc := (k + 0)) (ks := (s + 0)) (st := [jv x5]) (mX11_out hl x0 h0 x4 h4 M hM) bX11_out xcl11 h0 rfl xq_1018 rfl (by decide) rfl (Nat.le_of_ble_eq_true rfl) dL_asks_246 (Eq.refl 249) rfl (by omega) (by omega) ?_
      intro z1 M2 hz1 hM2
      refine xg_lif_eq (tgt := 255) dL_asks_249 (Eq.refl 250) dL_asks_250 (Eq.refl 253) (by decide) h5 hz1 ?_ ?_
      · refine xg_iinc (ls2 := [some (.ref x0), some (.ref x1), some (jv x2), none, some (iv (w32 (x4 + 1))), some (jv x5), none, some (iv x7)]) dL_asks_255 (Eq.refl 258) rfl (by decide) rfl ?_
        refine xg_goto (tgt := 200) dL_asks_258 (by decide) ?_
        exact xg_jump (hr200 (w32 (x4 + 1)) (w32_r _) M2 hM2) (xsb_s (xsb_s (xsb_s (xsb_n (xsb_s (xsb_n (xsb_n (xsb_n xsb_0)))))))) (by omega) (by omega)
      · refine xg_iconst dL_asks_253 (Eq.refl 254) ?_
        exact xg_zret rfl dL_asks_254 rfl hM2 (by decide)
    · refine xg_lload dL_asks_222 (Eq.refl 224) rfl ?_
      refine xg_aload_n dL_asks_224 (Eq.refl 225) rfl ?_
      refine xg_iload dL_asks_225 (Eq.refl 227) rfl ?_
      refine xg_iload dL_asks_227 (Eq.refl 229) rfl ?_
      refine xg_callV_J (kc := ((n * 2 + (k + 1)) + 0)) (ks := ((n * 12 + (s + 6)) + 0)) (st := [jv x5]) (mX11_units hl x0 h0 x7 h7 x4 h4 M hM) bX11_units xcl11 h0 rfl xq_217 rfl (by decide) rfl (Nat.le_of_ble_eq_true rfl) dL_asks_229 (Eq.refl 232) rfl (by omega) (by omega) ?_
      intro z4 M5 hz4 hM5
      refine xg_ladd dL_asks_232 (Eq.refl 233) ?_
      refine xg_lstoreL (P := R64) (ls2 := fun y6 => [some (.ref x0), some (.ref x1), some (jv x2), none, some (iv x4), some (jv y6), none, some (iv x7)]) dL_asks_233 (Eq.refl 235) (by decide) (w64_r _) (fun _ => rfl) ?_
      intro y6 hy6
      refine xg_iinc (ls2 := [some (.ref x0), some (.ref x1), some (jv x2), none, some (iv x4), some (jv y6), none, some (iv (w32 (x7 + 1)))]) dL_asks_235 (Eq.refl 238) rfl (by decide) rfl ?_
      refine xg_goto (tgt := 214) dL_asks_238 (by decide) ?_
      exact xg_jump (ih y6 hy6 (w32 (x7 + 1)) (w32_r _) M5 hM5) (xsb_s (xsb_s (xsb_s (xsb_n (xsb_s (xsb_s (xsb_n (xsb_s xsb_0)))))))) (by omega) (by omega)
theorem gL_asks_200 {l : Launch} {G : xG} (hl : l.stackTraces = false) (x0 : Nat) (h0 : xOb 11 x0) (x1 : Nat) (h1 : xAn 0 5 x1) (x2 : Int) (h2 : R64 x2) : ∀ (n : Nat) (x4 : Int) (_ : R32 x4) (M : xM) (_ : xcan M), Gv l G uL_asks 21 1 (n * 15 + 60) (n * 90 + 360) 200 [some (.ref x0), some (.ref x1), some (jv x2), none, some (iv x4), none, none, none] [] M (fL_asks_200 x0 x1 x2 n x4 M) := by
  intro n; induction n with
  | zero => intro x4 h4 M hM; exact xg_none
  | succ n ih =>
    intro x4 h4 M hM
    rw [fL_asks_200]
    refine xg_room (kc' := ((n * 15 + 60) + 15)) (ks' := ((n * 90 + 360) + 90)) ?_ (by omega) (by omega)
    refine xg_iload dL_asks_200 (Eq.refl 202) rfl ?_
    refine xg_aload_n dL_asks_202 (Eq.refl 203) rfl ?_
    refine xg_iconst dL_asks_203 (Eq.refl 204) ?_
    refine xg_ialdk (k := 1) h1 dL_asks_204 (Eq.refl 205) rfl (by decide) ?_
    refine xg_icmp_ge (tgt := 261) dL_asks_205 (Eq.refl 208) (by decide) h4 (hM.ai h1) ?_ ?_
    · refine xg_room (kc' := 60) (ks' := 360) ?_ (by omega) (by omega)
      refine xg_iconst dL_asks_261 (Eq.refl 262) ?_
      refine xg_istore (ls2 := [some (.ref x0), some (.ref x1), some (jv x2), none, some (iv 0), none, none, none]) dL_asks_262 (Eq.refl 264) (by decide) rfl ?_
      exact xg_jump (gL_asks_264 hl x0 h0 x1 h1 x2 h2 29 0 (by decide) M hM) (xsb_s (xsb_s (xsb_s (xsb_n (xsb_s (xsb_n (xsb_n (xsb_n xsb_0)))))))) (by omega) (by omega)
    · refine xg_lconst (z := 0) dL_asks_208 (Eq.refl 209) rfl ?_
      refine xg_lstore (ls2 := [some (.ref x0), some (.ref x1), some (jv x2), none, some (iv x4), some (jv 0), none, none]) dL_asks_209 (Eq.refl 211) (by decide) rfl ?_
      refine xg_iconst dL_asks_211 (Eq.refl 212) ?_
      refine xg_istore (ls2 := [some (.ref x0), some (.ref x1), some (jv x2), none, some (iv x4), some (jv 0), none, some (iv 0)]) dL_asks_212 (Eq.refl 214) (by decide) rfl ?_
      exact xg_jump (gL_asks_214 hl ((n * 15 + 60)) ((n * 90 + 360)) (fL_asks_200 x0 x1 x2 n) x0 h0 x1 h1 x2 h2 x4 h4 ih 7 0 (by decide) 0 (by decide) M hM) (xsb_s (xsb_s (xsb_s (xsb_n (xsb_s (xsb_s (xsb_n (xsb_s xsb_0)))))))) (by omega) (by omega)
theorem gL_asks_191 {l : Launch} {G : xG} (hl : l.stackTraces = false) (k s : Nat) (rc5 : Int → Int → xM → xO) (x0 : Nat) (h0 : xOb 11 x0) (x1 : Nat) (h1 : xAn 0 5 x1) (x2 : Int) (h2 : R64 x2) (x4 : Int) (h4 : R32 x4) (hr5 : ∀ w2 : Int, R64 w2 → ∀ w4 : Int, R32 w4 → ∀ M : xM, xcan M → Gv l G uL_asks 21 1 k s 5 [some (.ref x0), some (.ref x1), some (jv w2), none, some (iv w4), none, none, none] [] M (rc5 w2 w4 M)) (M : xM) (hM : xcan M) : Gv l G uL_asks 21 1 (k + 0) (s + 0) 191 [some (.ref x0), some (.ref x1), some (jv x2), none, some (iv x4), none, none, none] [] M (fL_asks_191 rc5 x0 x1 x2 x4 M) := by
  unfold fL_asks_191
  refine xg_iinc (ls2 := [some (.ref x0), some (.ref x1), some (jv x2), none, some (iv (w32 (x4 + 1))), none, none, none]) dL_asks_191 (Eq.refl 194) rfl (by decide) rfl ?_
  refine xg_goto (tgt := 5) dL_asks_194 (by decide) ?_
  exact xg_jump (hr5 x2 h2 (w32 (x4 + 1)) (w32_r _) M hM) (xsb_s (xsb_s (xsb_s (xsb_n (xsb_s (xsb_n (xsb_n (xsb_n xsb_0)))))))) (by omega) (by omega)
theorem gL_asks_162 {l : Launch} {G : xG} (hl : l.stackTraces = false) (k s : Nat) (rc5 : Int → Int → xM → xO) (x0 : Nat) (h0 : xOb 11 x0) (x1 : Nat) (h1 : xAn 0 5 x1) (x2 : Int) (h2 : R64 x2) (x4 : Int) (h4 : R32 x4) (hr5 : ∀ w2 : Int, R64 w2 → ∀ w4 : Int, R32 w4 → ∀ M : xM, xcan M → Gv l G uL_asks 21 1 k s 5 [some (.ref x0), some (.ref x1), some (jv w2), none, some (iv w4), none, none, none] [] M (rc5 w2 w4 M)) (M : xM) (hM : xcan M) : Gv l G uL_asks 21 1 (k + 3) (s + 18) 162 [some (.ref x0), some (.ref x1), some (jv x2), none, some (iv x4), none, none, none] [] M (fL_asks_162 rc5 x0 x1 x2 x4 M) := by
  unfold fL_asks_162
  refine xg_aload_n dL_asks_162 (Eq.refl 163) rfl ?_
  refine xg_iload dL_asks_163 (Eq.refl 165) rfl ?_
  refine xg_callV_J (kc := (k + 2)) (ks := (s + 12)) (st := []) (mX11_cash hl x0 h0 x4 h4 M hM) bX11_cash xcl11 h0 rfl xq_203 rfl (by decide) rfl (by decide) dL_asks_165 (Eq.refl 168) rfl (by omega) (by omega) ?_
  intro z1 M2 hz1 hM2
  refine xg_aload_n dL_asks_168 (Eq.refl 169) rfl ?_
  refine xg_iload dL_asks_169 (Eq.refl 171) rfl ?_
  refine xg_callV_J (kc := (k + 1)) (ks := (s + 6)) (st := [jv z1]) (mX11_pledged hl x0 h0 x4 h4 M2 hM2) bX11_pledged xcl11 h0 rfl xq_212 rfl (by decide) rfl (Nat.le_of_ble_eq_true rfl) dL_asks_171 (Eq.refl 174) rfl (by omega) (by omega) ?_
  intro z3 M4 hz3 hM4
  refine xg_lif_lt (tgt := 191) dL_asks_174 (Eq.refl 175) dL_asks_175 (Eq.refl 178) (by decide) hz1 hz3 ?_ ?_
  · exact xg_jump (gL_asks_191 hl (k) (s) rc5 x0 h0 x1 h1 x2 h2 x4 h4 hr5 M4 hM4) (xsb_s (xsb_s (xsb_s (xsb_n (xsb_s (xsb_n (xsb_n (xsb_n xsb_0)))))))) (by omega) (by omega)
  · refine xg_aload_n dL_asks_178 (Eq.refl 179) rfl ?_
    refine xg_iload dL_asks_179 (Eq.refl 181) rfl ?_
    refine xg_callV_D (kc := (k + 0)) (ks := (s + 0)) (st := []) (mX11_used hl x0 h0 x4 h4 M4 hM4) bX11_used xcl11 h0 rfl xq_1012 rfl (by decide) rfl (by decide) dL_asks_181 (Eq.refl 184) rfl (by omega) (by omega) ?_
    intro z5 M6 hz5 hM6
    refine xg_dconst0 dL_asks_184 (Eq.refl 185) ?_
    refine xg_dcmp dL_asks_185 (Eq.refl 186) ?_
    refine xg_if_eq (tgt := 191) dL_asks_186 (Eq.refl 189) (by decide) (xdcl_r _ _) ?_ ?_
    · exact xg_jump (gL_asks_191 hl (k) (s) rc5 x0 h0 x1 h1 x2 h2 x4 h4 hr5 M6 hM6) (xsb_s (xsb_s (xsb_s (xsb_n (xsb_s (xsb_n (xsb_n (xsb_n xsb_0)))))))) (by omega) (by omega)
    · refine xg_iconst dL_asks_189 (Eq.refl 190) ?_
      exact xg_zret rfl dL_asks_190 rfl hM6 (by decide)
theorem gL_asks_85 {l : Launch} {G : xG} (hl : l.stackTraces = false) (k s : Nat) (rc57 : Int → Int → xM → xO) (x0 : Nat) (h0 : xOb 11 x0) (x1 : Nat) (h1 : xAn 0 5 x1) (x2 : Int) (h2 : R64 x2) (x4 : Int) (h4 : R32 x4) (x6 : Int) (h6 : R32 x6) (s0 : Int) (hs0 : B01 s0) (s1 : Int) (hs1 : B01 s1) (hr57 : ∀ w5 : Int, B01 w5 → ∀ w6 : Int, R32 w6 → ∀ M : xM, xcan M → Gv l G uL_asks 21 1 k s 57 [some (.ref x0), some (.ref x1), some (jv x2), none, some (iv x4), some (iv w5), some (iv w6), none] [] M (rc57 w5 w6 M)) (M : xM) (hM : xcan M) : Gv l G uL_asks 21 1 (k + 6) (s + 36) 85 [some (.ref x0), some (.ref x1), some (jv x2), none, some (iv x4), none, some (iv x6), none] [iv s0, iv s1] M (fL_asks_85 rc57 x0 x1 x2 x4 x6 s0 s1 M) := by
  unfold fL_asks_85
  refine xg_iand dL_asks_85 (Eq.refl 86) ?_
  refine xg_istore (ls2 := [some (.ref x0), some (.ref x1), some (jv x2), none, some (iv x4), some (iv (xand s1 s0)), some (iv x6), none]) dL_asks_86 (Eq.refl 88) (by decide) rfl ?_
  refine xg_aload_n dL_asks_88 (Eq.refl 89) rfl ?_
  refine xg_iload dL_asks_89 (Eq.refl 91) rfl ?_
  refine xg_iload dL_asks_91 (Eq.refl 93) rfl ?_
  refine xg_callV_J (kc := (k + 4)) (ks := (s + 24)) (st := []) (mX11_free hl x0 h0 x4 h4 x6 h6 M hM) bX11_free xcl11 h0 rfl xq_229 rfl (by decide) rfl (by decide) dL_asks_93 (Eq.refl 96) rfl (by omega) (by omega) ?_
  intro z1 M2 hz1 hM2
  refine xg_aload_n dL_asks_96 (Eq.refl 97) rfl ?_
  refine xg_iload dL_asks_97 (Eq.refl 99) rfl ?_
  refine xg_iload dL_asks_99 (Eq.refl 101) rfl ?_
  refine xg_callV_J (kc := (k + 2)) (ks := (s + 12)) (st := [jv z1]) (mX11_units hl x0 h0 x4 h4 x6 h6 M2 hM2) bX11_units xcl11 h0 rfl xq_217 rfl (by decide) rfl (Nat.le_of_ble_eq_true rfl) dL_asks_101 (Eq.refl 104) rfl (by omega) (by omega) ?_
  intro z3 M4 hz3 hM4
  refine xg_lif_gt (tgt := 121) dL_asks_104 (Eq.refl 105) dL_asks_105 (Eq.refl 108) (by decide) hz1 hz3 ?_ ?_
  · refine xg_iconst dL_asks_121 (Eq.refl 122) ?_
    exact xg_zret rfl dL_asks_122 rfl hM4 (by decide)
  · refine xg_aload_n dL_asks_108 (Eq.refl 109) rfl ?_
    refine xg_iload dL_asks_109 (Eq.refl 111) rfl ?_
    refine xg_iload dL_asks_111 (Eq.refl 113) rfl ?_
    refine xg_callV_J (kc := (k + 0)) (ks := (s + 0)) (st := []) (mX11_units hl x0 h0 x4 h4 x6 h6 M4 hM4) bX11_units xcl11 h0 rfl xq_217 rfl (by decide) rfl (by decide) dL_asks_113 (Eq.refl 116) rfl (by omega) (by omega) ?_
    intro z5 M6 hz5 hM6
    refine xg_lconst (z := 0) dL_asks_116 (Eq.refl 117) rfl ?_
    refine xg_lif_ge (tgt := 123) dL_asks_117 (Eq.refl 118) dL_asks_118 (Eq.refl 121) (by decide) hz5 (by decide) ?_ ?_
    · refine xg_iinc (ls2 := [some (.ref x0), some (.ref x1), some (jv x2), none, some (iv x4), some (iv (xand s1 s0)), some (iv (w32 (x6 + 1))), none]) dL_asks_123 (Eq.refl 126) rfl (by decide) rfl ?_
      refine xg_goto (tgt := 57) dL_asks_126 (by decide) ?_
      exact xg_jump (hr57 (xand s1 s0) (xand_b hs1 hs0) (w32 (x6 + 1)) (w32_r _) M6 hM6) (xsb_s (xsb_s (xsb_s (xsb_n (xsb_s (xsb_s (xsb_s (xsb_n xsb_0)))))))) (by omega) (by omega)
    · refine xg_iconst dL_asks_121 (Eq.refl 122) ?_
      exact xg_zret rfl dL_asks_122 rfl hM6 (by decide)
theorem gL_asks_57 {l : Launch} {G : xG} (hl : l.stackTraces = false) (k s : Nat) (rc5 : Int → Int → xM → xO) (x0 : Nat) (h0 : xOb 11 x0) (x1 : Nat) (h1 : xAn 0 5 x1) (x2 : Int) (h2 : R64 x2) (x4 : Int) (h4 : R32 x4) (hr5 : ∀ w2 : Int, R64 w2 → ∀ w4 : Int, R32 w4 → ∀ M : xM, xcan M → Gv l G uL_asks 21 1 k s 5 [some (.ref x0), some (.ref x1), some (jv w2), none, some (iv w4), none, none, none] [] M (rc5 w2 w4 M)) : ∀ (n : Nat) (x5 : Int) (_ : B01 x5) (x6 : Int) (_ : R32 x6) (M : xM) (_ : xcan M), Gv l G uL_asks 21 1 (n * 8 + (k + 6)) (n * 48 + (s + 36)) 57 [some (.ref x0), some (.ref x1), some (jv x2), none, some (iv x4), some (iv x5), some (iv x6), none] [] M (fL_asks_57 rc5 x0 x1 x2 x4 n x5 x6 M) := by
  intro n; induction n with
  | zero => intro x5 h5 x6 h6 M hM; exact xg_none
  | succ n ih =>
    intro x5 h5 x6 h6 M hM
    rw [fL_asks_57]
    refine xg_room (kc' := ((n * 8 + (k + 6)) + 8)) (ks' := ((n * 48 + (s + 36)) + 48)) ?_ (by omega) (by omega)
    refine xg_iload dL_asks_57 (Eq.refl 59) rfl ?_
    refine xg_aload_n dL_asks_59 (Eq.refl 60) rfl ?_
    refine xg_iconst dL_asks_60 (Eq.refl 61) ?_
    refine xg_ialdk (k := 1) h1 dL_asks_61 (Eq.refl 62) rfl (by decide) ?_
    refine xg_icmp_ge (tgt := 129) dL_asks_62 (Eq.refl 65) (by decide) h6 (hM.ai h1) ?_ ?_
    · refine xg_room (kc' := (k + 6)) (ks' := (s + 36)) ?_ (by omega) (by omega)
      refine xg_aload_n dL_asks_129 (Eq.refl 130) rfl ?_
      refine xg_iload dL_asks_130 (Eq.refl 132) rfl ?_
      refine xg_callV_Z (kc := (k + 5)) (ks := (s + 30)) (st := []) (mX11_isSound hl x0 h0 x4 h4 M hM) bX11_isSound xcl11 h0 rfl xq_1007 rfl (by decide) rfl (by decide) dL_asks_132 (Eq.refl 135) rfl (by omega) (by omega) ?_
      intro z1 M2 hz1 hM2
      refine xg_iload dL_asks_135 (Eq.refl 137) rfl ?_
      refine xg_icmp_ne (tgt := 189) dL_asks_137 (Eq.refl 140) (by decide) (B01.r hz1) (B01.r h5) ?_ ?_
      · refine xg_aload_n dL_asks_140 (Eq.refl 141) rfl ?_
        refine xg_iload dL_asks_141 (Eq.refl 143) rfl ?_
        refine xg_callV_D (kc := (k + 4)) (ks := (s + 24)) (st := []) (mX11_used hl x0 h0 x4 h4 M2 hM2) bX11_used xcl11 h0 rfl xq_1012 rfl (by decide) rfl (by decide) dL_asks_143 (Eq.refl 146) rfl (by omega) (by omega) ?_
        intro z3 M4 hz3 hM4
        refine xg_dconst0 dL_asks_146 (Eq.refl 147) ?_
        refine xg_dcmpg dL_asks_147 (Eq.refl 148) ?_
        refine xg_if_ge (tgt := 162) dL_asks_148 (Eq.refl 151) (by decide) (xdcg_r _ _) ?_ ?_
        · exact xg_jump (gL_asks_162 hl (k) (s) rc5 x0 h0 x1 h1 x2 h2 x4 h4 hr5 M4 hM4) (xsb_s (xsb_s (xsb_s (xsb_n (xsb_s (xsb_n (xsb_n (xsb_n xsb_0)))))))) (by omega) (by omega)
        · refine xg_aload_n dL_asks_151 (Eq.refl 152) rfl ?_
          refine xg_iload dL_asks_152 (Eq.refl 154) rfl ?_
          refine xg_callV_J (kc := (k + 3)) (ks := (s + 18)) (st := []) (mX11_limit hl x0 h0 x4 h4 M4 hM4) bX11_limit xcl11 h0 rfl xq_1002 rfl (by decide) rfl (by decide) dL_asks_154 (Eq.refl 157) rfl (by omega) (by omega) ?_
          intro z5 M6 hz5 hM6
          refine xg_lconst (z := 0) dL_asks_157 (Eq.refl 158) rfl ?_
          refine xg_lif_ge (tgt := 189) dL_asks_158 (Eq.refl 159) dL_asks_159 (Eq.refl 162) (by decide) hz5 (by decide) ?_ ?_
          · refine xg_iconst dL_asks_189 (Eq.refl 190) ?_
            exact xg_zret rfl dL_asks_190 rfl hM6 (by decide)
          · exact xg_jump (gL_asks_162 hl (k) (s) rc5 x0 h0 x1 h1 x2 h2 x4 h4 hr5 M6 hM6) (xsb_s (xsb_s (xsb_s (xsb_n (xsb_s (xsb_n (xsb_n (xsb_n xsb_0)))))))) (by omega) (by omega)
      · refine xg_iconst dL_asks_189 (Eq.refl 190) ?_
        exact xg_zret rfl dL_asks_190 rfl hM2 (by decide)
    · refine xg_iload dL_asks_65 (Eq.refl 67) rfl ?_
      refine xg_aload_n dL_asks_67 (Eq.refl 68) rfl ?_
      refine xg_iload dL_asks_68 (Eq.refl 70) rfl ?_
      refine xg_iload dL_asks_70 (Eq.refl 72) rfl ?_
      refine xg_callV_J (kc := ((n * 8 + (k + 6)) + 6)) (ks := ((n * 48 + (s + 36)) + 36)) (st := [iv x5]) (mX11_free hl x0 h0 x4 h4 x6 h6 M hM) bX11_free xcl11 h0 rfl xq_229 rfl (by decide) rfl (Nat.le_of_ble_eq_true rfl) dL_asks_72 (Eq.refl 75) rfl (by omega) (by omega) ?_
      intro z7 M8 hz7 hM8
      refine xg_lconst (z := 0) dL_asks_75 (Eq.refl 76) rfl ?_
      refine xg_lif_lt (tgt := 84) dL_asks_76 (Eq.refl 77) dL_asks_77 (Eq.refl 80) (by decide) hz7 (by decide) ?_ ?_
      · refine xg_iconst dL_asks_84 (Eq.refl 85) ?_
        exact xg_jump (gL_asks_85 hl ((n * 8 + (k + 6))) ((n * 48 + (s + 36))) (fL_asks_57 rc5 x0 x1 x2 x4 n) x0 h0 x1 h1 x2 h2 x4 h4 x6 h6 0 (by decide) x5 h5 ih M8 hM8) (xsb_s (xsb_s (xsb_s (xsb_n (xsb_s (xsb_n (xsb_s (xsb_n xsb_0)))))))) (by omega) (by omega)
      · refine xg_iconst dL_asks_80 (Eq.refl 81) ?_
        refine xg_goto (tgt := 85) dL_asks_81 (by decide) ?_
        exact xg_jump (gL_asks_85 hl ((n * 8 + (k + 6))) ((n * 48 + (s + 36))) (fL_asks_57 rc5 x0 x1 x2 x4 n) x0 h0 x1 h1 x2 h2 x4 h4 x6 h6 1 (by decide) x5 h5 ih M8 hM8) (xsb_s (xsb_s (xsb_s (xsb_n (xsb_s (xsb_n (xsb_s (xsb_n xsb_0)))))))) (by omega) (by omega)
theorem gL_asks_52 {l : Launch} {G : xG} (hl : l.stackTraces = false) (k s : Nat) (rc5 : Int → Int → xM → xO) (x0 : Nat) (h0 : xOb 11 x0) (x1 : Nat) (h1 : xAn 0 5 x1) (x2 : Int) (h2 : R64 x2) (x4 : Int) (h4 : R32 x4) (s0 : Int) (hs0 : B01 s0) (hr5 : ∀ w2 : Int, R64 w2 → ∀ w4 : Int, R32 w4 → ∀ M : xM, xcan M → Gv l G uL_asks 21 1 k s 5 [some (.ref x0), some (.ref x1), some (jv w2), none, some (iv w4), none, none, none] [] M (rc5 w2 w4 M)) (M : xM) (hM : xcan M) : Gv l G uL_asks 21 1 (k + 30) (s + 180) 52 [some (.ref x0), some (.ref x1), some (jv x2), none, some (iv x4), none, none, none] [iv s0] M (fL_asks_52 rc5 x0 x1 x2 x4 s0 M) := by
  unfold fL_asks_52
  refine xg_istore (ls2 := [some (.ref x0), some (.ref x1), some (jv x2), none, some (iv x4), some (iv s0), none, none]) dL_asks_52 (Eq.refl 54) (by decide) rfl ?_
  refine xg_iconst dL_asks_54 (Eq.refl 55) ?_
  refine xg_istore (ls2 := [some (.ref x0), some (.ref x1), some (jv x2), none, some (iv x4), some (iv s0), some (iv 0), none]) dL_asks_55 (Eq.refl 57) (by decide) rfl ?_
  exact xg_jump (gL_asks_57 hl (k) (s) rc5 x0 h0 x1 h1 x2 h2 x4 h4 hr5 3 s0 hs0 0 (by decide) M hM) (xsb_s (xsb_s (xsb_s (xsb_n (xsb_s (xsb_s (xsb_s (xsb_n xsb_0)))))))) (by omega) (by omega)
theorem gL_asks_5 {l : Launch} {G : xG} (hl : l.stackTraces = false) (x0 : Nat) (h0 : xOb 11 x0) (x1 : Nat) (h1 : xAn 0 5 x1) : ∀ (n : Nat) (x2 : Int) (_ : R64 x2) (x4 : Int) (_ : R32 x4) (M : xM) (_ : xcan M), Gv l G uL_asks 21 1 (n * 34 + 105) (n * 204 + 630) 5 [some (.ref x0), some (.ref x1), some (jv x2), none, some (iv x4), none, none, none] [] M (fL_asks_5 x0 x1 n x2 x4 M) := by
  intro n; induction n with
  | zero => intro x2 h2 x4 h4 M hM; exact xg_none
  | succ n ih =>
    intro x2 h2 x4 h4 M hM
    rw [fL_asks_5]
    refine xg_room (kc' := ((n * 34 + 105) + 34)) (ks' := ((n * 204 + 630) + 204)) ?_ (by omega) (by omega)
    refine xg_iload dL_asks_5 (Eq.refl 7) rfl ?_
    refine xg_aload_n dL_asks_7 (Eq.refl 8) rfl ?_
    refine xg_iconst dL_asks_8 (Eq.refl 9) ?_
    refine xg_ialdk (k := 0) h1 dL_asks_9 (Eq.refl 10) rfl (by decide) ?_
    refine xg_icmp_ge (tgt := 197) dL_asks_10 (Eq.refl 13) (by decide) h4 (hM.ai h1) ?_ ?_
    · refine xg_room (kc' := 105) (ks' := 630) ?_ (by omega) (by omega)
      refine xg_iconst dL_asks_197 (Eq.refl 198) ?_
      refine xg_istore (ls2 := [some (.ref x0), some (.ref x1), some (jv x2), none, some (iv 0), none, none, none]) dL_asks_198 (Eq.refl 200) (by decide) rfl ?_
      exact xg_jump (gL_asks_200 hl x0 h0 x1 h1 x2 h2 3 0 (by decide) M hM) (xsb_s (xsb_s (xsb_s (xsb_n (xsb_s (xsb_n (xsb_n (xsb_n xsb_0)))))))) (by omega) (by omega)
    · refine xg_lload_n dL_asks_13 (Eq.refl 14) rfl ?_
      refine xg_aload_n dL_asks_14 (Eq.refl 15) rfl ?_
      refine xg_iload dL_asks_15 (Eq.refl 17) rfl ?_
      refine xg_callV_J (kc := ((n * 34 + 105) + 33)) (ks := ((n * 204 + 630) + 198)) (st := [jv x2]) (mX11_ledger hl x0 h0 x4 h4 M hM) bX11_ledger xcl11 h0 rfl xq_207 rfl (by decide) rfl (Nat.le_of_ble_eq_true rfl) dL_asks_17 (Eq.refl 20) rfl (by omega) (by omega) ?_
      intro z1 M2 hz1 hM2
      refine xg_ladd dL_asks_20 (Eq.refl 21) ?_
      refine xg_lstore_nL (P := R64) (ls2 := fun y3 => [some (.ref x0), some (.ref x1), some (jv y3), none, some (iv x4), none, none, none]) dL_asks_21 (Eq.refl 22) (by decide) (w64_r _) (fun _ => rfl) ?_
      intro y3 hy3
      refine xg_aload_n dL_asks_22 (Eq.refl 23) rfl ?_
      refine xg_iload dL_asks_23 (Eq.refl 25) rfl ?_
      refine xg_callV_J (kc := ((n * 34 + 105) + 32)) (ks := ((n * 204 + 630) + 192)) (st := []) (mX11_cash hl x0 h0 x4 h4 M2 hM2) bX11_cash xcl11 h0 rfl xq_203 rfl (by decide) rfl (by decide) dL_asks_25 (Eq.refl 28) rfl (by omega) (by omega) ?_
      intro z4 M5 hz4 hM5
      refine xg_aload_n dL_asks_28 (Eq.refl 29) rfl ?_
      refine xg_iload dL_asks_29 (Eq.refl 31) rfl ?_
      refine xg_callV_J (kc := ((n * 34 + 105) + 31)) (ks := ((n * 204 + 630) + 186)) (st := [jv z4]) (mX11_pledged hl x0 h0 x4 h4 M5 hM5) bX11_pledged xcl11 h0 rfl xq_212 rfl (by decide) rfl (Nat.le_of_ble_eq_true rfl) dL_asks_31 (Eq.refl 34) rfl (by omega) (by omega) ?_
      intro z6 M7 hz6 hM7
      refine xg_lsub dL_asks_34 (Eq.refl 35) ?_
      refine xg_aload_n dL_asks_35 (Eq.refl 36) rfl ?_
      refine xg_iload dL_asks_36 (Eq.refl 38) rfl ?_
      refine xg_callV_J (kc := ((n * 34 + 105) + 30)) (ks := ((n * 204 + 630) + 180)) (st := [jv (w64 (z4 - z6))]) (mX11_limit hl x0 h0 x4 h4 M7 hM7) bX11_limit xcl11 h0 rfl xq_1002 rfl (by decide) rfl (Nat.le_of_ble_eq_true rfl) dL_asks_38 (Eq.refl 41) rfl (by omega) (by omega) ?_
      intro z8 M9 hz8 hM9
      refine xg_ladd dL_asks_41 (Eq.refl 42) ?_
      refine xg_lconst (z := 0) dL_asks_42 (Eq.refl 43) rfl ?_
      refine xg_lif_lt (tgt := 51) dL_asks_43 (Eq.refl 44) dL_asks_44 (Eq.refl 47) (by decide) (w64_r _) (by decide) ?_ ?_
      · refine xg_iconst dL_asks_51 (Eq.refl 52) ?_
        exact xg_jump (gL_asks_52 hl ((n * 34 + 105)) ((n * 204 + 630)) (fL_asks_5 x0 x1 n) x0 h0 x1 h1 y3 hy3 x4 h4 0 (by decide) ih M9 hM9) (xsb_s (xsb_s (xsb_s (xsb_n (xsb_s (xsb_n (xsb_n (xsb_n xsb_0)))))))) (by omega) (by omega)
      · refine xg_iconst dL_asks_47 (Eq.refl 48) ?_
        refine xg_goto (tgt := 52) dL_asks_48 (by decide) ?_
        exact xg_jump (gL_asks_52 hl ((n * 34 + 105)) ((n * 204 + 630)) (fL_asks_5 x0 x1 n) x0 h0 x1 h1 y3 hy3 x4 h4 1 (by decide) ih M9 hM9) (xsb_s (xsb_s (xsb_s (xsb_n (xsb_s (xsb_n (xsb_n (xsb_n xsb_0)))))))) (by omega) (by omega)
theorem mL_asks {l : Launch} {G : xG} (hl : l.stackTraces = false) (x0 : Nat) (h0 : xOb 11 x0) (x1 : Nat) (h1 : xAn 0 5 x1) (M : xM) (hM : xcan M) : Cm l G yL_asks cL_asks 8 (some .boolean) 21 1 343 2058 [.ref x0, .ref x1] M (fL_asks x0 x1 M) := by
  refine xcm_of (u := uL_asks) (ls := [some (.ref x0), some (.ref x1), none, none, none, none, none, none]) 6 hl rfl (by decide +kernel) (Nat.le_of_ble_eq_true rfl) rfl ?_
  unfold fL_asks
  refine xg_lconst (z := 0) dL_asks_0 (Eq.refl 1) rfl ?_
  refine xg_lstore_n (ls2 := [some (.ref x0), some (.ref x1), some (jv 0), none, none, none, none, none]) dL_asks_1 (Eq.refl 2) (by decide) rfl ?_
  refine xg_iconst dL_asks_2 (Eq.refl 3) ?_
  refine xg_istore (ls2 := [some (.ref x0), some (.ref x1), some (jv 0), none, some (iv 0), none, none, none]) dL_asks_3 (Eq.refl 5) (by decide) rfl ?_
  exact xg_jump (gL_asks_5 hl x0 h0 x1 h1 7 0 (by decide) 0 (by decide) M hM) (xsb_s (xsb_s (xsb_s (xsb_n (xsb_s (xsb_n (xsb_n (xsb_n xsb_0)))))))) (by omega) (by omega)
abbrev uL_instruct : xU := (RL, cL_instruct, 12, (some .int), [], "instruct")
theorem bL_instruct : xYS yL_instruct cL_instruct 12 (some .int) 3 := ⟨xq_428, xq_117, xq_429, ⟨by decide +kernel, by decide +kernel, by decide +kernel⟩, by decide⟩
theorem gL_instruct_269 {l : Launch} {G : xG} (hl : l.stackTraces = false) (x10 : Int) (h10 : R32 x10) (s0 : Int) (hs0 : B01 s0) (s1 : Int) (hs1 : R32 s1) (s2 : Int) (hs2 : R32 s2) (s3 : Nat) (hs3 : xAn 0 5 s3) (M : xM) (hM : xcan M) : Gv l G uL_instruct 6 0 0 0 269 [none, none, none, none, none, none, none, none, none, none, some (iv x10), none] [iv s0, iv s1, iv s2, .ref s3] M (fL_instruct_269 x10 s0 s1 s2 s3 M) := by
  unfold fL_instruct_269
  refine xg_iadd dL_instruct_269 (Eq.refl 270) ?_
  refine xg_iast hs3 dL_instruct_270 (Eq.refl 271) hM (w32_r _) ?_
  intro M1 hM1
  refine xg_iload dL_instruct_271 (Eq.refl 273) rfl ?_
  exact xg_iret rfl dL_instruct_273 rfl hM1 h10
theorem gL_instruct_198 {l : Launch} {G : xG} (hl : l.stackTraces = false) (x0 : Nat) (h0 : xOb 11 x0) (x1 : Nat) (h1 : xAn 0 5 x1) (x2 : Int) (h2 : R32 x2) (x3 : Int) (h3 : R32 x3) (x4 : Int) (h4 : R32 x4) (x5 : Int) (h5 : R32 x5) (x6 : Int) (h6 : R32 x6) (x7 : Int) (h7 : R32 x7) (x8 : Int) (h8 : R32 x8) (x9 : Int) (h9 : R32 x9) (x10 : Int) (h10 : R32 x10) (s0 : Int) (hs0 : B01 s0) (s1 : Int) (hs1 : R32 s1) (s2 : Int) (hs2 : R32 s2) (s3 : Nat) (hs3 : xAn 0 5 s3) (M : xM) (hM : xcan M) : Gv l G uL_instruct 6 0 12 72 198 [some (.ref x0), some (.ref x1), some (iv x2), some (iv x3), some (iv x4), some (iv x5), some (iv x6), some (iv x7), some (iv x8), some (iv x9), some (iv x10), none] [iv s0, iv s1, iv s2, .ref s3] M (fL_instruct_198 x0 x1 x2 x3 x4 x5 x6 x7 x8 x9 x10 s0 s1 s2 s3 M) := by
  unfold fL_instruct_198
  refine xg_iadd dL_instruct_198 (Eq.refl 199) ?_
  refine xg_iast hs3 dL_instruct_199 (Eq.refl 200) hM (w32_r _) ?_
  intro M1 hM1
  refine xg_aload_n dL_instruct_200 (Eq.refl 201) rfl ?_
  refine xg_iload dL_instruct_201 (Eq.refl 203) rfl ?_
  refine xg_iload_n dL_instruct_203 (Eq.refl 204) rfl ?_
  refine xg_iconst dL_instruct_204 (Eq.refl 205) ?_
  refine xg_iload dL_instruct_205 (Eq.refl 207) rfl ?_
  refine xg_iload dL_instruct_207 (Eq.refl 209) rfl ?_
  refine xg_iload dL_instruct_209 (Eq.refl 211) rfl ?_
  refine xg_iload_n dL_instruct_211 (Eq.refl 212) rfl ?_
  refine xg_bipush dL_instruct_212 (Eq.refl 214) (by decide +kernel) ?_
  refine xg_ishr dL_instruct_214 (Eq.refl 215) ?_
  refine xg_iconst dL_instruct_215 (Eq.refl 216) ?_
  refine xg_callS_I (kc := 12) (ks := 72) (st := [iv x7, iv x6, iv x5, iv 0, iv x3, iv x4, .ref x0]) (mL_low hl (xshr x2 13) (xshr_r _ _) 4 (by decide) M1 hM1) bL_low xq_120 rfl (by decide) rfl (Nat.le_of_ble_eq_true rfl) dL_instruct_216 (Eq.refl 219) rfl (by omega) (by omega) ?_
  intro z2 M3 hz2 hM3
  refine xg_iadd dL_instruct_219 (Eq.refl 220) ?_
  refine xg_iload dL_instruct_220 (Eq.refl 222) rfl ?_
  refine xg_iload dL_instruct_222 (Eq.refl 224) rfl ?_
  refine xg_callWC_I (kc := 1) (ks := 6) (st := []) (mL_instructs hl x0 h0 x4 h4 x3 h3 0 (by decide) x5 h5 x6 h6 (w32 (x7 + z2)) (w32_r _) x8 h8 x9 h9 M3 hM3) bL_instructs xq_430 rfl (by decide) (by decide) dL_instruct_224 (Eq.refl 227) rfl (by omega) (by omega) ?_
  intro z4 M5 hz4 hM5
  refine xg_istore (ls2 := [some (.ref x0), some (.ref x1), some (iv x2), some (iv x3), some (iv x4), some (iv x5), some (iv x6), some (iv x7), some (iv x8), some (iv x9), some (iv x10), some (iv z4)]) dL_instruct_227 (Eq.refl 229) (by decide) rfl ?_
  refine xg_iload dL_instruct_229 (Eq.refl 231) rfl ?_
  refine xg_iload dL_instruct_231 (Eq.refl 233) rfl ?_
  refine xg_iconst dL_instruct_233 (Eq.refl 234) ?_
  refine xg_iadd dL_instruct_234 (Eq.refl 235) ?_
  refine xg_icmp_eq (tgt := 241) dL_instruct_235 (Eq.refl 238) (by decide) hz4 (w32_r _) ?_ ?_
  · refine xg_aload_n dL_instruct_241 (Eq.refl 242) rfl ?_
    refine xg_iconst dL_instruct_242 (Eq.refl 243) ?_
    refine xg_dup2 dL_instruct_243 (Eq.refl 244) rfl rfl ?_
    refine xg_ialdk (k := 2) h1 dL_instruct_244 (Eq.refl 245) rfl (by decide) ?_
    refine xg_iconst dL_instruct_245 (Eq.refl 246) ?_
    refine xg_iadd dL_instruct_246 (Eq.refl 247) ?_
    refine xg_iastk (k := 2) h1 dL_instruct_247 (Eq.refl 248) rfl (by decide) hM5 (w32_r _) ?_
    intro M6 hM6
    refine xg_aload_n dL_instruct_248 (Eq.refl 249) rfl ?_
    refine xg_iconst dL_instruct_249 (Eq.refl 250) ?_
    refine xg_dup2 dL_instruct_250 (Eq.refl 251) rfl rfl ?_
    refine xg_ialdk (k := 3) h1 dL_instruct_251 (Eq.refl 252) rfl (by decide) ?_
    refine xg_aload_n dL_instruct_252 (Eq.refl 253) rfl ?_
    refine xg_iload dL_instruct_253 (Eq.refl 255) rfl ?_
    refine xg_callV_I (kc := 0) (ks := 0) (st := [iv (M6 x1 3), iv 3, .ref x1]) (mX11_tradeOf hl x0 h0 z4 hz4 M6 hM6) bX11_tradeOf xcl11 h0 rfl xq_503 rfl (by decide) rfl (Nat.le_of_ble_eq_true rfl) dL_instruct_255 (Eq.refl 258) rfl (by omega) (by omega) ?_
    intro z7 M8 hz7 hM8
    refine xg_aload_n dL_instruct_258 (Eq.refl 259) rfl ?_
    refine xg_iconst dL_instruct_259 (Eq.refl 260) ?_
    refine xg_ialdk (k := 3) h1 dL_instruct_260 (Eq.refl 261) rfl (by decide) ?_
    refine xg_icmp_ne (tgt := 268) dL_instruct_261 (Eq.refl 264) (by decide) hz7 (hM8.ai h1) ?_ ?_
    · refine xg_iconst dL_instruct_264 (Eq.refl 265) ?_
      refine xg_goto (tgt := 269) dL_instruct_265 (by decide) ?_
      exact xg_jump (gL_instruct_269 hl x10 h10 1 (by decide) (M6 x1 3) (hM6.ai h1) 3 (by decide) x1 h1 M8 hM8) (xsb_n (xsb_n (xsb_n (xsb_n (xsb_n (xsb_n (xsb_n (xsb_n (xsb_n (xsb_n (xsb_s (xsb_n xsb_0)))))))))))) (by omega) (by omega)
    · refine xg_iconst dL_instruct_268 (Eq.refl 269) ?_
      exact xg_jump (gL_instruct_269 hl x10 h10 0 (by decide) (M6 x1 3) (hM6.ai h1) 3 (by decide) x1 h1 M8 hM8) (xsb_n (xsb_n (xsb_n (xsb_n (xsb_n (xsb_n (xsb_n (xsb_n (xsb_n (xsb_n (xsb_s (xsb_n xsb_0)))))))))))) (by omega) (by omega)
  · refine xg_bipush dL_instruct_238 (Eq.refl 240) (by decide +kernel) ?_
    exact xg_iret rfl dL_instruct_240 rfl hM5 (by decide)
theorem gL_instruct_143 {l : Launch} {G : xG} (hl : l.stackTraces = false) (x0 : Nat) (h0 : xOb 11 x0) (x1 : Nat) (h1 : xAn 0 5 x1) (x2 : Int) (h2 : R32 x2) (x3 : Int) (h3 : R32 x3) (x4 : Int) (h4 : R32 x4) (x5 : Int) (h5 : R32 x5) (x6 : Int) (h6 : R32 x6) (x7 : Int) (h7 : R32 x7) (x8 : Int) (h8 : R32 x8) (s0 : Int) (hs0 : R32 s0) (M : xM) (hM : xcan M) : Gv l G uL_instruct 6 0 24 144 143 [some (.ref x0), some (.ref x1), some (iv x2), some (iv x3), some (iv x4), some (iv x5), some (iv x6), some (iv x7), some (iv x8), none, none, none] [iv s0] M (fL_instruct_143 x0 x1 x2 x3 x4 x5 x6 x7 x8 s0 M) := by
  unfold fL_instruct_143
  refine xg_istore (ls2 := [some (.ref x0), some (.ref x1), some (iv x2), some (iv x3), some (iv x4), some (iv x5), some (iv x6), some (iv x7), some (iv x8), some (iv s0), none, none]) dL_instruct_143 (Eq.refl 145) (by decide) rfl ?_
  refine xg_aload_n dL_instruct_145 (Eq.refl 146) rfl ?_
  refine xg_iload_n dL_instruct_146 (Eq.refl 147) rfl ?_
  refine xg_iload dL_instruct_147 (Eq.refl 149) rfl ?_
  refine xg_iconst dL_instruct_149 (Eq.refl 150) ?_
  refine xg_iload dL_instruct_150 (Eq.refl 152) rfl ?_
  refine xg_iload dL_instruct_152 (Eq.refl 154) rfl ?_
  refine xg_iload dL_instruct_154 (Eq.refl 156) rfl ?_
  refine xg_iload dL_instruct_156 (Eq.refl 158) rfl ?_
  refine xg_iload dL_instruct_158 (Eq.refl 160) rfl ?_
  refine xg_callWC_I (kc := 13) (ks := 78) (st := []) (mL_instructs hl x0 h0 x3 h3 x4 h4 1 (by decide) x5 h5 x6 h6 x7 h7 x8 h8 s0 hs0 M hM) bL_instructs xq_430 rfl (by decide) (by decide) dL_instruct_160 (Eq.refl 163) rfl (by omega) (by omega) ?_
  intro z1 M2 hz1 hM2
  refine xg_istore (ls2 := [some (.ref x0), some (.ref x1), some (iv x2), some (iv x3), some (iv x4), some (iv x5), some (iv x6), some (iv x7), some (iv x8), some (iv s0), some (iv z1), none]) dL_instruct_163 (Eq.refl 165) (by decide) rfl ?_
  refine xg_iload dL_instruct_165 (Eq.refl 167) rfl ?_
  refine xg_if_lt (tgt := 271) dL_instruct_167 (Eq.refl 170) (by decide) hz1 ?_ ?_
  · refine xg_iload dL_instruct_271 (Eq.refl 273) rfl ?_
    exact xg_iret rfl dL_instruct_273 rfl hM2 hz1
  · refine xg_aload_n dL_instruct_170 (Eq.refl 171) rfl ?_
    refine xg_iconst dL_instruct_171 (Eq.refl 172) ?_
    refine xg_dup2 dL_instruct_172 (Eq.refl 173) rfl rfl ?_
    refine xg_ialdk (k := 2) h1 dL_instruct_173 (Eq.refl 174) rfl (by decide) ?_
    refine xg_iconst dL_instruct_174 (Eq.refl 175) ?_
    refine xg_iadd dL_instruct_175 (Eq.refl 176) ?_
    refine xg_iastk (k := 2) h1 dL_instruct_176 (Eq.refl 177) rfl (by decide) hM2 (w32_r _) ?_
    intro M3 hM3
    refine xg_aload_n dL_instruct_177 (Eq.refl 178) rfl ?_
    refine xg_iconst dL_instruct_178 (Eq.refl 179) ?_
    refine xg_dup2 dL_instruct_179 (Eq.refl 180) rfl rfl ?_
    refine xg_ialdk (k := 3) h1 dL_instruct_180 (Eq.refl 181) rfl (by decide) ?_
    refine xg_aload_n dL_instruct_181 (Eq.refl 182) rfl ?_
    refine xg_iload dL_instruct_182 (Eq.refl 184) rfl ?_
    refine xg_callV_I (kc := 12) (ks := 72) (st := [iv (M3 x1 3), iv 3, .ref x1]) (mX11_tradeOf hl x0 h0 z1 hz1 M3 hM3) bX11_tradeOf xcl11 h0 rfl xq_503 rfl (by decide) rfl (Nat.le_of_ble_eq_true rfl) dL_instruct_184 (Eq.refl 187) rfl (by omega) (by omega) ?_
    intro z4 M5 hz4 hM5
    refine xg_aload_n dL_instruct_187 (Eq.refl 188) rfl ?_
    refine xg_iconst dL_instruct_188 (Eq.refl 189) ?_
    refine xg_ialdk (k := 3) h1 dL_instruct_189 (Eq.refl 190) rfl (by decide) ?_
    refine xg_icmp_ne (tgt := 197) dL_instruct_190 (Eq.refl 193) (by decide) hz4 (hM5.ai h1) ?_ ?_
    · refine xg_iconst dL_instruct_193 (Eq.refl 194) ?_
      refine xg_goto (tgt := 198) dL_instruct_194 (by decide) ?_
      exact xg_jump (gL_instruct_198 hl x0 h0 x1 h1 x2 h2 x3 h3 x4 h4 x5 h5 x6 h6 x7 h7 x8 h8 s0 hs0 z1 hz1 1 (by decide) (M3 x1 3) (hM3.ai h1) 3 (by decide) x1 h1 M5 hM5) (xsb_s (xsb_s (xsb_s (xsb_s (xsb_s (xsb_s (xsb_s (xsb_s (xsb_s (xsb_s (xsb_s (xsb_n xsb_0)))))))))))) (by omega) (by omega)
    · refine xg_iconst dL_instruct_197 (Eq.refl 198) ?_
      exact xg_jump (gL_instruct_198 hl x0 h0 x1 h1 x2 h2 x3 h3 x4 h4 x5 h5 x6 h6 x7 h7 x8 h8 s0 hs0 z1 hz1 0 (by decide) (M3 x1 3) (hM3.ai h1) 3 (by decide) x1 h1 M5 hM5) (xsb_s (xsb_s (xsb_s (xsb_s (xsb_s (xsb_s (xsb_s (xsb_s (xsb_s (xsb_s (xsb_s (xsb_n xsb_0)))))))))))) (by omega) (by omega)
theorem mL_instruct {l : Launch} {G : xG} (hl : l.stackTraces = false) (x0 : Nat) (h0 : xOb 11 x0) (x1 : Nat) (h1 : xAn 0 5 x1) (x2 : Int) (h2 : R32 x2) (M : xM) (hM : xcan M) : Cm l G yL_instruct cL_instruct 12 (some .int) 6 0 24 144 [.ref x0, .ref x1, iv x2] M (fL_instruct x0 x1 x2 M) := by
  refine xcm_of (u := uL_instruct) (ls := [some (.ref x0), some (.ref x1), some (iv x2), none, none, none, none, none, none, none, none, none]) 9 hl rfl (by decide +kernel) (Nat.le_of_ble_eq_true rfl) rfl ?_
  unfold fL_instruct
  refine xg_aload_n dL_instruct_0 (Eq.refl 1) rfl ?_
  refine xg_iconst dL_instruct_1 (Eq.refl 2) ?_
  refine xg_ialdk (k := 2) h1 dL_instruct_2 (Eq.refl 3) rfl (by decide) ?_
  refine xg_bipush dL_instruct_3 (Eq.refl 5) (by decide +kernel) ?_
  refine xg_icmp_ge (tgt := 16) dL_instruct_5 (Eq.refl 8) (by decide) (hM.ai h1) (by decide) ?_ ?_
  · refine xg_bipush dL_instruct_16 (Eq.refl 18) (by decide +kernel) ?_
    exact xg_iret rfl dL_instruct_18 rfl hM (by decide)
  · refine xg_aload_n dL_instruct_8 (Eq.refl 9) rfl ?_
    refine xg_iconst dL_instruct_9 (Eq.refl 10) ?_
    refine xg_ialdk (k := 3) h1 dL_instruct_10 (Eq.refl 11) rfl (by decide) ?_
    refine xg_bipush dL_instruct_11 (Eq.refl 13) (by decide +kernel) ?_
    refine xg_icmp_ne (tgt := 19) dL_instruct_13 (Eq.refl 16) (by decide) (hM.ai h1) (by decide) ?_ ?_
    · refine xg_bipush dL_instruct_16 (Eq.refl 18) (by decide +kernel) ?_
      exact xg_iret rfl dL_instruct_18 rfl hM (by decide)
    · refine xg_iload_n dL_instruct_19 (Eq.refl 20) rfl ?_
      refine xg_aload_n dL_instruct_20 (Eq.refl 21) rfl ?_
      refine xg_iconst dL_instruct_21 (Eq.refl 22) ?_
      refine xg_ialdk (k := 0) h1 dL_instruct_22 (Eq.refl 23) rfl (by decide) ?_
      refine xg_callS_I (kc := 24) (ks := 144) (st := []) (mL_low hl x2 h2 (M x1 0) (hM.ai h1) M hM) bL_low xq_120 rfl (by decide) rfl (by decide) dL_instruct_23 (Eq.refl 26) rfl (by omega) (by omega) ?_
      intro z1 M2 hz1 hM2
      refine xg_istore_n (ls2 := [some (.ref x0), some (.ref x1), some (iv x2), some (iv z1), none, none, none, none, none, none, none, none]) dL_instruct_26 (Eq.refl 27) (by decide) rfl ?_
      refine xg_iload_n dL_instruct_27 (Eq.refl 28) rfl ?_
      refine xg_iconst dL_instruct_28 (Eq.refl 29) ?_
      refine xg_ishr dL_instruct_29 (Eq.refl 30) ?_
      refine xg_aload_n dL_instruct_30 (Eq.refl 31) rfl ?_
      refine xg_iconst dL_instruct_31 (Eq.refl 32) ?_
      refine xg_ialdk (k := 0) h1 dL_instruct_32 (Eq.refl 33) rfl (by decide) ?_
      refine xg_iconst dL_instruct_33 (Eq.refl 34) ?_
      refine xg_iadd dL_instruct_34 (Eq.refl 35) ?_
      refine xg_callS_I (kc := 24) (ks := 144) (st := []) (mL_low hl (xshr x2 3) (xshr_r _ _) (w32 ((M2 x1 0) + 1)) (w32_r _) M2 hM2) bL_low xq_120 rfl (by decide) rfl (by decide) dL_instruct_35 (Eq.refl 38) rfl (by omega) (by omega) ?_
      intro z3 M4 hz3 hM4
      refine xg_iload_n dL_instruct_38 (Eq.refl 39) rfl ?_
      refine xg_bipush dL_instruct_39 (Eq.refl 41) (by decide +kernel) ?_
      refine xg_ishr dL_instruct_41 (Eq.refl 42) ?_
      refine xg_bipush dL_instruct_42 (Eq.refl 44) (by decide +kernel) ?_
      refine xg_callS_I (kc := 24) (ks := 144) (st := [iv z3]) (mL_low hl (xshr x2 9) (xshr_r _ _) 31 (by decide) M4 hM4) bL_low xq_120 rfl (by decide) rfl (Nat.le_of_ble_eq_true rfl) dL_instruct_44 (Eq.refl 47) rfl (by omega) (by omega) ?_
      intro z5 M6 hz5 hM6
      refine xg_bipush dL_instruct_47 (Eq.refl 49) (by decide +kernel) ?_
      refine xg_idivk dL_instruct_49 (Eq.refl 50) hz5 (by decide) ?_
      refine xg_isub dL_instruct_50 (Eq.refl 51) ?_
      refine xg_istoreL (P := R32) (ls2 := fun y7 => [some (.ref x0), some (.ref x1), some (iv x2), some (iv z1), some (iv y7), none, none, none, none, none, none, none]) dL_instruct_51 (Eq.refl 53) (by decide) (w32_r _) (fun _ => rfl) ?_
      intro y7 hy7
      refine xg_iload_n dL_instruct_53 (Eq.refl 54) rfl ?_
      refine xg_iconst dL_instruct_54 (Eq.refl 55) ?_
      refine xg_ishr dL_instruct_55 (Eq.refl 56) ?_
      refine xg_aload_n dL_instruct_56 (Eq.refl 57) rfl ?_
      refine xg_iconst dL_instruct_57 (Eq.refl 58) ?_
      refine xg_ialdk (k := 1) h1 dL_instruct_58 (Eq.refl 59) rfl (by decide) ?_
      refine xg_callS_I (kc := 24) (ks := 144) (st := []) (mL_low hl (xshr x2 5) (xshr_r _ _) (M6 x1 1) (hM6.ai h1) M6 hM6) bL_low xq_120 rfl (by decide) rfl (by decide) dL_instruct_59 (Eq.refl 62) rfl (by omega) (by omega) ?_
      intro z8 M9 hz8 hM9
      refine xg_istore (ls2 := [some (.ref x0), some (.ref x1), some (iv x2), some (iv z1), some (iv y7), some (iv z8), none, none, none, none, none, none]) dL_instruct_62 (Eq.refl 64) (by decide) rfl ?_
      refine xg_iconst dL_instruct_64 (Eq.refl 65) ?_
      refine xg_iload_n dL_instruct_65 (Eq.refl 66) rfl ?_
      refine xg_bipush dL_instruct_66 (Eq.refl 68) (by decide +kernel) ?_
      refine xg_ishr dL_instruct_68 (Eq.refl 69) ?_
      refine xg_bipush dL_instruct_69 (Eq.refl 71) (by decide +kernel) ?_
      refine xg_callS_I (kc := 24) (ks := 144) (st := [iv 1]) (mL_low hl (xshr x2 6) (xshr_r _ _) 60 (by decide) M9 hM9) bL_low xq_120 rfl (by decide) rfl (Nat.le_of_ble_eq_true rfl) dL_instruct_71 (Eq.refl 74) rfl (by omega) (by omega) ?_
      intro z10 M11 hz10 hM11
      refine xg_iadd dL_instruct_74 (Eq.refl 75) ?_
      refine xg_istoreL (P := R32) (ls2 := fun y12 => [some (.ref x0), some (.ref x1), some (iv x2), some (iv z1), some (iv y7), some (iv z8), some (iv y12), none, none, none, none, none]) dL_instruct_75 (Eq.refl 77) (by decide) (w32_r _) (fun _ => rfl) ?_
      intro y12 hy12
      refine xg_iload_n dL_instruct_77 (Eq.refl 78) rfl ?_
      refine xg_bipush dL_instruct_78 (Eq.refl 80) (by decide +kernel) ?_
      refine xg_ishr dL_instruct_80 (Eq.refl 81) ?_
      refine xg_sipush dL_instruct_81 (Eq.refl 84) (by decide +kernel) ?_
      refine xg_callS_I (kc := 24) (ks := 144) (st := []) (mL_low hl (xshr x2 8) (xshr_r _ _) 900 (by decide) M11 hM11) bL_low xq_120 rfl (by decide) rfl (by decide) dL_instruct_84 (Eq.refl 87) rfl (by omega) (by omega) ?_
      intro z13 M14 hz13 hM14
      refine xg_istore (ls2 := [some (.ref x0), some (.ref x1), some (iv x2), some (iv z1), some (iv y7), some (iv z8), some (iv y12), some (iv z13), none, none, none, none]) dL_instruct_87 (Eq.refl 89) (by decide) rfl ?_
      refine xg_aload_n dL_instruct_89 (Eq.refl 90) rfl ?_
      refine xg_callV_I (kc := 24) (ks := 144) (st := []) (mX11_today hl x0 h0 M14 hM14) bX11_today xcl11 h0 rfl xq_270 rfl (by decide) rfl (by decide) dL_instruct_90 (Eq.refl 93) rfl (by omega) (by omega) ?_
      intro z15 M16 hz15 hM16
      refine xg_iload_n dL_instruct_93 (Eq.refl 94) rfl ?_
      refine xg_bipush dL_instruct_94 (Eq.refl 96) (by decide +kernel) ?_
      refine xg_ishr dL_instruct_96 (Eq.refl 97) ?_
      refine xg_iconst dL_instruct_97 (Eq.refl 98) ?_
      refine xg_callS_I (kc := 24) (ks := 144) (st := [iv z15]) (mL_low hl (xshr x2 10) (xshr_r _ _) 3 (by decide) M16 hM16) bL_low xq_120 rfl (by decide) rfl (Nat.le_of_ble_eq_true rfl) dL_instruct_98 (Eq.refl 101) rfl (by omega) (by omega) ?_
      intro z17 M18 hz17 hM18
      refine xg_iadd dL_instruct_101 (Eq.refl 102) ?_
      refine xg_iload_n dL_instruct_102 (Eq.refl 103) rfl ?_
      refine xg_bipush dL_instruct_103 (Eq.refl 105) (by decide +kernel) ?_
      refine xg_ishr dL_instruct_105 (Eq.refl 106) ?_
      refine xg_bipush dL_instruct_106 (Eq.refl 108) (by decide +kernel) ?_
      refine xg_callS_I (kc := 24) (ks := 144) (st := [iv (w32 (z15 + z17))]) (mL_low hl (xshr x2 12) (xshr_r _ _) 19 (by decide) M18 hM18) bL_low xq_120 rfl (by decide) rfl (Nat.le_of_ble_eq_true rfl) dL_instruct_108 (Eq.refl 111) rfl (by omega) (by omega) ?_
      intro z19 M20 hz19 hM20
      refine xg_bipush dL_instruct_111 (Eq.refl 113) (by decide +kernel) ?_
      refine xg_idivk dL_instruct_113 (Eq.refl 114) hz19 (by decide) ?_
      refine xg_isub dL_instruct_114 (Eq.refl 115) ?_
      refine xg_istoreL (P := R32) (ls2 := fun y21 => [some (.ref x0), some (.ref x1), some (iv x2), some (iv z1), some (iv y7), some (iv z8), some (iv y12), some (iv z13), some (iv y21), none, none, none]) dL_instruct_115 (Eq.refl 117) (by decide) (w32_r _) (fun _ => rfl) ?_
      intro y21 hy21
      refine xg_iload_n dL_instruct_117 (Eq.refl 118) rfl ?_
      refine xg_bipush dL_instruct_118 (Eq.refl 120) (by decide +kernel) ?_
      refine xg_ishr dL_instruct_120 (Eq.refl 121) ?_
      refine xg_iconst dL_instruct_121 (Eq.refl 122) ?_
      refine xg_callS_I (kc := 24) (ks := 144) (st := []) (mL_low hl (xshr x2 11) (xshr_r _ _) 3 (by decide) M20 hM20) bL_low xq_120 rfl (by decide) rfl (by decide) dL_instruct_122 (Eq.refl 125) rfl (by omega) (by omega) ?_
      intro z22 M23 hz22 hM23
      refine xg_if_ne (tgt := 142) dL_instruct_125 (Eq.refl 128) (by decide) hz22 ?_ ?_
      · refine xg_iconst dL_instruct_128 (Eq.refl 129) ?_
        refine xg_iload_n dL_instruct_129 (Eq.refl 130) rfl ?_
        refine xg_bipush dL_instruct_130 (Eq.refl 132) (by decide +kernel) ?_
        refine xg_ishr dL_instruct_132 (Eq.refl 133) ?_
        refine xg_bipush dL_instruct_133 (Eq.refl 135) (by decide +kernel) ?_
        refine xg_callS_I (kc := 24) (ks := 144) (st := [iv 1]) (mL_low hl (xshr x2 12) (xshr_r _ _) 9 (by decide) M23 hM23) bL_low xq_120 rfl (by decide) rfl (Nat.le_of_ble_eq_true rfl) dL_instruct_135 (Eq.refl 138) rfl (by omega) (by omega) ?_
        intro z24 M25 hz24 hM25
        refine xg_iadd dL_instruct_138 (Eq.refl 139) ?_
        refine xg_goto (tgt := 143) dL_instruct_139 (by decide) ?_
        exact xg_jump (gL_instruct_143 hl x0 h0 x1 h1 x2 h2 z1 hz1 y7 hy7 z8 hz8 y12 hy12 z13 hz13 y21 hy21 (w32 (1 + z24)) (w32_r _) M25 hM25) (xsb_s (xsb_s (xsb_s (xsb_s (xsb_s (xsb_s (xsb_s (xsb_s (xsb_s (xsb_n (xsb_n (xsb_n xsb_0)))))))))))) (by omega) (by omega)
      · refine xg_iconst dL_instruct_142 (Eq.refl 143) ?_
        exact xg_jump (gL_instruct_143 hl x0 h0 x1 h1 x2 h2 z1 hz1 y7 hy7 z8 hz8 y12 hy12 z13 hz13 y21 hy21 0 (by decide) M23 hM23) (xsb_s (xsb_s (xsb_s (xsb_s (xsb_s (xsb_s (xsb_s (xsb_s (xsb_s (xsb_n (xsb_n (xsb_n xsb_0)))))))))))) (by omega) (by omega)
abbrev uL_act : xU := (RL, cL_act, 7, (some .int), [], "act")
theorem bL_act : xYS yL_act cL_act 7 (some .int) 4 := ⟨xq_425, xq_117, xq_426, ⟨by decide +kernel, by decide +kernel, by decide +kernel⟩, by decide⟩
theorem gL_act_297 {l : Launch} {G : xG} (hl : l.stackTraces = false) (x0 : Nat) (h0 : xOb 11 x0) (x1 : Nat) (h1 : xAn 0 5 x1) (x2 : Int) (h2 : R32 x2) (M : xM) (hM : xcan M) : Gv l G uL_act 7 0 2 12 297 [some (.ref x0), some (.ref x1), some (iv x2), none, none, none, none] [] M (fL_act_297 x0 x1 x2 M) := by
  unfold fL_act_297
  refine xg_aload_n dL_act_297 (Eq.refl 298) rfl ?_
  refine xg_iload_n dL_act_298 (Eq.refl 299) rfl ?_
  refine xg_aload_n dL_act_299 (Eq.refl 300) rfl ?_
  refine xg_iconst dL_act_300 (Eq.refl 301) ?_
  refine xg_ialdk (k := 1) h1 dL_act_301 (Eq.refl 302) rfl (by decide) ?_
  refine xg_callS_I (kc := 2) (ks := 12) (st := [.ref x0]) (mL_low hl x2 h2 (M x1 1) (hM.ai h1) M hM) bL_low xq_120 rfl (by decide) rfl (Nat.le_of_ble_eq_true rfl) dL_act_302 (Eq.refl 305) rfl (by omega) (by omega) ?_
  intro z1 M2 hz1 hM2
  refine xg_iconst dL_act_305 (Eq.refl 306) ?_
  refine xg_iload_n dL_act_306 (Eq.refl 307) rfl ?_
  refine xg_iconst dL_act_307 (Eq.refl 308) ?_
  refine xg_ishr dL_act_308 (Eq.refl 309) ?_
  refine xg_bipush dL_act_309 (Eq.refl 311) (by decide +kernel) ?_
  refine xg_callS_I (kc := 2) (ks := 12) (st := [iv 1, iv z1, .ref x0]) (mL_low hl (xshr x2 2) (xshr_r _ _) 40 (by decide) M2 hM2) bL_low xq_120 rfl (by decide) rfl (Nat.le_of_ble_eq_true rfl) dL_act_311 (Eq.refl 314) rfl (by omega) (by omega) ?_
  intro z3 M4 hz3 hM4
  refine xg_iadd dL_act_314 (Eq.refl 315) ?_
  refine xg_callV_I (kc := 0) (ks := 0) (st := []) (mX11_setPrice hl x0 h0 z1 hz1 (w32 (1 + z3)) (w32_r _) M4 hM4) bX11_setPrice xcl11 h0 rfl xq_623 rfl (by decide) rfl (by decide) dL_act_315 (Eq.refl 318) rfl (by omega) (by omega) ?_
  intro z5 M6 hz5 hM6
  exact xg_iret rfl dL_act_318 rfl hM6 hz5
theorem gL_act_292 {l : Launch} {G : xG} (hl : l.stackTraces = false) (x6 : Int) (h6 : R32 x6) (s0 : Int) (hs0 : B01 s0) (s1 : Int) (hs1 : R32 s1) (s2 : Int) (hs2 : R32 s2) (s3 : Nat) (hs3 : xAn 0 5 s3) (M : xM) (hM : xcan M) : Gv l G uL_act 7 0 0 0 292 [none, none, none, none, none, none, some (iv x6)] [iv s0, iv s1, iv s2, .ref s3] M (fL_act_292 x6 s0 s1 s2 s3 M) := by
  unfold fL_act_292
  refine xg_iadd dL_act_292 (Eq.refl 293) ?_
  refine xg_iast hs3 dL_act_293 (Eq.refl 294) hM (w32_r _) ?_
  intro M1 hM1
  refine xg_iload dL_act_294 (Eq.refl 296) rfl ?_
  exact xg_iret rfl dL_act_296 rfl hM1 h6
theorem gL_act_276 {l : Launch} {G : xG} (hl : l.stackTraces = false) (x1 : Nat) (h1 : xAn 0 5 x1) (s0 : Int) (hs0 : R32 s0) (M : xM) (hM : xcan M) : Gv l G uL_act 7 0 0 0 276 [none, some (.ref x1), none, none, none, none, none] [iv s0] M (fL_act_276 x1 s0 M) := by
  unfold fL_act_276
  refine xg_istore (ls2 := [none, some (.ref x1), none, none, none, none, some (iv s0)]) dL_act_276 (Eq.refl 278) (by decide) rfl ?_
  refine xg_aload_n dL_act_278 (Eq.refl 279) rfl ?_
  refine xg_iconst dL_act_279 (Eq.refl 280) ?_
  refine xg_dup2 dL_act_280 (Eq.refl 281) rfl rfl ?_
  refine xg_ialdk (k := 4) h1 dL_act_281 (Eq.refl 282) rfl (by decide) ?_
  refine xg_iload dL_act_282 (Eq.refl 284) rfl ?_
  refine xg_if_ge (tgt := 291) dL_act_284 (Eq.refl 287) (by decide) hs0 ?_ ?_
  · refine xg_iconst dL_act_291 (Eq.refl 292) ?_
    exact xg_jump (gL_act_292 hl s0 hs0 1 (by decide) (M x1 4) (hM.ai h1) 4 (by decide) x1 h1 M hM) (xsb_n (xsb_n (xsb_n (xsb_n (xsb_n (xsb_n (xsb_s xsb_0))))))) (by omega) (by omega)
  · refine xg_iconst dL_act_287 (Eq.refl 288) ?_
    refine xg_goto (tgt := 292) dL_act_288 (by decide) ?_
    exact xg_jump (gL_act_292 hl s0 hs0 0 (by decide) (M x1 4) (hM.ai h1) 4 (by decide) x1 h1 M hM) (xsb_n (xsb_n (xsb_n (xsb_n (xsb_n (xsb_n (xsb_s xsb_0))))))) (by omega) (by omega)
theorem gL_act_212 {l : Launch} {G : xG} (hl : l.stackTraces = false) (x0 : Nat) (h0 : xOb 11 x0) (x1 : Nat) (h1 : xAn 0 5 x1) (x2 : Int) (h2 : R32 x2) (M : xM) (hM : xcan M) : Gv l G uL_act 7 0 8 48 212 [some (.ref x0), some (.ref x1), some (iv x2), none, none, none, none] [] M (fL_act_212 x0 x1 x2 M) := by
  unfold fL_act_212
  refine xg_aload_n dL_act_212 (Eq.refl 213) rfl ?_
  refine xg_iconst dL_act_213 (Eq.refl 214) ?_
  refine xg_ialdk (k := 4) h1 dL_act_214 (Eq.refl 215) rfl (by decide) ?_
  refine xg_iconst dL_act_215 (Eq.refl 216) ?_
  refine xg_icmp_ne (tgt := 224) dL_act_216 (Eq.refl 219) (by decide) (hM.ai h1) (by decide) ?_ ?_
  · refine xg_bipush dL_act_219 (Eq.refl 221) (by decide +kernel) ?_
    refine xg_goto (tgt := 276) dL_act_221 (by decide) ?_
    exact xg_jump (gL_act_276 hl x1 h1 (-9) (by decide) M hM) (xsb_n (xsb_s (xsb_n (xsb_n (xsb_n (xsb_n (xsb_n xsb_0))))))) (by omega) (by omega)
  · refine xg_aload_n dL_act_224 (Eq.refl 225) rfl ?_
    refine xg_iload_n dL_act_225 (Eq.refl 226) rfl ?_
    refine xg_iconst dL_act_226 (Eq.refl 227) ?_
    refine xg_callS_I (kc := 8) (ks := 48) (st := [.ref x0]) (mL_low hl x2 h2 4 (by decide) M hM) bL_low xq_120 rfl (by decide) rfl (Nat.le_of_ble_eq_true rfl) dL_act_227 (Eq.refl 230) rfl (by omega) (by omega) ?_
    intro z1 M2 hz1 hM2
    refine xg_iload_n dL_act_230 (Eq.refl 231) rfl ?_
    refine xg_iconst dL_act_231 (Eq.refl 232) ?_
    refine xg_ishr dL_act_232 (Eq.refl 233) ?_
    refine xg_aload_n dL_act_233 (Eq.refl 234) rfl ?_
    refine xg_iconst dL_act_234 (Eq.refl 235) ?_
    refine xg_ialdk (k := 1) h1 dL_act_235 (Eq.refl 236) rfl (by decide) ?_
    refine xg_iconst dL_act_236 (Eq.refl 237) ?_
    refine xg_iadd dL_act_237 (Eq.refl 238) ?_
    refine xg_callS_I (kc := 8) (ks := 48) (st := [iv z1, .ref x0]) (mL_low hl (xshr x2 2) (xshr_r _ _) (w32 ((M2 x1 1) + 1)) (w32_r _) M2 hM2) bL_low xq_120 rfl (by decide) rfl (Nat.le_of_ble_eq_true rfl) dL_act_238 (Eq.refl 241) rfl (by omega) (by omega) ?_
    intro z3 M4 hz3 hM4
    refine xg_iconst dL_act_241 (Eq.refl 242) ?_
    refine xg_iload_n dL_act_242 (Eq.refl 243) rfl ?_
    refine xg_iconst dL_act_243 (Eq.refl 244) ?_
    refine xg_ishr dL_act_244 (Eq.refl 245) ?_
    refine xg_iconst dL_act_245 (Eq.refl 246) ?_
    refine xg_callS_I (kc := 8) (ks := 48) (st := [iv 1, iv z3, iv z1, .ref x0]) (mL_low hl (xshr x2 4) (xshr_r _ _) 3 (by decide) M4 hM4) bL_low xq_120 rfl (by decide) rfl (Nat.le_of_ble_eq_true rfl) dL_act_246 (Eq.refl 249) rfl (by omega) (by omega) ?_
    intro z5 M6 hz5 hM6
    refine xg_iadd dL_act_249 (Eq.refl 250) ?_
    refine xg_iconst dL_act_250 (Eq.refl 251) ?_
    refine xg_iload_n dL_act_251 (Eq.refl 252) rfl ?_
    refine xg_bipush dL_act_252 (Eq.refl 254) (by decide +kernel) ?_
    refine xg_ishr dL_act_254 (Eq.refl 255) ?_
    refine xg_iconst dL_act_255 (Eq.refl 256) ?_
    refine xg_callS_I (kc := 8) (ks := 48) (st := [iv 1, iv (w32 (1 + z5)), iv z3, iv z1, .ref x0]) (mL_low hl (xshr x2 6) (xshr_r _ _) 3 (by decide) M6 hM6) bL_low xq_120 rfl (by decide) rfl (Nat.le_of_ble_eq_true rfl) dL_act_256 (Eq.refl 259) rfl (by omega) (by omega) ?_
    intro z7 M8 hz7 hM8
    refine xg_iadd dL_act_259 (Eq.refl 260) ?_
    refine xg_aload_n dL_act_260 (Eq.refl 261) rfl ?_
    refine xg_callV_I (kc := 8) (ks := 48) (st := [iv (w32 (1 + z7)), iv (w32 (1 + z5)), iv z3, iv z1, .ref x0]) (mX11_today hl x0 h0 M8 hM8) bX11_today xcl11 h0 rfl xq_270 rfl (by decide) rfl (Nat.le_of_ble_eq_true rfl) dL_act_261 (Eq.refl 264) rfl (by omega) (by omega) ?_
    intro z9 M10 hz9 hM10
    refine xg_iload_n dL_act_264 (Eq.refl 265) rfl ?_
    refine xg_bipush dL_act_265 (Eq.refl 267) (by decide +kernel) ?_
    refine xg_ishr dL_act_267 (Eq.refl 268) ?_
    refine xg_iconst dL_act_268 (Eq.refl 269) ?_
    refine xg_callS_I (kc := 8) (ks := 48) (st := [iv z9, iv (w32 (1 + z7)), iv (w32 (1 + z5)), iv z3, iv z1, .ref x0]) (mL_low hl (xshr x2 8) (xshr_r _ _) 2 (by decide) M10 hM10) bL_low xq_120 rfl (by decide) rfl (Nat.le_of_ble_eq_true rfl) dL_act_269 (Eq.refl 272) rfl (by omega) (by omega) ?_
    intro z11 M12 hz11 hM12
    refine xg_iadd dL_act_272 (Eq.refl 273) ?_
    refine xg_callWC_I (kc := 0) (ks := 0) (st := []) (mL_announces hl x0 h0 z1 hz1 z3 hz3 (w32 (1 + z5)) (w32_r _) (w32 (1 + z7)) (w32_r _) (w32 (z9 + z11)) (w32_r _) M12 hM12) bL_announces xq_604 rfl (by decide) (by decide) dL_act_273 (Eq.refl 276) rfl (by omega) (by omega) ?_
    intro z13 M14 hz13 hM14
    exact xg_jump (gL_act_276 hl x1 h1 z13 hz13 M14 hM14) (xsb_n (xsb_s (xsb_n (xsb_n (xsb_n (xsb_n (xsb_n xsb_0))))))) (by omega) (by omega)
theorem gL_act_196 {l : Launch} {G : xG} (hl : l.stackTraces = false) (x0 : Nat) (h0 : xOb 11 x0) (x2 : Int) (h2 : R32 x2) (M : xM) (hM : xcan M) : Gv l G uL_act 7 0 2 12 196 [some (.ref x0), none, some (iv x2), none, none, none, none] [] M (fL_act_196 x0 x2 M) := by
  unfold fL_act_196
  refine xg_aload_n dL_act_196 (Eq.refl 197) rfl ?_
  refine xg_iload_n dL_act_197 (Eq.refl 198) rfl ?_
  refine xg_aload_n dL_act_198 (Eq.refl 199) rfl ?_
  refine xg_callV_I (kc := 2) (ks := 12) (st := [iv x2, .ref x0]) (mX11_loans hl x0 h0 M hM) bX11_loans xcl11 h0 rfl xq_275 rfl (by decide) rfl (Nat.le_of_ble_eq_true rfl) dL_act_199 (Eq.refl 202) rfl (by omega) (by omega) ?_
  intro z1 M2 hz1 hM2
  refine xg_iconst dL_act_202 (Eq.refl 203) ?_
  refine xg_iadd dL_act_203 (Eq.refl 204) ?_
  refine xg_callS_I (kc := 2) (ks := 12) (st := [.ref x0]) (mL_low hl x2 h2 (w32 (z1 + 1)) (w32_r _) M2 hM2) bL_low xq_120 rfl (by decide) rfl (Nat.le_of_ble_eq_true rfl) dL_act_204 (Eq.refl 207) rfl (by omega) (by omega) ?_
  intro z3 M4 hz3 hM4
  refine xg_callWC_J (kc := 0) (ks := 0) (st := []) (mL_recalls hl x0 h0 z3 hz3 M4 hM4) bL_recalls xq_586 rfl (by decide) (by decide) dL_act_207 (Eq.refl 210) rfl (by omega) (by omega) ?_
  intro z5 M6 hz5 hM6
  refine xg_l2i dL_act_210 (Eq.refl 211) ?_
  exact xg_iret rfl dL_act_211 rfl hM6 (w32_r _)
theorem gL_act_192 {l : Launch} {G : xG} (hl : l.stackTraces = false) (s0 : Int) (hs0 : B01 s0) (s1 : Int) (hs1 : R32 s1) (s2 : Int) (hs2 : R32 s2) (s3 : Nat) (hs3 : xOb 11 s3) (M : xM) (hM : xcan M) : Gv l G uL_act 7 0 5 30 192 [none, none, none, none, none, none, none] [iv s0, iv s1, iv s2, .ref s3] M (fL_act_192 s0 s1 s2 s3 M) := by
  unfold fL_act_192
  refine xg_callWC_I (kc := 0) (ks := 0) (st := []) (mL_links hl s3 hs3 s2 hs2 s1 hs1 s0 hs0 M hM) bL_links xq_569 rfl (by decide) (by decide) dL_act_192 (Eq.refl 195) rfl (by omega) (by omega) ?_
  intro z1 M2 hz1 hM2
  exact xg_iret rfl dL_act_195 rfl hM2 hz1
theorem gL_act_152 {l : Launch} {G : xG} (hl : l.stackTraces = false) (x0 : Nat) (h0 : xOb 11 x0) (x1 : Nat) (h1 : xAn 0 5 x1) (x2 : Int) (h2 : R32 x2) (M : xM) (hM : xcan M) : Gv l G uL_act 7 0 5 30 152 [some (.ref x0), some (.ref x1), some (iv x2), none, none, none, none] [] M (fL_act_152 x0 x1 x2 M) := by
  unfold fL_act_152
  refine xg_aload_n dL_act_152 (Eq.refl 153) rfl ?_
  refine xg_iload_n dL_act_153 (Eq.refl 154) rfl ?_
  refine xg_iconst dL_act_154 (Eq.refl 155) ?_
  refine xg_ishr dL_act_155 (Eq.refl 156) ?_
  refine xg_aload_n dL_act_156 (Eq.refl 157) rfl ?_
  refine xg_iconst dL_act_157 (Eq.refl 158) ?_
  refine xg_ialdk (k := 3) h1 dL_act_158 (Eq.refl 159) rfl (by decide) ?_
  refine xg_iconst dL_act_159 (Eq.refl 160) ?_
  refine xg_iadd dL_act_160 (Eq.refl 161) ?_
  refine xg_callS_I (kc := 5) (ks := 30) (st := [.ref x0]) (mL_low hl (xshr x2 3) (xshr_r _ _) (w32 ((M x1 3) + 1)) (w32_r _) M hM) bL_low xq_120 rfl (by decide) rfl (Nat.le_of_ble_eq_true rfl) dL_act_161 (Eq.refl 164) rfl (by omega) (by omega) ?_
  intro z1 M2 hz1 hM2
  refine xg_iload_n dL_act_164 (Eq.refl 165) rfl ?_
  refine xg_bipush dL_act_165 (Eq.refl 167) (by decide +kernel) ?_
  refine xg_ishr dL_act_167 (Eq.refl 168) ?_
  refine xg_aload_n dL_act_168 (Eq.refl 169) rfl ?_
  refine xg_iconst dL_act_169 (Eq.refl 170) ?_
  refine xg_ialdk (k := 3) h1 dL_act_170 (Eq.refl 171) rfl (by decide) ?_
  refine xg_iconst dL_act_171 (Eq.refl 172) ?_
  refine xg_iadd dL_act_172 (Eq.refl 173) ?_
  refine xg_callS_I (kc := 5) (ks := 30) (st := [iv z1, .ref x0]) (mL_low hl (xshr x2 6) (xshr_r _ _) (w32 ((M2 x1 3) + 1)) (w32_r _) M2 hM2) bL_low xq_120 rfl (by decide) rfl (Nat.le_of_ble_eq_true rfl) dL_act_173 (Eq.refl 176) rfl (by omega) (by omega) ?_
  intro z3 M4 hz3 hM4
  refine xg_iload_n dL_act_176 (Eq.refl 177) rfl ?_
  refine xg_bipush dL_act_177 (Eq.refl 179) (by decide +kernel) ?_
  refine xg_ishr dL_act_179 (Eq.refl 180) ?_
  refine xg_iconst dL_act_180 (Eq.refl 181) ?_
  refine xg_callS_I (kc := 5) (ks := 30) (st := [iv z3, iv z1, .ref x0]) (mL_low hl (xshr x2 9) (xshr_r _ _) 2 (by decide) M4 hM4) bL_low xq_120 rfl (by decide) rfl (Nat.le_of_ble_eq_true rfl) dL_act_181 (Eq.refl 184) rfl (by omega) (by omega) ?_
  intro z5 M6 hz5 hM6
  refine xg_if_ne (tgt := 191) dL_act_184 (Eq.refl 187) (by decide) hz5 ?_ ?_
  · refine xg_iconst dL_act_187 (Eq.refl 188) ?_
    refine xg_goto (tgt := 192) dL_act_188 (by decide) ?_
    exact xg_jump (gL_act_192 hl 1 (by decide) z3 hz3 z1 hz1 x0 h0 M6 hM6) (xsb_n (xsb_n (xsb_n (xsb_n (xsb_n (xsb_n (xsb_n xsb_0))))))) (by omega) (by omega)
  · refine xg_iconst dL_act_191 (Eq.refl 192) ?_
    exact xg_jump (gL_act_192 hl 0 (by decide) z3 hz3 z1 hz1 x0 h0 M6 hM6) (xsb_n (xsb_n (xsb_n (xsb_n (xsb_n (xsb_n (xsb_n xsb_0))))))) (by omega) (by omega)
theorem gL_act_125 {l : Launch} {G : xG} (hl : l.stackTraces = false) (x0 : Nat) (h0 : xOb 11 x0) (x2 : Int) (h2 : R32 x2) (x5 : Int) (h5 : R32 x5) (M : xM) (hM : xcan M) : Gv l G uL_act 7 0 2 12 125 [some (.ref x0), none, some (iv x2), none, none, some (iv x5), none] [] M (fL_act_125 x0 x2 x5 M) := by
  unfold fL_act_125
  refine xg_iload_n dL_act_125 (Eq.refl 126) rfl ?_
  refine xg_bipush dL_act_126 (Eq.refl 128) (by decide +kernel) ?_
  refine xg_ishr dL_act_128 (Eq.refl 129) ?_
  refine xg_iconst dL_act_129 (Eq.refl 130) ?_
  refine xg_callS_I (kc := 2) (ks := 12) (st := []) (mL_low hl (xshr x2 8) (xshr_r _ _) 3 (by decide) M hM) bL_low xq_120 rfl (by decide) rfl (by decide) dL_act_130 (Eq.refl 133) rfl (by omega) (by omega) ?_
  intro z1 M2 hz1 hM2
  refine xg_if_ne (tgt := 145) dL_act_133 (Eq.refl 136) (by decide) hz1 ?_ ?_
  · refine xg_aload_n dL_act_136 (Eq.refl 137) rfl ?_
    refine xg_iload dL_act_137 (Eq.refl 139) rfl ?_
    refine xg_callWC_I (kc := 0) (ks := 0) (st := []) (mL_cancels hl x0 h0 x5 h5 M2 hM2) bL_cancels xq_525 rfl (by decide) (by decide) dL_act_139 (Eq.refl 142) rfl (by omega) (by omega) ?_
    intro z3 M4 hz3 hM4
    refine xg_goto (tgt := 151) dL_act_142 (by decide) ?_
    exact xg_iret rfl dL_act_151 rfl hM4 hz3
  · refine xg_aload_n dL_act_145 (Eq.refl 146) rfl ?_
    refine xg_iload dL_act_146 (Eq.refl 148) rfl ?_
    refine xg_callWC_I (kc := 0) (ks := 0) (st := []) (mL_holds hl x0 h0 x5 h5 M2 hM2) bL_holds xq_561 rfl (by decide) (by decide) dL_act_148 (Eq.refl 151) rfl (by omega) (by omega) ?_
    intro z5 M6 hz5 hM6
    exact xg_iret rfl dL_act_151 rfl hM6 hz5
theorem gL_act_95 {l : Launch} {G : xG} (hl : l.stackTraces = false) (x0 : Nat) (h0 : xOb 11 x0) (x1 : Nat) (h1 : xAn 0 5 x1) (x2 : Int) (h2 : R32 x2) (x4 : Int) (h4 : R32 x4) (M : xM) (hM : xcan M) : Gv l G uL_act 7 0 4 24 95 [some (.ref x0), some (.ref x1), some (iv x2), none, some (iv x4), none, none] [] M (fL_act_95 x0 x1 x2 x4 M) := by
  unfold fL_act_95
  refine xg_aload_n dL_act_95 (Eq.refl 96) rfl ?_
  refine xg_iload dL_act_96 (Eq.refl 98) rfl ?_
  refine xg_iload_n dL_act_98 (Eq.refl 99) rfl ?_
  refine xg_iconst dL_act_99 (Eq.refl 100) ?_
  refine xg_ishr dL_act_100 (Eq.refl 101) ?_
  refine xg_aload_n dL_act_101 (Eq.refl 102) rfl ?_
  refine xg_iconst dL_act_102 (Eq.refl 103) ?_
  refine xg_ialdk (k := 1) h1 dL_act_103 (Eq.refl 104) rfl (by decide) ?_
  refine xg_iconst dL_act_104 (Eq.refl 105) ?_
  refine xg_iadd dL_act_105 (Eq.refl 106) ?_
  refine xg_callS_I (kc := 4) (ks := 24) (st := [iv x4, .ref x0]) (mL_low hl (xshr x2 4) (xshr_r _ _) (w32 ((M x1 1) + 1)) (w32_r _) M hM) bL_low xq_120 rfl (by decide) rfl (Nat.le_of_ble_eq_true rfl) dL_act_106 (Eq.refl 109) rfl (by omega) (by omega) ?_
  intro z1 M2 hz1 hM2
  refine xg_iload_n dL_act_109 (Eq.refl 110) rfl ?_
  refine xg_bipush dL_act_110 (Eq.refl 112) (by decide +kernel) ?_
  refine xg_ishr dL_act_112 (Eq.refl 113) ?_
  refine xg_bipush dL_act_113 (Eq.refl 115) (by decide +kernel) ?_
  refine xg_callS_I (kc := 4) (ks := 24) (st := [iv z1, iv x4, .ref x0]) (mL_low hl (xshr x2 6) (xshr_r _ _) 40 (by decide) M2 hM2) bL_low xq_120 rfl (by decide) rfl (Nat.le_of_ble_eq_true rfl) dL_act_115 (Eq.refl 118) rfl (by omega) (by omega) ?_
  intro z3 M4 hz3 hM4
  refine xg_iconst dL_act_118 (Eq.refl 119) ?_
  refine xg_isub dL_act_119 (Eq.refl 120) ?_
  refine xg_callWC_J (kc := 0) (ks := 0) (st := []) (mL_blocks hl x0 h0 x4 h4 z1 hz1 (w32 (z3 - 1)) (w32_r _) M4 hM4) bL_blocks xq_508 rfl (by decide) (by decide) dL_act_120 (Eq.refl 123) rfl (by omega) (by omega) ?_
  intro z5 M6 hz5 hM6
  refine xg_l2i dL_act_123 (Eq.refl 124) ?_
  exact xg_iret rfl dL_act_124 rfl hM6 (w32_r _)
theorem gL_act_88 {l : Launch} {G : xG} (hl : l.stackTraces = false) (x0 : Nat) (h0 : xOb 11 x0) (x1 : Nat) (h1 : xAn 0 5 x1) (x2 : Int) (h2 : R32 x2) (M : xM) (hM : xcan M) : Gv l G uL_act 7 0 24 144 88 [some (.ref x0), some (.ref x1), some (iv x2), none, none, none, none] [] M (fL_act_88 x0 x1 x2 M) := by
  unfold fL_act_88
  refine xg_aload_n dL_act_88 (Eq.refl 89) rfl ?_
  refine xg_aload_n dL_act_89 (Eq.refl 90) rfl ?_
  refine xg_iload_n dL_act_90 (Eq.refl 91) rfl ?_
  refine xg_callS_I (kc := 0) (ks := 0) (st := []) (mL_instruct hl x0 h0 x1 h1 x2 h2 M hM) bL_instruct xq_427 rfl (by decide) rfl (by decide) dL_act_91 (Eq.refl 94) rfl (by omega) (by omega) ?_
  intro z1 M2 hz1 hM2
  exact xg_iret rfl dL_act_94 rfl hM2 hz1
theorem mL_act {l : Launch} {G : xG} (hl : l.stackTraces = false) (x0 : Nat) (h0 : xOb 11 x0) (x1 : Nat) (h1 : xAn 0 5 x1) (x2 : Int) (h2 : R32 x2) (x3 : Int) (h3 : R32 x3) (M : xM) (hM : xcan M) : Cm l G yL_act cL_act 7 (some .int) 7 0 24 144 [.ref x0, .ref x1, iv x2, iv x3] M (fL_act x0 x1 x2 x3 M) := by
  refine xcm_of (u := uL_act) (ls := [some (.ref x0), some (.ref x1), some (iv x2), some (iv x3), none, none, none]) 3 hl rfl (by decide +kernel) (Nat.le_of_ble_eq_true rfl) rfl ?_
  unfold fL_act
  refine xg_iload_n dL_act_0 (Eq.refl 1) rfl ?_
  refine xg_aload_n dL_act_1 (Eq.refl 2) rfl ?_
  refine xg_iconst dL_act_2 (Eq.refl 3) ?_
  refine xg_ialdk (k := 0) h1 dL_act_3 (Eq.refl 4) rfl (by decide) ?_
  refine xg_iconst dL_act_4 (Eq.refl 5) ?_
  refine xg_iadd dL_act_5 (Eq.refl 6) ?_
  refine xg_callS_I (kc := 24) (ks := 144) (st := []) (mL_low hl x2 h2 (w32 ((M x1 0) + 1)) (w32_r _) M hM) bL_low xq_120 rfl (by decide) rfl (by decide) dL_act_6 (Eq.refl 9) rfl (by omega) (by omega) ?_
  intro z1 M2 hz1 hM2
  refine xg_iload_n dL_act_9 (Eq.refl 10) rfl ?_
  refine xg_bipush dL_act_10 (Eq.refl 12) (by decide +kernel) ?_
  refine xg_ishr dL_act_12 (Eq.refl 13) ?_
  refine xg_bipush dL_act_13 (Eq.refl 15) (by decide +kernel) ?_
  refine xg_callS_I (kc := 24) (ks := 144) (st := [iv z1]) (mL_low hl (xshr x2 9) (xshr_r _ _) 31 (by decide) M2 hM2) bL_low xq_120 rfl (by decide) rfl (Nat.le_of_ble_eq_true rfl) dL_act_15 (Eq.refl 18) rfl (by omega) (by omega) ?_
  intro z3 M4 hz3 hM4
  refine xg_bipush dL_act_18 (Eq.refl 20) (by decide +kernel) ?_
  refine xg_idivk dL_act_20 (Eq.refl 21) hz3 (by decide) ?_
  refine xg_isub dL_act_21 (Eq.refl 22) ?_
  refine xg_istoreL (P := R32) (ls2 := fun y5 => [some (.ref x0), some (.ref x1), some (iv x2), some (iv x3), some (iv y5), none, none]) dL_act_22 (Eq.refl 24) (by decide) (w32_r _) (fun _ => rfl) ?_
  intro y5 hy5
  refine xg_iload_n dL_act_24 (Eq.refl 25) rfl ?_
  refine xg_iconst dL_act_25 (Eq.refl 26) ?_
  refine xg_ishr dL_act_26 (Eq.refl 27) ?_
  refine xg_aload_n dL_act_27 (Eq.refl 28) rfl ?_
  refine xg_iconst dL_act_28 (Eq.refl 29) ?_
  refine xg_ialdk (k := 2) h1 dL_act_29 (Eq.refl 30) rfl (by decide) ?_
  refine xg_iconst dL_act_30 (Eq.refl 31) ?_
  refine xg_iadd dL_act_31 (Eq.refl 32) ?_
  refine xg_callS_I (kc := 24) (ks := 144) (st := []) (mL_low hl (xshr x2 2) (xshr_r _ _) (w32 ((M4 x1 2) + 1)) (w32_r _) M4 hM4) bL_low xq_120 rfl (by decide) rfl (by decide) dL_act_32 (Eq.refl 35) rfl (by omega) (by omega) ?_
  intro z6 M7 hz6 hM7
  refine xg_istore (ls2 := [some (.ref x0), some (.ref x1), some (iv x2), some (iv x3), some (iv y5), some (iv z6), none]) dL_act_35 (Eq.refl 37) (by decide) rfl ?_
  refine xg_iload_n dL_act_37 (Eq.refl 38) rfl ?_
  refine xg_tab (tgt := 297) dL_act_38 h3 (by decide) ?_ ?_
  · exact xg_jump (gL_act_297 hl x0 h0 x1 h1 x2 h2 M7 hM7) (xsb_s (xsb_s (xsb_s (xsb_n (xsb_n (xsb_n (xsb_n xsb_0))))))) (by omega) (by omega)
  · intro i hi
    match i, hi with
    | 0, _ => exact ⟨50, 88, rfl, by decide, xg_jump (gL_act_88 hl x0 h0 x1 h1 x2 h2 M7 hM7) (xsb_s (xsb_s (xsb_s (xsb_n (xsb_n (xsb_n (xsb_n xsb_0))))))) (by omega) (by omega)⟩
    | 1, _ => exact ⟨50, 88, rfl, by decide, xg_jump (gL_act_88 hl x0 h0 x1 h1 x2 h2 M7 hM7) (xsb_s (xsb_s (xsb_s (xsb_n (xsb_n (xsb_n (xsb_n xsb_0))))))) (by omega) (by omega)⟩
    | 2, _ => exact ⟨50, 88, rfl, by decide, xg_jump (gL_act_88 hl x0 h0 x1 h1 x2 h2 M7 hM7) (xsb_s (xsb_s (xsb_s (xsb_n (xsb_n (xsb_n (xsb_n xsb_0))))))) (by omega) (by omega)⟩
    | 3, _ => exact ⟨50, 88, rfl, by decide, xg_jump (gL_act_88 hl x0 h0 x1 h1 x2 h2 M7 hM7) (xsb_s (xsb_s (xsb_s (xsb_n (xsb_n (xsb_n (xsb_n xsb_0))))))) (by omega) (by omega)⟩
    | 4, _ => exact ⟨57, 95, rfl, by decide, xg_jump (gL_act_95 hl x0 h0 x1 h1 x2 h2 y5 hy5 M7 hM7) (xsb_s (xsb_s (xsb_s (xsb_n (xsb_s (xsb_n (xsb_n xsb_0))))))) (by omega) (by omega)⟩
    | 5, _ => exact ⟨87, 125, rfl, by decide, xg_jump (gL_act_125 hl x0 h0 x2 h2 z6 hz6 M7 hM7) (xsb_s (xsb_n (xsb_s (xsb_n (xsb_n (xsb_s (xsb_n xsb_0))))))) (by omega) (by omega)⟩
    | 6, _ => exact ⟨114, 152, rfl, by decide, xg_jump (gL_act_152 hl x0 h0 x1 h1 x2 h2 M7 hM7) (xsb_s (xsb_s (xsb_s (xsb_n (xsb_n (xsb_n (xsb_n xsb_0))))))) (by omega) (by omega)⟩
    | 7, _ => exact ⟨158, 196, rfl, by decide, xg_jump (gL_act_196 hl x0 h0 x2 h2 M7 hM7) (xsb_s (xsb_n (xsb_s (xsb_n (xsb_n (xsb_n (xsb_n xsb_0))))))) (by omega) (by omega)⟩
    | 8, _ => exact ⟨174, 212, rfl, by decide, xg_jump (gL_act_212 hl x0 h0 x1 h1 x2 h2 M7 hM7) (xsb_s (xsb_s (xsb_s (xsb_n (xsb_n (xsb_n (xsb_n xsb_0))))))) (by omega) (by omega)⟩
    | i + 9, hi => exact absurd hi (by omega)
